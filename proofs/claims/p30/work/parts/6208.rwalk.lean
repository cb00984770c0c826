abbrev rm_X11_deskNow : Room := { frames := 5, cells := 11, slots := 176, locals := 112 }
theorem i_X11_deskNow_X11 : ∀ w ∈ wsX110, w ∈ wsX11_deskNow := fun _ h => List.mem_cons_of_mem _ (List.mem_append_left _ (List.mem_append_left _ (List.mem_append_left _ (List.mem_append_right _ h))))
theorem i_X11_deskNow_X10 : ∀ w ∈ wsX100, w ∈ wsX11_deskNow := fun _ h => List.mem_cons_of_mem _ (List.mem_append_left _ (List.mem_append_left _ (List.mem_append_right _ h)))
theorem i_X11_deskNow_X9 : ∀ w ∈ wsX90, w ∈ wsX11_deskNow := fun _ h => List.mem_cons_of_mem _ (List.mem_append_left _ (List.mem_append_right _ h))
def u_X11_deskNow_95 (Γ : RG) (post : Int32 → MS → Prop) (a1 : Int32) : Nat → MS → Int32 → Int32 → Prop
  | 0, _, _, _ => False
  | n + 1, σ, v2, v3 => w_lw_Jx4a65c_size_8abf5 Γ (fun r12 σ11 => ((r12 ≤ v3 → post v2 σ11) ∧ (¬ r12 ≤ v3 → w_lw_Jx4a65c_get_915e3 Γ (fun j15 σ14 => ((j15 < 14 ∧ j15 < Γ.2.2.1) ∧ (((σ14 (33 + j15) 7) = (a1 - 4) → u_X11_deskNow_95 Γ post a1 n σ14 (v2 + 1) (v3 + 1)) ∧ (¬ (σ14 (33 + j15) 7) = (a1 - 4) → u_X11_deskNow_95 Γ post a1 n σ14 (v2 + 0) (v3 + 1))))) σ11 v3))) σ
set_option maxHeartbeats 4000000 in
set_option maxRecDepth 100000 in
theorem l_X11_deskNow_95 {p : Program} {l : Launch} {e : Env} {s : State} {m : MethodId} {args : Array Value} {below : List Frame} {meth : Method} {c : Code} {D : va_G} {cy : Nat → ClassId} {lay : Nat → Nat} {Γ : RG} {post : Int32 → MS → Prop} (a1 : Int32) (hC : CallFix p m c cX11_deskNow 8 s args wsX11_deskNow RX11) (hr : meth.sig.returnType = some .int) (hlocks : meth.locks = false) (hT : rT D cy lay Γ s) : ∀ (n : Nat), ∀ (σ : MS) (v2 : Int32) (v3 : Int32), u_X11_deskNow_95 Γ post a1 n σ v2 v3 → ∀ (H : Heap) (locs : List Loc) (ls : Array Slot), rG D cy lay Γ tn σ (rA cy lay Γ s.heap.size) s.heap H locs → lv_has ls 8 [(0, .ref (lay 0)), (1, .int a1), (2, .int v2), (3, .int v3)] → W p l e rm_X11_deskNow s m args below meth c H locs 0 0 (MQ below (va_Qi post (rO D cy lay Γ) (rA cy lay Γ s.heap.size)) args s 11 176 (rA cy lay Γ s.heap.size)) (F0 m 95 ls []) := by
  intro n
  induction n with
  | zero =>
    intro σ v2 v3 h
    exact h.elim
  | succ n ih =>
    intro σ v2 v3 h H locs ls G hl
    rw [u_X11_deskNow_95] at h
    refine lv_iload_n hC.1 hC.2.1 dX11_deskNow_95 rfl (lv_at hl 3 rfl) ?_
    refine lv_aload_n hC.1 hC.2.1 dX11_deskNow_96 rfl (lv_at hl 0 rfl) ?_
    refine rg_get hC hT G (by decide) r_mo k_X11 i_X11_deskNow_X11 5 (by decide) (wm 4 rfl) rfl dX11_deskNow_97 ?_
    refine rg_i G (rg_runV (As := []) (rest := [.int v3]) hC hT G (c_lw_Jx4a65c_size_8abf5 l D cy lay Γ h _) (cwV 0 hC.2.2.2.2 gX11_deskNow_Jx4a65c_size_8abf5 rfl rfl rfl hdV_Jx4a65c_size_8abf5 ⟨Nat.le_of_ble_eq_true rfl, Nat.le_of_ble_eq_true rfl⟩) (rg_recv hT G (by decide) r_lw k_AL) rfl hl.1 rfl (Nat.le_of_ble_eq_true rfl) dX11_deskNow_100 ⟨Nat.le_of_ble_eq_true rfl, Nat.le_of_ble_eq_true rfl⟩) (fun r12 σ11 H locs h G => ?_)
    (try dsimp only at h)
    refine lv_icmp_ge (tgt := 140) hC.1 hC.2.1 dX11_deskNow_103 (by decide) (fun c13 => ?_) (fun c13 => ?_)
    · replace h := h.1 c13
      refine lv_iload_n hC.1 hC.2.1 dX11_deskNow_140 rfl (lv_at hl 2 rfl) ?_
      refine W.widen (k := 11) (n := 176) (by decide) (by decide) ?_
      exact rg_iret hC hr hlocks G h dX11_deskNow_141
    · replace h := h.2 c13
      refine lv_iload_n hC.1 hC.2.1 dX11_deskNow_106 rfl (lv_at hl 2 rfl) ?_
      refine lv_aload_n hC.1 hC.2.1 dX11_deskNow_107 rfl (lv_at hl 0 rfl) ?_
      refine rg_get hC hT G (by decide) r_mo k_X11 i_X11_deskNow_X11 5 (by decide) (wm 4 rfl) rfl dX11_deskNow_108 ?_
      refine lv_iload_n hC.1 hC.2.1 dX11_deskNow_111 rfl (lv_at hl 3 rfl) ?_
      refine rg_r (f := fun i => lay (33 + i)) G (rg_runV (As := [.int v3]) (rest := [.int v2]) hC hT G (c_lw_Jx4a65c_get_915e3 l D cy lay Γ h _) (cwV 1 hC.2.2.2.2 gX11_deskNow_Jx4a65c_get_915e3 rfl rfl rfl hdV_Jx4a65c_get_915e3 ⟨Nat.le_of_ble_eq_true rfl, Nat.le_of_ble_eq_true rfl⟩) (rg_recv hT G (by decide) r_lw k_AL) rfl hl.1 rfl (Nat.le_of_ble_eq_true rfl) dX11_deskNow_112 ⟨Nat.le_of_ble_eq_true rfl, Nat.le_of_ble_eq_true rfl⟩) (fun j15 σ14 H locs h G => ?_)
      (try dsimp only at h)
      obtain ⟨hj16, h⟩ := h
      refine rg_cast hC hT k_X10 (wm 5 rfl) (rg_recv hT G (rk_wd hj16) (r_wd hj16) k_X10) dX11_deskNow_115 ?_
      refine rg_getN hC hT G (rk_wd hj16) (r_wd hj16) k_X10 i_X11_deskNow_X10 7 (by decide) 17 rfl rfl dX11_deskNow_118 ?_
      refine lv_iload_n hC.1 hC.2.1 dX11_deskNow_121 rfl (lv_at hl 1 rfl) ?_
      refine lv_iconst (v := 4) hC.1 hC.2.1 dX11_deskNow_122 (by decide) ?_
      refine lv_isub hC.1 hC.2.1 dX11_deskNow_123 ?_
      refine lv_icmp_ne (tgt := 131) hC.1 hC.2.1 dX11_deskNow_124 (by decide) (fun c17 => ?_) (fun c17 => ?_)
      · replace h := h.2 c17
        refine lv_iconst (v := 0) hC.1 hC.2.1 dX11_deskNow_131 (by decide) ?_
        refine lv_iadd hC.1 hC.2.1 dX11_deskNow_132 ?_
        refine lv_istore_n (lv' := [(2, .int (v2 + 0)), (0, .ref (lay 0)), (1, .int a1), (3, .int v3)]) hC.1 hC.2.1 dX11_deskNow_133 rfl hl (by decide) rfl (fun ls hl => ?_)
        refine lv_iinc (v := v3 + 1) (lv' := [(3, .int (v3 + 1)), (2, .int (v2 + 0)), (0, .ref (lay 0)), (1, .int a1)]) hC.1 hC.2.1 dX11_deskNow_134 hl (k := 3) rfl rfl (by decide) rfl (fun ls hl => ?_)
        refine lv_goto (tgt := 95) hC.1 hC.2.1 dX11_deskNow_137 (by decide) ?_
        exact ih _ _ _ h _ _ _ G (lv_sub hl [2, 3, 1, 0] rfl)
      · replace h := h.1 c17
        refine lv_iconst (v := 1) hC.1 hC.2.1 dX11_deskNow_127 (by decide) ?_
        refine lv_goto (tgt := 132) hC.1 hC.2.1 dX11_deskNow_128 (by decide) ?_
        refine lv_iadd hC.1 hC.2.1 dX11_deskNow_132 ?_
        refine lv_istore_n (lv' := [(2, .int (v2 + 1)), (0, .ref (lay 0)), (1, .int a1), (3, .int v3)]) hC.1 hC.2.1 dX11_deskNow_133 rfl hl (by decide) rfl (fun ls hl => ?_)
        refine lv_iinc (v := v3 + 1) (lv' := [(3, .int (v3 + 1)), (2, .int (v2 + 1)), (0, .ref (lay 0)), (1, .int a1)]) hC.1 hC.2.1 dX11_deskNow_134 hl (k := 3) rfl rfl (by decide) rfl (fun ls hl => ?_)
        refine lv_goto (tgt := 95) hC.1 hC.2.1 dX11_deskNow_137 (by decide) ?_
        exact ih _ _ _ h _ _ _ G (lv_sub hl [2, 3, 1, 0] rfl)
def u_X11_deskNow_149 (Γ : RG) (post : Int32 → MS → Prop) (a1 : Int32) : Nat → MS → Int32 → Int32 → Prop
  | 0, _, _, _ => False
  | n + 1, σ, v2, v3 => w_lp_Jx4a65c_size_8abf5 Γ (fun r24 σ23 => ((r24 ≤ v3 → post (v2 / 2) σ23) ∧ (¬ r24 ≤ v3 → w_lp_Jx4a65c_get_915e3 Γ (fun j27 σ26 => ((j27 < 10 ∧ j27 < Γ.1) ∧ w_r_J6_bitCount_0f7a4 Γ (fun r30 σ29 => u_X11_deskNow_149 Γ post a1 n σ29 (v2 + r30) (v3 + 1)) σ26 (σ26 (13 + j27) 4))) σ23 v3))) σ
set_option maxHeartbeats 4000000 in
set_option maxRecDepth 100000 in
theorem l_X11_deskNow_149 {p : Program} {l : Launch} {e : Env} {s : State} {m : MethodId} {args : Array Value} {below : List Frame} {meth : Method} {c : Code} {D : va_G} {cy : Nat → ClassId} {lay : Nat → Nat} {Γ : RG} {post : Int32 → MS → Prop} (a1 : Int32) (hC : CallFix p m c cX11_deskNow 8 s args wsX11_deskNow RX11) (hr : meth.sig.returnType = some .int) (hlocks : meth.locks = false) (hT : rT D cy lay Γ s) : ∀ (n : Nat), ∀ (σ : MS) (v2 : Int32) (v3 : Int32), u_X11_deskNow_149 Γ post a1 n σ v2 v3 → ∀ (H : Heap) (locs : List Loc) (ls : Array Slot), rG D cy lay Γ tn σ (rA cy lay Γ s.heap.size) s.heap H locs → lv_has ls 8 [(0, .ref (lay 0)), (1, .int a1), (2, .int v2), (3, .int v3)] → W p l e rm_X11_deskNow s m args below meth c H locs 0 0 (MQ below (va_Qi post (rO D cy lay Γ) (rA cy lay Γ s.heap.size)) args s 11 176 (rA cy lay Γ s.heap.size)) (F0 m 149 ls []) := by
  intro n
  induction n with
  | zero =>
    intro σ v2 v3 h
    exact h.elim
  | succ n ih =>
    intro σ v2 v3 h H locs ls G hl
    rw [u_X11_deskNow_149] at h
    refine lv_iload_n hC.1 hC.2.1 dX11_deskNow_149 rfl (lv_at hl 3 rfl) ?_
    refine lv_aload_n hC.1 hC.2.1 dX11_deskNow_150 rfl (lv_at hl 0 rfl) ?_
    refine rg_get hC hT G (by decide) r_mo k_X11 i_X11_deskNow_X11 3 (by decide) (wm 2 rfl) rfl dX11_deskNow_151 ?_
    refine rg_i G (rg_runV (As := []) (rest := [.int v3]) hC hT G (c_lp_Jx4a65c_size_8abf5 l D cy lay Γ h _) (cwV 0 hC.2.2.2.2 gX11_deskNow_Jx4a65c_size_8abf5 rfl rfl rfl hdV_Jx4a65c_size_8abf5 ⟨Nat.le_of_ble_eq_true rfl, Nat.le_of_ble_eq_true rfl⟩) (rg_recv hT G (by decide) r_lp k_AL) rfl hl.1 rfl (Nat.le_of_ble_eq_true rfl) dX11_deskNow_154 ⟨Nat.le_of_ble_eq_true rfl, Nat.le_of_ble_eq_true rfl⟩) (fun r24 σ23 H locs h G => ?_)
    (try dsimp only at h)
    refine lv_icmp_ge (tgt := 186) hC.1 hC.2.1 dX11_deskNow_157 (by decide) (fun c25 => ?_) (fun c25 => ?_)
    · replace h := h.1 c25
      refine lv_iload_n hC.1 hC.2.1 dX11_deskNow_186 rfl (lv_at hl 2 rfl) ?_
      refine lv_iconst (v := 2) hC.1 hC.2.1 dX11_deskNow_187 (by decide) ?_
      refine lv_idiv hC.1 hC.2.1 dX11_deskNow_188 (by decide) ?_
      refine W.widen (k := 11) (n := 176) (by decide) (by decide) ?_
      exact rg_iret hC hr hlocks G h dX11_deskNow_189
    · replace h := h.2 c25
      refine lv_iload_n hC.1 hC.2.1 dX11_deskNow_160 rfl (lv_at hl 2 rfl) ?_
      refine lv_aload_n hC.1 hC.2.1 dX11_deskNow_161 rfl (lv_at hl 0 rfl) ?_
      refine rg_get hC hT G (by decide) r_mo k_X11 i_X11_deskNow_X11 3 (by decide) (wm 2 rfl) rfl dX11_deskNow_162 ?_
      refine lv_iload_n hC.1 hC.2.1 dX11_deskNow_165 rfl (lv_at hl 3 rfl) ?_
      refine rg_r (f := fun i => lay (13 + i)) G (rg_runV (As := [.int v3]) (rest := [.int v2]) hC hT G (c_lp_Jx4a65c_get_915e3 l D cy lay Γ h _) (cwV 1 hC.2.2.2.2 gX11_deskNow_Jx4a65c_get_915e3 rfl rfl rfl hdV_Jx4a65c_get_915e3 ⟨Nat.le_of_ble_eq_true rfl, Nat.le_of_ble_eq_true rfl⟩) (rg_recv hT G (by decide) r_lp k_AL) rfl hl.1 rfl (Nat.le_of_ble_eq_true rfl) dX11_deskNow_166 ⟨Nat.le_of_ble_eq_true rfl, Nat.le_of_ble_eq_true rfl⟩) (fun j27 σ26 H locs h G => ?_)
      (try dsimp only at h)
      obtain ⟨hj28, h⟩ := h
      refine rg_cast hC hT k_X9 (wm 7 rfl) (rg_recv hT G (rk_pl hj28) (r_pl hj28) k_X9) dX11_deskNow_169 ?_
      refine rg_getN hC hT G (rk_pl hj28) (r_pl hj28) k_X9 i_X11_deskNow_X9 4 (by decide) 6 rfl rfl dX11_deskNow_172 ?_
      refine rg_i G (rg_runS (As := [.int (σ26 (13 + j27) 4)]) (rest := [.int v2]) hC hT G (c_r_J6_bitCount_0f7a4 l D cy lay Γ h _) (va_cwS 1 hC.2.2.2.2 gX11_deskNow_J6_bitCount_0f7a4 rfl rfl rfl hdS_J6_bitCount_0f7a4 ⟨Nat.le_of_ble_eq_true rfl, Nat.le_of_ble_eq_true rfl⟩) rfl hl.1 rfl (Nat.le_of_ble_eq_true rfl) dX11_deskNow_175 ⟨Nat.le_of_ble_eq_true rfl, Nat.le_of_ble_eq_true rfl⟩) (fun r30 σ29 H locs h G => ?_)
      (try dsimp only at h)
      refine lv_iadd hC.1 hC.2.1 dX11_deskNow_178 ?_
      refine lv_istore_n (lv' := [(2, .int (v2 + r30)), (0, .ref (lay 0)), (1, .int a1), (3, .int v3)]) hC.1 hC.2.1 dX11_deskNow_179 rfl hl (by decide) rfl (fun ls hl => ?_)
      refine lv_iinc (v := v3 + 1) (lv' := [(3, .int (v3 + 1)), (2, .int (v2 + r30)), (0, .ref (lay 0)), (1, .int a1)]) hC.1 hC.2.1 dX11_deskNow_180 hl (k := 3) rfl rfl (by decide) rfl (fun ls hl => ?_)
      refine lv_goto (tgt := 149) hC.1 hC.2.1 dX11_deskNow_183 (by decide) ?_
      exact ih _ _ _ h _ _ _ G (lv_sub hl [2, 3, 1, 0] rfl)
def u_X11_deskNow_192 (Γ : RG) (post : Int32 → MS → Prop) (a1 : Int32) : Nat → MS → Int32 → Int32 → Prop
  | 0, _, _, _ => False
  | n + 1, σ, v2, v3 => w_lp_Jx4a65c_size_8abf5 Γ (fun r33 σ32 => ((r33 ≤ v3 → post v2 σ32) ∧ (¬ r33 ≤ v3 → w_lp_Jx4a65c_get_915e3 Γ (fun j36 σ35 => ((j36 < 10 ∧ j36 < Γ.1) ∧ u_X11_deskNow_192 Γ post a1 n σ35 (v2 + (σ35 (13 + j36) 5)) (v3 + 1))) σ32 v3))) σ
set_option maxHeartbeats 4000000 in
set_option maxRecDepth 100000 in
theorem l_X11_deskNow_192 {p : Program} {l : Launch} {e : Env} {s : State} {m : MethodId} {args : Array Value} {below : List Frame} {meth : Method} {c : Code} {D : va_G} {cy : Nat → ClassId} {lay : Nat → Nat} {Γ : RG} {post : Int32 → MS → Prop} (a1 : Int32) (hC : CallFix p m c cX11_deskNow 8 s args wsX11_deskNow RX11) (hr : meth.sig.returnType = some .int) (hlocks : meth.locks = false) (hT : rT D cy lay Γ s) : ∀ (n : Nat), ∀ (σ : MS) (v2 : Int32) (v3 : Int32), u_X11_deskNow_192 Γ post a1 n σ v2 v3 → ∀ (H : Heap) (locs : List Loc) (ls : Array Slot), rG D cy lay Γ tn σ (rA cy lay Γ s.heap.size) s.heap H locs → lv_has ls 8 [(0, .ref (lay 0)), (1, .int a1), (2, .int v2), (3, .int v3)] → W p l e rm_X11_deskNow s m args below meth c H locs 0 0 (MQ below (va_Qi post (rO D cy lay Γ) (rA cy lay Γ s.heap.size)) args s 11 176 (rA cy lay Γ s.heap.size)) (F0 m 192 ls []) := by
  intro n
  induction n with
  | zero =>
    intro σ v2 v3 h
    exact h.elim
  | succ n ih =>
    intro σ v2 v3 h H locs ls G hl
    rw [u_X11_deskNow_192] at h
    refine lv_iload_n hC.1 hC.2.1 dX11_deskNow_192 rfl (lv_at hl 3 rfl) ?_
    refine lv_aload_n hC.1 hC.2.1 dX11_deskNow_193 rfl (lv_at hl 0 rfl) ?_
    refine rg_get hC hT G (by decide) r_mo k_X11 i_X11_deskNow_X11 3 (by decide) (wm 2 rfl) rfl dX11_deskNow_194 ?_
    refine rg_i G (rg_runV (As := []) (rest := [.int v3]) hC hT G (c_lp_Jx4a65c_size_8abf5 l D cy lay Γ h _) (cwV 0 hC.2.2.2.2 gX11_deskNow_Jx4a65c_size_8abf5 rfl rfl rfl hdV_Jx4a65c_size_8abf5 ⟨Nat.le_of_ble_eq_true rfl, Nat.le_of_ble_eq_true rfl⟩) (rg_recv hT G (by decide) r_lp k_AL) rfl hl.1 rfl (Nat.le_of_ble_eq_true rfl) dX11_deskNow_197 ⟨Nat.le_of_ble_eq_true rfl, Nat.le_of_ble_eq_true rfl⟩) (fun r33 σ32 H locs h G => ?_)
    (try dsimp only at h)
    refine lv_icmp_ge (tgt := 226) hC.1 hC.2.1 dX11_deskNow_200 (by decide) (fun c34 => ?_) (fun c34 => ?_)
    · replace h := h.1 c34
      refine lv_iload_n hC.1 hC.2.1 dX11_deskNow_226 rfl (lv_at hl 2 rfl) ?_
      refine W.widen (k := 11) (n := 176) (by decide) (by decide) ?_
      exact rg_iret hC hr hlocks G h dX11_deskNow_227
    · replace h := h.2 c34
      refine lv_iload_n hC.1 hC.2.1 dX11_deskNow_203 rfl (lv_at hl 2 rfl) ?_
      refine lv_aload_n hC.1 hC.2.1 dX11_deskNow_204 rfl (lv_at hl 0 rfl) ?_
      refine rg_get hC hT G (by decide) r_mo k_X11 i_X11_deskNow_X11 3 (by decide) (wm 2 rfl) rfl dX11_deskNow_205 ?_
      refine lv_iload_n hC.1 hC.2.1 dX11_deskNow_208 rfl (lv_at hl 3 rfl) ?_
      refine rg_r (f := fun i => lay (13 + i)) G (rg_runV (As := [.int v3]) (rest := [.int v2]) hC hT G (c_lp_Jx4a65c_get_915e3 l D cy lay Γ h _) (cwV 1 hC.2.2.2.2 gX11_deskNow_Jx4a65c_get_915e3 rfl rfl rfl hdV_Jx4a65c_get_915e3 ⟨Nat.le_of_ble_eq_true rfl, Nat.le_of_ble_eq_true rfl⟩) (rg_recv hT G (by decide) r_lp k_AL) rfl hl.1 rfl (Nat.le_of_ble_eq_true rfl) dX11_deskNow_209 ⟨Nat.le_of_ble_eq_true rfl, Nat.le_of_ble_eq_true rfl⟩) (fun j36 σ35 H locs h G => ?_)
      (try dsimp only at h)
      obtain ⟨hj37, h⟩ := h
      refine rg_cast hC hT k_X9 (wm 7 rfl) (rg_recv hT G (rk_pl hj37) (r_pl hj37) k_X9) dX11_deskNow_212 ?_
      refine rg_getN hC hT G (rk_pl hj37) (r_pl hj37) k_X9 i_X11_deskNow_X9 5 (by decide) 7 rfl rfl dX11_deskNow_215 ?_
      refine lv_iadd hC.1 hC.2.1 dX11_deskNow_218 ?_
      refine lv_istore_n (lv' := [(2, .int (v2 + (σ35 (13 + j36) 5))), (0, .ref (lay 0)), (1, .int a1), (3, .int v3)]) hC.1 hC.2.1 dX11_deskNow_219 rfl hl (by decide) rfl (fun ls hl => ?_)
      refine lv_iinc (v := v3 + 1) (lv' := [(3, .int (v3 + 1)), (2, .int (v2 + (σ35 (13 + j36) 5))), (0, .ref (lay 0)), (1, .int a1)]) hC.1 hC.2.1 dX11_deskNow_220 hl (k := 3) rfl rfl (by decide) rfl (fun ls hl => ?_)
      refine lv_goto (tgt := 192) hC.1 hC.2.1 dX11_deskNow_223 (by decide) ?_
      exact ih _ _ _ h _ _ _ G (lv_sub hl [2, 3, 1, 0] rfl)
def u_X11_deskNow_265 (Γ : RG) (post : Int32 → MS → Prop) (a1 : Int32) (K230 : MS → Int32 → Int32 → Prop) : Nat → MS → Int32 → Int32 → Nat → Int32 → Int32 → Prop
  | 0, _, _, _, _, _, _ => False
  | n + 1, σ, v2, v3, v4, v5, v6 => ((v5 ≤ v6 → K230 σ v2 (v3 + 1)) ∧ (¬ v5 ≤ v6 → (vp_in v6 366 ∧ (((σ (23 + v4) (Int32.toNatClampNeg v6)) = 0 → u_X11_deskNow_265 Γ post a1 K230 n σ (v2 + 0) v3 v4 v5 (v6 + 1)) ∧ (¬ (σ (23 + v4) (Int32.toNatClampNeg v6)) = 0 → u_X11_deskNow_265 Γ post a1 K230 n σ (v2 + 1) v3 v4 v5 (v6 + 1))))))
set_option maxHeartbeats 4000000 in
set_option maxRecDepth 100000 in
theorem l_X11_deskNow_265 {p : Program} {l : Launch} {e : Env} {s : State} {m : MethodId} {args : Array Value} {below : List Frame} {meth : Method} {c : Code} {D : va_G} {cy : Nat → ClassId} {lay : Nat → Nat} {Γ : RG} {post : Int32 → MS → Prop} (a1 : Int32) (K230 : MS → Int32 → Int32 → Prop) (hC : CallFix p m c cX11_deskNow 8 s args wsX11_deskNow RX11) (hr : meth.sig.returnType = some .int) (hlocks : meth.locks = false) (hT : rT D cy lay Γ s) (hK230 : ∀ (σ : MS) (v2 : Int32) (v3 : Int32), K230 σ v2 v3 → ∀ (H : Heap) (locs : List Loc) (ls : Array Slot), rG D cy lay Γ tn σ (rA cy lay Γ s.heap.size) s.heap H locs → lv_has ls 8 [(0, .ref (lay 0)), (1, .int a1), (2, .int v2), (3, .int v3)] → W p l e rm_X11_deskNow s m args below meth c H locs 0 0 (MQ below (va_Qi post (rO D cy lay Γ) (rA cy lay Γ s.heap.size)) args s 11 176 (rA cy lay Γ s.heap.size)) (F0 m 230 ls [])) : ∀ (n : Nat), ∀ (σ : MS) (v2 : Int32) (v3 : Int32) (v4 : Nat) (v5 : Int32) (v6 : Int32), u_X11_deskNow_265 Γ post a1 K230 n σ v2 v3 v4 v5 v6 → ∀ (hv4 : v4 < 10 ∧ v4 < Γ.1), ∀ (H : Heap) (locs : List Loc) (ls : Array Slot), rG D cy lay Γ tn σ (rA cy lay Γ s.heap.size) s.heap H locs → lv_has ls 8 [(0, .ref (lay 0)), (1, .int a1), (2, .int v2), (3, .int v3), (4, .ref (lay (23 + v4))), (5, .int v5), (6, .int v6)] → W p l e rm_X11_deskNow s m args below meth c H locs 0 0 (MQ below (va_Qi post (rO D cy lay Γ) (rA cy lay Γ s.heap.size)) args s 11 176 (rA cy lay Γ s.heap.size)) (F0 m 265 ls []) := by
  intro n
  induction n with
  | zero =>
    intro σ v2 v3 v4 v5 v6 h
    exact h.elim
  | succ n ih =>
    intro σ v2 v3 v4 v5 v6 h hv4 H locs ls G hl
    rw [u_X11_deskNow_265] at h
    refine lv_iload hC.1 hC.2.1 dX11_deskNow_265 (lv_at hl 6 rfl) ?_
    refine lv_iload hC.1 hC.2.1 dX11_deskNow_267 (lv_at hl 5 rfl) ?_
    refine lv_icmp_ge (tgt := 298) hC.1 hC.2.1 dX11_deskNow_269 (by decide) (fun c45 => ?_) (fun c45 => ?_)
    · replace h := h.1 c45
      refine lv_iinc (v := v3 + 1) (lv' := [(3, .int (v3 + 1)), (0, .ref (lay 0)), (1, .int a1), (2, .int v2), (4, .ref (lay (23 + v4))), (5, .int v5), (6, .int v6)]) hC.1 hC.2.1 dX11_deskNow_298 hl (k := 3) rfl rfl (by decide) rfl (fun ls hl => ?_)
      refine lv_goto (tgt := 230) hC.1 hC.2.1 dX11_deskNow_301 (by decide) ?_
      exact hK230 _ _ _ h _ _ _ G (lv_sub hl [1, 2, 3, 0] rfl)
    · replace h := h.2 c45
      refine lv_aload hC.1 hC.2.1 dX11_deskNow_272 (lv_at hl 4 rfl) ?_
      refine lv_iload hC.1 hC.2.1 dX11_deskNow_274 (lv_at hl 6 rfl) ?_
      obtain ⟨hn46, h⟩ := h
      refine rg_zald hC hT G (rk_of hv4) (r_of hv4) hn46 dX11_deskNow_276 ?_
      refine lv_istore (lv' := [(7, .int (σ (23 + v4) (Int32.toNatClampNeg v6))), (0, .ref (lay 0)), (1, .int a1), (2, .int v2), (3, .int v3), (4, .ref (lay (23 + v4))), (5, .int v5), (6, .int v6)]) hC.1 hC.2.1 dX11_deskNow_277 hl (by decide) rfl (fun ls hl => ?_)
      refine lv_iload_n hC.1 hC.2.1 dX11_deskNow_279 rfl (lv_at hl 3 rfl) ?_
      refine lv_iload hC.1 hC.2.1 dX11_deskNow_280 (lv_at hl 0 rfl) ?_
      refine lv_if_eq (tgt := 289) hC.1 hC.2.1 dX11_deskNow_282 (by decide) (fun c47 => ?_) (fun c47 => ?_)
      · replace h := h.1 c47
        refine lv_iconst (v := 0) hC.1 hC.2.1 dX11_deskNow_289 (by decide) ?_
        refine lv_iadd hC.1 hC.2.1 dX11_deskNow_290 ?_
        refine lv_istore_n (lv' := [(2, .int (v2 + 0)), (7, .int (σ (23 + v4) (Int32.toNatClampNeg v6))), (0, .ref (lay 0)), (1, .int a1), (3, .int v3), (4, .ref (lay (23 + v4))), (5, .int v5), (6, .int v6)]) hC.1 hC.2.1 dX11_deskNow_291 rfl hl (by decide) rfl (fun ls hl => ?_)
        refine lv_iinc (v := v6 + 1) (lv' := [(6, .int (v6 + 1)), (2, .int (v2 + 0)), (7, .int (σ (23 + v4) (Int32.toNatClampNeg v6))), (0, .ref (lay 0)), (1, .int a1), (3, .int v3), (4, .ref (lay (23 + v4))), (5, .int v5)]) hC.1 hC.2.1 dX11_deskNow_292 hl (k := 7) rfl rfl (by decide) rfl (fun ls hl => ?_)
        refine lv_goto (tgt := 265) hC.1 hC.2.1 dX11_deskNow_295 (by decide) ?_
        exact ih _ _ _ _ _ _ h hv4 _ _ _ G (lv_sub hl [3, 4, 1, 5, 6, 7, 0] rfl)
      · replace h := h.2 c47
        refine lv_iconst (v := 1) hC.1 hC.2.1 dX11_deskNow_285 (by decide) ?_
        refine lv_goto (tgt := 290) hC.1 hC.2.1 dX11_deskNow_286 (by decide) ?_
        refine lv_iadd hC.1 hC.2.1 dX11_deskNow_290 ?_
        refine lv_istore_n (lv' := [(2, .int (v2 + 1)), (7, .int (σ (23 + v4) (Int32.toNatClampNeg v6))), (0, .ref (lay 0)), (1, .int a1), (3, .int v3), (4, .ref (lay (23 + v4))), (5, .int v5), (6, .int v6)]) hC.1 hC.2.1 dX11_deskNow_291 rfl hl (by decide) rfl (fun ls hl => ?_)
        refine lv_iinc (v := v6 + 1) (lv' := [(6, .int (v6 + 1)), (2, .int (v2 + 1)), (7, .int (σ (23 + v4) (Int32.toNatClampNeg v6))), (0, .ref (lay 0)), (1, .int a1), (3, .int v3), (4, .ref (lay (23 + v4))), (5, .int v5)]) hC.1 hC.2.1 dX11_deskNow_292 hl (k := 7) rfl rfl (by decide) rfl (fun ls hl => ?_)
        refine lv_goto (tgt := 265) hC.1 hC.2.1 dX11_deskNow_295 (by decide) ?_
        exact ih _ _ _ _ _ _ h hv4 _ _ _ G (lv_sub hl [3, 4, 1, 5, 6, 7, 0] rfl)
def u_X11_deskNow_230 (Γ : RG) (post : Int32 → MS → Prop) (a1 : Int32) : Nat → MS → Int32 → Int32 → Prop
  | 0, _, _, _ => False
  | n + 1, σ, v2, v3 => w_lp_Jx4a65c_size_8abf5 Γ (fun r40 σ39 => ((r40 ≤ v3 → post v2 σ39) ∧ (¬ r40 ≤ v3 → w_lp_Jx4a65c_get_915e3 Γ (fun j43 σ42 => ((j43 < 10 ∧ j43 < Γ.1) ∧ (∃ k, u_X11_deskNow_265 Γ post a1 (fun σ w0 w1 => u_X11_deskNow_230 Γ post a1 n σ w0 w1) k σ42 v2 v3 j43 (nI 366) 0))) σ39 v3))) σ
set_option maxHeartbeats 4000000 in
set_option maxRecDepth 100000 in
theorem l_X11_deskNow_230 {p : Program} {l : Launch} {e : Env} {s : State} {m : MethodId} {args : Array Value} {below : List Frame} {meth : Method} {c : Code} {D : va_G} {cy : Nat → ClassId} {lay : Nat → Nat} {Γ : RG} {post : Int32 → MS → Prop} (a1 : Int32) (hC : CallFix p m c cX11_deskNow 8 s args wsX11_deskNow RX11) (hr : meth.sig.returnType = some .int) (hlocks : meth.locks = false) (hT : rT D cy lay Γ s) : ∀ (n : Nat), ∀ (σ : MS) (v2 : Int32) (v3 : Int32), u_X11_deskNow_230 Γ post a1 n σ v2 v3 → ∀ (H : Heap) (locs : List Loc) (ls : Array Slot), rG D cy lay Γ tn σ (rA cy lay Γ s.heap.size) s.heap H locs → lv_has ls 8 [(0, .ref (lay 0)), (1, .int a1), (2, .int v2), (3, .int v3)] → W p l e rm_X11_deskNow s m args below meth c H locs 0 0 (MQ below (va_Qi post (rO D cy lay Γ) (rA cy lay Γ s.heap.size)) args s 11 176 (rA cy lay Γ s.heap.size)) (F0 m 230 ls []) := by
  intro n
  induction n with
  | zero =>
    intro σ v2 v3 h
    exact h.elim
  | succ n ih =>
    intro σ v2 v3 h H locs ls G hl
    rw [u_X11_deskNow_230] at h
    refine lv_iload_n hC.1 hC.2.1 dX11_deskNow_230 rfl (lv_at hl 3 rfl) ?_
    refine lv_aload_n hC.1 hC.2.1 dX11_deskNow_231 rfl (lv_at hl 0 rfl) ?_
    refine rg_get hC hT G (by decide) r_mo k_X11 i_X11_deskNow_X11 3 (by decide) (wm 2 rfl) rfl dX11_deskNow_232 ?_
    refine rg_i G (rg_runV (As := []) (rest := [.int v3]) hC hT G (c_lp_Jx4a65c_size_8abf5 l D cy lay Γ h _) (cwV 0 hC.2.2.2.2 gX11_deskNow_Jx4a65c_size_8abf5 rfl rfl rfl hdV_Jx4a65c_size_8abf5 ⟨Nat.le_of_ble_eq_true rfl, Nat.le_of_ble_eq_true rfl⟩) (rg_recv hT G (by decide) r_lp k_AL) rfl hl.1 rfl (Nat.le_of_ble_eq_true rfl) dX11_deskNow_235 ⟨Nat.le_of_ble_eq_true rfl, Nat.le_of_ble_eq_true rfl⟩) (fun r40 σ39 H locs h G => ?_)
    (try dsimp only at h)
    refine lv_icmp_ge (tgt := 304) hC.1 hC.2.1 dX11_deskNow_238 (by decide) (fun c41 => ?_) (fun c41 => ?_)
    · replace h := h.1 c41
      refine lv_iload_n hC.1 hC.2.1 dX11_deskNow_304 rfl (lv_at hl 2 rfl) ?_
      refine W.widen (k := 11) (n := 176) (by decide) (by decide) ?_
      exact rg_iret hC hr hlocks G h dX11_deskNow_305
    · replace h := h.2 c41
      refine lv_aload_n hC.1 hC.2.1 dX11_deskNow_241 rfl (lv_at hl 0 rfl) ?_
      refine rg_get hC hT G (by decide) r_mo k_X11 i_X11_deskNow_X11 3 (by decide) (wm 2 rfl) rfl dX11_deskNow_242 ?_
      refine lv_iload_n hC.1 hC.2.1 dX11_deskNow_245 rfl (lv_at hl 3 rfl) ?_
      refine rg_r (f := fun i => lay (13 + i)) G (rg_runV (As := [.int v3]) (rest := []) hC hT G (c_lp_Jx4a65c_get_915e3 l D cy lay Γ h _) (cwV 1 hC.2.2.2.2 gX11_deskNow_Jx4a65c_get_915e3 rfl rfl rfl hdV_Jx4a65c_get_915e3 ⟨Nat.le_of_ble_eq_true rfl, Nat.le_of_ble_eq_true rfl⟩) (rg_recv hT G (by decide) r_lp k_AL) rfl hl.1 rfl (Nat.le_of_ble_eq_true rfl) dX11_deskNow_246 ⟨Nat.le_of_ble_eq_true rfl, Nat.le_of_ble_eq_true rfl⟩) (fun j43 σ42 H locs h G => ?_)
      (try dsimp only at h)
      obtain ⟨hj44, h⟩ := h
      refine rg_cast hC hT k_X9 (wm 7 rfl) (rg_recv hT G (rk_pl hj44) (r_pl hj44) k_X9) dX11_deskNow_249 ?_
      refine rg_getN hC hT G (rk_pl hj44) (r_pl hj44) k_X9 i_X11_deskNow_X9 6 (by decide) 8 rfl rfl dX11_deskNow_252 ?_
      refine lv_astore (lv' := [(4, .ref (lay (23 + j43))), (0, .ref (lay 0)), (1, .int a1), (2, .int v2), (3, .int v3)]) hC.1 hC.2.1 dX11_deskNow_255 hl (by decide) rfl (fun ls hl => ?_)
      refine lv_aload hC.1 hC.2.1 dX11_deskNow_257 (lv_at hl 0 rfl) ?_
      refine rg_alenz hC hT G (rk_of hj44) (r_of hj44) dX11_deskNow_259 ?_
      refine lv_istore (lv' := [(5, .int (nI 366)), (4, .ref (lay (23 + j43))), (0, .ref (lay 0)), (1, .int a1), (2, .int v2), (3, .int v3)]) hC.1 hC.2.1 dX11_deskNow_260 hl (by decide) rfl (fun ls hl => ?_)
      refine lv_iconst (v := 0) hC.1 hC.2.1 dX11_deskNow_262 (by decide) ?_
      refine lv_istore (lv' := [(6, .int 0), (5, .int (nI 366)), (4, .ref (lay (23 + j43))), (0, .ref (lay 0)), (1, .int a1), (2, .int v2), (3, .int v3)]) hC.1 hC.2.1 dX11_deskNow_263 hl (by decide) rfl (fun ls hl => ?_)
      obtain ⟨n1, h⟩ := h
      exact l_X11_deskNow_265 a1 (fun σ w0 w1 => u_X11_deskNow_230 Γ post a1 n σ w0 w1) hC hr hlocks hT ih n1 _ _ _ _ _ _ h hj44 _ _ _ G (lv_sub hl [3, 4, 5, 6, 2, 1, 0] rfl)
def w_X11_deskNow (Γ : RG) (post : Int32 → MS → Prop) (σ : MS) (a1 : Int32) : Prop := ((a1 = 0 → post (σ 0 1) σ) ∧ (¬ a1 = 0 → ((a1 = 1 → w_lp_Jx4a65c_size_8abf5 Γ (fun r3 σ2 => post r3 σ2) σ) ∧ (¬ a1 = 1 → ((a1 = 2 → w_lb_Jx4a65c_size_8abf5 Γ (fun r6 σ5 => post r6 σ5) σ) ∧ (¬ a1 = 2 → ((a1 = 3 → w_lw_Jx4a65c_size_8abf5 Γ (fun r9 σ8 => post r9 σ8) σ) ∧ (¬ a1 = 3 → ((a1 = 4 → (∃ k, u_X11_deskNow_95 Γ post a1 k σ 0 0)) ∧ (¬ a1 = 4 → ((a1 = 5 → (∃ k, u_X11_deskNow_95 Γ post a1 k σ 0 0)) ∧ (¬ a1 = 5 → ((a1 = 6 → (∃ k, u_X11_deskNow_95 Γ post a1 k σ 0 0)) ∧ (¬ a1 = 6 → ((a1 = 7 → (∃ k, u_X11_deskNow_95 Γ post a1 k σ 0 0)) ∧ (¬ a1 = 7 → ((a1 = 8 → post (σ 0 2) σ) ∧ (¬ a1 = 8 → ((a1 = 9 → (∃ k, u_X11_deskNow_149 Γ post a1 k σ 0 0)) ∧ (¬ a1 = 9 → ((a1 = 10 → (∃ k, u_X11_deskNow_192 Γ post a1 k σ 0 0)) ∧ (¬ a1 = 10 → ((a1 = 11 → (∃ k, u_X11_deskNow_230 Γ post a1 k σ 0 0)) ∧ (¬ a1 = 11 → w_X11_apart Γ (fun r50 σ49 => post r50 σ49) σ))))))))))))))))))))))))
set_option maxHeartbeats 4000000 in
set_option maxRecDepth 100000 in
theorem c_X11_deskNow (l : Launch) (D : va_G) (cy : Nat → ClassId) (lay : Nat → Nat) (Γ : RG) {σ : MS} {post : Int32 → MS → Prop} {a1 : Int32} (h : w_X11_deskNow Γ post σ a1) (sz : Nat) : Met l yX11_deskNow wsX11_deskNow rm_X11_deskNow (va_Pc [.ref (lay 0), .int a1] (rI D cy lay Γ σ sz)) (va_Qi post (rO D cy lay Γ) (rA cy lay Γ sz)) 11 176 (rA cy lay Γ sz) := by
  refine rg_ofW (cc := cX11_deskNow) (maxL := 8) (ret := some .int) (own := RX11) (Qc := fun sz => va_Qi post (rO D cy lay Γ) (rA cy lay Γ sz)) (by decide) rfl (Nat.le_of_ble_eq_true rfl) rfl ?_
  intro p e s m args below meth c ls hC hr hlocks hT G hl
  unfold w_X11_deskNow at h
  have hl : lv_has ls 8 [(0, .ref (lay 0)), (1, .int a1)] := hl
  refine lv_iconst (v := 0) hC.1 hC.2.1 dX11_deskNow_0 (by decide) ?_
  refine lv_istore_n (lv' := [(2, .int 0), (0, .ref (lay 0)), (1, .int a1)]) hC.1 hC.2.1 dX11_deskNow_1 rfl hl (by decide) rfl (fun ls hl => ?_)
  refine lv_iload_n hC.1 hC.2.1 dX11_deskNow_2 rfl (lv_at hl 2 rfl) ?_
  rcases Decidable.em (a1 = 0) with c1 | c1
  · replace h := h.1 c1
    refine lv_tableIn (off := 61) (tgt := 64) hC.1 hC.2.1 dX11_deskNow_3 (by rw [c1]; decide) (by rw [c1]; decide) (by rw [c1]; rfl) (by decide) ?_
    refine lv_aload_n hC.1 hC.2.1 dX11_deskNow_64 rfl (lv_at hl 1 rfl) ?_
    refine rg_get hC hT G (by decide) r_mo k_X11 i_X11_deskNow_X11 1 (by decide) (wm 1 rfl) rfl dX11_deskNow_65 ?_
    refine W.widen (k := 11) (n := 176) (by decide) (by decide) ?_
    exact rg_iret hC hr hlocks G h dX11_deskNow_68
  · replace h := h.2 c1
    rcases Decidable.em (a1 = 1) with c4 | c4
    · replace h := h.1 c4
      refine lv_tableIn (off := 66) (tgt := 69) hC.1 hC.2.1 dX11_deskNow_3 (by rw [c4]; decide) (by rw [c4]; decide) (by rw [c4]; rfl) (by decide) ?_
      refine lv_aload_n hC.1 hC.2.1 dX11_deskNow_69 rfl (lv_at hl 1 rfl) ?_
      refine rg_get hC hT G (by decide) r_mo k_X11 i_X11_deskNow_X11 3 (by decide) (wm 2 rfl) rfl dX11_deskNow_70 ?_
      refine rg_i G (rg_runV (As := []) (rest := []) hC hT G (c_lp_Jx4a65c_size_8abf5 l D cy lay Γ h _) (cwV 0 hC.2.2.2.2 gX11_deskNow_Jx4a65c_size_8abf5 rfl rfl rfl hdV_Jx4a65c_size_8abf5 ⟨Nat.le_of_ble_eq_true rfl, Nat.le_of_ble_eq_true rfl⟩) (rg_recv hT G (by decide) r_lp k_AL) rfl hl.1 rfl (Nat.le_of_ble_eq_true rfl) dX11_deskNow_73 ⟨Nat.le_of_ble_eq_true rfl, Nat.le_of_ble_eq_true rfl⟩) (fun r3 σ2 H locs h G => ?_)
      (try dsimp only at h)
      refine W.widen (k := 11) (n := 176) (by decide) (by decide) ?_
      exact rg_iret hC hr hlocks G h dX11_deskNow_76
    · replace h := h.2 c4
      rcases Decidable.em (a1 = 2) with c7 | c7
      · replace h := h.1 c7
        refine lv_tableIn (off := 74) (tgt := 77) hC.1 hC.2.1 dX11_deskNow_3 (by rw [c7]; decide) (by rw [c7]; decide) (by rw [c7]; rfl) (by decide) ?_
        refine lv_aload_n hC.1 hC.2.1 dX11_deskNow_77 rfl (lv_at hl 1 rfl) ?_
        refine rg_get hC hT G (by decide) r_mo k_X11 i_X11_deskNow_X11 4 (by decide) (wm 3 rfl) rfl dX11_deskNow_78 ?_
        refine rg_i G (rg_runV (As := []) (rest := []) hC hT G (c_lb_Jx4a65c_size_8abf5 l D cy lay Γ h _) (cwV 0 hC.2.2.2.2 gX11_deskNow_Jx4a65c_size_8abf5 rfl rfl rfl hdV_Jx4a65c_size_8abf5 ⟨Nat.le_of_ble_eq_true rfl, Nat.le_of_ble_eq_true rfl⟩) (rg_recv hT G (by decide) r_lb k_AL) rfl hl.1 rfl (Nat.le_of_ble_eq_true rfl) dX11_deskNow_81 ⟨Nat.le_of_ble_eq_true rfl, Nat.le_of_ble_eq_true rfl⟩) (fun r6 σ5 H locs h G => ?_)
        (try dsimp only at h)
        refine W.widen (k := 11) (n := 176) (by decide) (by decide) ?_
        exact rg_iret hC hr hlocks G h dX11_deskNow_84
      · replace h := h.2 c7
        rcases Decidable.em (a1 = 3) with c10 | c10
        · replace h := h.1 c10
          refine lv_tableIn (off := 82) (tgt := 85) hC.1 hC.2.1 dX11_deskNow_3 (by rw [c10]; decide) (by rw [c10]; decide) (by rw [c10]; rfl) (by decide) ?_
          refine lv_aload_n hC.1 hC.2.1 dX11_deskNow_85 rfl (lv_at hl 1 rfl) ?_
          refine rg_get hC hT G (by decide) r_mo k_X11 i_X11_deskNow_X11 5 (by decide) (wm 4 rfl) rfl dX11_deskNow_86 ?_
          refine rg_i G (rg_runV (As := []) (rest := []) hC hT G (c_lw_Jx4a65c_size_8abf5 l D cy lay Γ h _) (cwV 0 hC.2.2.2.2 gX11_deskNow_Jx4a65c_size_8abf5 rfl rfl rfl hdV_Jx4a65c_size_8abf5 ⟨Nat.le_of_ble_eq_true rfl, Nat.le_of_ble_eq_true rfl⟩) (rg_recv hT G (by decide) r_lw k_AL) rfl hl.1 rfl (Nat.le_of_ble_eq_true rfl) dX11_deskNow_89 ⟨Nat.le_of_ble_eq_true rfl, Nat.le_of_ble_eq_true rfl⟩) (fun r9 σ8 H locs h G => ?_)
          (try dsimp only at h)
          refine W.widen (k := 11) (n := 176) (by decide) (by decide) ?_
          exact rg_iret hC hr hlocks G h dX11_deskNow_92
        · replace h := h.2 c10
          rcases Decidable.em (a1 = 4) with c18 | c18
          · replace h := h.1 c18
            refine lv_tableIn (off := 90) (tgt := 93) hC.1 hC.2.1 dX11_deskNow_3 (by rw [c18]; decide) (by rw [c18]; decide) (by rw [c18]; rfl) (by decide) ?_
            refine lv_iconst (v := 0) hC.1 hC.2.1 dX11_deskNow_93 (by decide) ?_
            refine lv_istore_n (lv' := [(3, .int 0), (2, .int 0), (0, .ref (lay 0)), (1, .int a1)]) hC.1 hC.2.1 dX11_deskNow_94 rfl hl (by decide) rfl (fun ls hl => ?_)
            obtain ⟨n1, h⟩ := h
            exact l_X11_deskNow_95 a1 hC hr hlocks hT n1 _ _ _ h _ _ _ G (lv_sub hl [2, 3, 1, 0] rfl)
          · replace h := h.2 c18
            rcases Decidable.em (a1 = 5) with c19 | c19
            · replace h := h.1 c19
              refine lv_tableIn (off := 90) (tgt := 93) hC.1 hC.2.1 dX11_deskNow_3 (by rw [c19]; decide) (by rw [c19]; decide) (by rw [c19]; rfl) (by decide) ?_
              refine lv_iconst (v := 0) hC.1 hC.2.1 dX11_deskNow_93 (by decide) ?_
              refine lv_istore_n (lv' := [(3, .int 0), (2, .int 0), (0, .ref (lay 0)), (1, .int a1)]) hC.1 hC.2.1 dX11_deskNow_94 rfl hl (by decide) rfl (fun ls hl => ?_)
              obtain ⟨n1, h⟩ := h
              exact l_X11_deskNow_95 a1 hC hr hlocks hT n1 _ _ _ h _ _ _ G (lv_sub hl [2, 3, 1, 0] rfl)
            · replace h := h.2 c19
              rcases Decidable.em (a1 = 6) with c20 | c20
              · replace h := h.1 c20
                refine lv_tableIn (off := 90) (tgt := 93) hC.1 hC.2.1 dX11_deskNow_3 (by rw [c20]; decide) (by rw [c20]; decide) (by rw [c20]; rfl) (by decide) ?_
                refine lv_iconst (v := 0) hC.1 hC.2.1 dX11_deskNow_93 (by decide) ?_
                refine lv_istore_n (lv' := [(3, .int 0), (2, .int 0), (0, .ref (lay 0)), (1, .int a1)]) hC.1 hC.2.1 dX11_deskNow_94 rfl hl (by decide) rfl (fun ls hl => ?_)
                obtain ⟨n1, h⟩ := h
                exact l_X11_deskNow_95 a1 hC hr hlocks hT n1 _ _ _ h _ _ _ G (lv_sub hl [2, 3, 1, 0] rfl)
              · replace h := h.2 c20
                rcases Decidable.em (a1 = 7) with c21 | c21
                · replace h := h.1 c21
                  refine lv_tableIn (off := 90) (tgt := 93) hC.1 hC.2.1 dX11_deskNow_3 (by rw [c21]; decide) (by rw [c21]; decide) (by rw [c21]; rfl) (by decide) ?_
                  refine lv_iconst (v := 0) hC.1 hC.2.1 dX11_deskNow_93 (by decide) ?_
                  refine lv_istore_n (lv' := [(3, .int 0), (2, .int 0), (0, .ref (lay 0)), (1, .int a1)]) hC.1 hC.2.1 dX11_deskNow_94 rfl hl (by decide) rfl (fun ls hl => ?_)
                  obtain ⟨n1, h⟩ := h
                  exact l_X11_deskNow_95 a1 hC hr hlocks hT n1 _ _ _ h _ _ _ G (lv_sub hl [2, 3, 1, 0] rfl)
                · replace h := h.2 c21
                  rcases Decidable.em (a1 = 8) with c22 | c22
                  · replace h := h.1 c22
                    refine lv_tableIn (off := 139) (tgt := 142) hC.1 hC.2.1 dX11_deskNow_3 (by rw [c22]; decide) (by rw [c22]; decide) (by rw [c22]; rfl) (by decide) ?_
                    refine lv_aload_n hC.1 hC.2.1 dX11_deskNow_142 rfl (lv_at hl 1 rfl) ?_
                    refine rg_get hC hT G (by decide) r_mo k_X11 i_X11_deskNow_X11 2 (by decide) (wm 6 rfl) rfl dX11_deskNow_143 ?_
                    refine W.widen (k := 11) (n := 176) (by decide) (by decide) ?_
                    exact rg_iret hC hr hlocks G h dX11_deskNow_146
                  · replace h := h.2 c22
                    rcases Decidable.em (a1 = 9) with c31 | c31
                    · replace h := h.1 c31
                      refine lv_tableIn (off := 144) (tgt := 147) hC.1 hC.2.1 dX11_deskNow_3 (by rw [c31]; decide) (by rw [c31]; decide) (by rw [c31]; rfl) (by decide) ?_
                      refine lv_iconst (v := 0) hC.1 hC.2.1 dX11_deskNow_147 (by decide) ?_
                      refine lv_istore_n (lv' := [(3, .int 0), (2, .int 0), (0, .ref (lay 0)), (1, .int a1)]) hC.1 hC.2.1 dX11_deskNow_148 rfl hl (by decide) rfl (fun ls hl => ?_)
                      obtain ⟨n1, h⟩ := h
                      exact l_X11_deskNow_149 a1 hC hr hlocks hT n1 _ _ _ h _ _ _ G (lv_sub hl [2, 3, 1, 0] rfl)
                    · replace h := h.2 c31
                      rcases Decidable.em (a1 = 10) with c38 | c38
                      · replace h := h.1 c38
                        refine lv_tableIn (off := 187) (tgt := 190) hC.1 hC.2.1 dX11_deskNow_3 (by rw [c38]; decide) (by rw [c38]; decide) (by rw [c38]; rfl) (by decide) ?_
                        refine lv_iconst (v := 0) hC.1 hC.2.1 dX11_deskNow_190 (by decide) ?_
                        refine lv_istore_n (lv' := [(3, .int 0), (2, .int 0), (0, .ref (lay 0)), (1, .int a1)]) hC.1 hC.2.1 dX11_deskNow_191 rfl hl (by decide) rfl (fun ls hl => ?_)
                        obtain ⟨n1, h⟩ := h
                        exact l_X11_deskNow_192 a1 hC hr hlocks hT n1 _ _ _ h _ _ _ G (lv_sub hl [2, 3, 1, 0] rfl)
                      · replace h := h.2 c38
                        rcases Decidable.em (a1 = 11) with c48 | c48
                        · replace h := h.1 c48
                          refine lv_tableIn (off := 225) (tgt := 228) hC.1 hC.2.1 dX11_deskNow_3 (by rw [c48]; decide) (by rw [c48]; decide) (by rw [c48]; rfl) (by decide) ?_
                          refine lv_iconst (v := 0) hC.1 hC.2.1 dX11_deskNow_228 (by decide) ?_
                          refine lv_istore_n (lv' := [(3, .int 0), (2, .int 0), (0, .ref (lay 0)), (1, .int a1)]) hC.1 hC.2.1 dX11_deskNow_229 rfl hl (by decide) rfl (fun ls hl => ?_)
                          obtain ⟨n1, h⟩ := h
                          exact l_X11_deskNow_230 a1 hC hr hlocks hT n1 _ _ _ h _ _ _ G (lv_sub hl [2, 3, 1, 0] rfl)
                        · replace h := h.2 c48
                          refine lv_tableOut (tgt := 306) hC.1 hC.2.1 dX11_deskNow_3 (tsw_out 12 rfl (by decide) (fun k hk => by rcases (show k = 0 ∨ k = 1 ∨ k = 2 ∨ k = 3 ∨ k = 4 ∨ k = 5 ∨ k = 6 ∨ k = 7 ∨ k = 8 ∨ k = 9 ∨ k = 10 ∨ k = 11 by omega) with rfl | rfl | rfl | rfl | rfl | rfl | rfl | rfl | rfl | rfl | rfl | rfl <;> assumption)) (by decide) ?_
                          refine lv_aload_n hC.1 hC.2.1 dX11_deskNow_306 rfl (lv_at hl 1 rfl) ?_
                          refine rg_i G (rg_runV (As := []) (rest := []) hC hT G (c_X11_apart l D cy lay Γ h _) (cwV 0 hC.2.2.2.2 gX11_deskNow_X11_apart rfl rfl rfl hdV_X11_apart ⟨Nat.le_of_ble_eq_true rfl, Nat.le_of_ble_eq_true rfl⟩) (rg_recv hT G (by decide) r_mo k_X11) rfl hl.1 rfl (Nat.le_of_ble_eq_true rfl) dX11_deskNow_307 ⟨Nat.le_of_ble_eq_true rfl, Nat.le_of_ble_eq_true rfl⟩) (fun r50 σ49 H locs h G => ?_)
                          (try dsimp only at h)
                          refine W.widen (k := 11) (n := 176) (by decide) (by decide) ?_
                          exact rg_iret hC hr hlocks G h dX11_deskNow_310
theorem hdV_X11_deskNow : yX11_deskNow.cls = RX11 ∧ yX11_deskNow.cls ≠ "java/lang/invoke/MethodHandle" ∧ yX11_deskNow.cls ≠ "java/lang/invoke/VarHandle" ∧ (parseMethodDescriptor yX11_deskNow.desc).map (fun d => d.parameters.length) = some 1 := by decide +kernel
abbrev rm_X11_desk : Room := { frames := 6, cells := 11, slots := 176, locals := 139 }
theorem i_X11_desk_X11 : ∀ w ∈ wsX110, w ∈ wsX11_desk := fun _ h => List.mem_cons_of_mem _ (List.mem_append_left _ (List.mem_append_left _ (List.mem_append_left _ (List.mem_append_right _ h))))
def w_X11_desk (Γ : RG) (post : Int32 → MS → Prop) (σ : MS) (a1 : Int32) : Prop := w_X11_is Γ (fun r2 σ1 => ((r2 = 0 → w_X11_refuse Γ (fun r5 σ4 => post r5 σ4) σ1 1) ∧ (¬ r2 = 0 → w_X11_deskNow Γ (fun r7 σ6 => post r7 σ6) σ1 a1))) (up2 σ 0 0 0) a1 0 12
set_option maxHeartbeats 4000000 in
set_option maxRecDepth 100000 in
theorem c_X11_desk (l : Launch) (D : va_G) (cy : Nat → ClassId) (lay : Nat → Nat) (Γ : RG) {σ : MS} {post : Int32 → MS → Prop} {a1 : Int32} (h : w_X11_desk Γ post σ a1) (sz : Nat) : Met l yX11_desk wsX11_desk rm_X11_desk (va_Pc [.ref (lay 0), .int a1] (rI D cy lay Γ σ sz)) (va_Qi post (rO D cy lay Γ) (rA cy lay Γ sz)) 11 176 (rA cy lay Γ sz) := by
  refine rg_ofW (cc := cX11_desk) (maxL := 2) (ret := some .int) (own := RX11) (Qc := fun sz => va_Qi post (rO D cy lay Γ) (rA cy lay Γ sz)) (by decide) rfl (Nat.le_of_ble_eq_true rfl) rfl ?_
  intro p e s m args below meth c ls hC hr hlocks hT G hl
  unfold w_X11_desk at h
  have hl : lv_has ls 2 [(0, .ref (lay 0)), (1, .int a1)] := hl
  refine lv_aload_n hC.1 hC.2.1 dX11_desk_0 rfl (lv_at hl 0 rfl) ?_
  refine lv_iconst (v := 0) hC.1 hC.2.1 dX11_desk_1 (by decide) ?_
  refine rg_put hC hT G (by decide) r_mo k_X11 i_X11_desk_X11 0 (by decide) (wm 1 rfl) rfl rfl (by simp) r_mo (by rw [up2_eq]; rfl) dX11_desk_2 (fun H locs G => ?_)
  refine lv_iload_n hC.1 hC.2.1 dX11_desk_5 rfl (lv_at hl 1 rfl) ?_
  refine lv_iconst (v := 0) hC.1 hC.2.1 dX11_desk_6 (by decide) ?_
  refine lv_bipush (v := 12) hC.1 hC.2.1 dX11_desk_7 (by decide) ?_
  refine rg_i G (rg_runS (As := [.int a1, .int 0, .int 12]) (rest := []) hC hT G (c_X11_is l D cy lay Γ h _) (va_cwS 3 hC.2.2.2.2 gX11_desk_X11_is rfl rfl rfl hdS_X11_is ⟨Nat.le_of_ble_eq_true rfl, Nat.le_of_ble_eq_true rfl⟩) rfl hl.1 rfl (Nat.le_of_ble_eq_true rfl) dX11_desk_9 ⟨Nat.le_of_ble_eq_true rfl, Nat.le_of_ble_eq_true rfl⟩) (fun r2 σ1 H locs h G => ?_)
  (try dsimp only at h)
  refine lv_if_eq (tgt := 23) hC.1 hC.2.1 dX11_desk_12 (by decide) (fun c3 => ?_) (fun c3 => ?_)
  · replace h := h.1 c3
    refine lv_aload_n hC.1 hC.2.1 dX11_desk_23 rfl (lv_at hl 0 rfl) ?_
    refine lv_iconst (v := 1) hC.1 hC.2.1 dX11_desk_24 (by decide) ?_
    refine rg_i G (rg_runV (As := [.int 1]) (rest := []) hC hT G (c_X11_refuse l D cy lay Γ h _) (cwV 1 hC.2.2.2.2 gX11_desk_X11_refuse rfl rfl rfl hdV_X11_refuse ⟨Nat.le_of_ble_eq_true rfl, Nat.le_of_ble_eq_true rfl⟩) (rg_recv hT G (by decide) r_mo k_X11) rfl hl.1 rfl (Nat.le_of_ble_eq_true rfl) dX11_desk_25 ⟨Nat.le_of_ble_eq_true rfl, Nat.le_of_ble_eq_true rfl⟩) (fun r5 σ4 H locs h G => ?_)
    (try dsimp only at h)
    refine W.widen (k := 11) (n := 176) (by decide) (by decide) ?_
    exact rg_iret hC hr hlocks G h dX11_desk_28
  · replace h := h.2 c3
    refine lv_aload_n hC.1 hC.2.1 dX11_desk_15 rfl (lv_at hl 0 rfl) ?_
    refine lv_iload_n hC.1 hC.2.1 dX11_desk_16 rfl (lv_at hl 1 rfl) ?_
    refine rg_i G (rg_runV (As := [.int a1]) (rest := []) hC hT G (c_X11_deskNow l D cy lay Γ h _) (cwV 1 hC.2.2.2.2 gX11_desk_X11_deskNow rfl rfl rfl hdV_X11_deskNow ⟨Nat.le_of_ble_eq_true rfl, Nat.le_of_ble_eq_true rfl⟩) (rg_recv hT G (by decide) r_mo k_X11) rfl hl.1 rfl (Nat.le_of_ble_eq_true rfl) dX11_desk_17 ⟨Nat.le_of_ble_eq_true rfl, Nat.le_of_ble_eq_true rfl⟩) (fun r7 σ6 H locs h G => ?_)
    (try dsimp only at h)
    refine lv_goto (tgt := 28) hC.1 hC.2.1 dX11_desk_20 (by decide) ?_
    refine W.widen (k := 11) (n := 176) (by decide) (by decide) ?_
    exact rg_iret hC hr hlocks G h dX11_desk_28
theorem hdV_X11_desk : yX11_desk.cls = RX11 ∧ yX11_desk.cls ≠ "java/lang/invoke/MethodHandle" ∧ yX11_desk.cls ≠ "java/lang/invoke/VarHandle" ∧ (parseMethodDescriptor yX11_desk.desc).map (fun d => d.parameters.length) = some 1 := by decide +kernel
abbrev rm_X11_isSoundNow : Room := { frames := 6, cells := 11, slots := 176, locals := 139 }
theorem i_X11_isSoundNow_X11 : ∀ w ∈ wsX110, w ∈ wsX11_isSoundNow := fun _ h => List.mem_cons_of_mem _ (List.mem_append_left _ (List.mem_append_left _ (List.mem_append_left _ (List.mem_append_left _ (List.mem_append_right _ h)))))
theorem i_X11_isSoundNow_X10 : ∀ w ∈ wsX100, w ∈ wsX11_isSoundNow := fun _ h => List.mem_cons_of_mem _ (List.mem_append_left _ (List.mem_append_left _ (List.mem_append_left _ (List.mem_append_right _ h))))
def u_X11_isSoundNow_158 (Γ : RG) (post : Int32 → MS → Prop) : Nat → MS → Int32 → Int32 → Int32 → Prop
  | 0, _, _, _, _ => False
  | n + 1, σ, v1, v2, v3 => ((16 ≤ v3 → w_X11_deskNow Γ (fun r6 σ5 => (((σ 0 2) = (v1 - r6) → ((1000 < v2 → post 0 σ5) ∧ (¬ 1000 < v2 → post 1 σ5))) ∧ (¬ (σ 0 2) = (v1 - r6) → post 0 σ5))) σ 10) ∧ (¬ 16 ≤ v3 → w_X11_share Γ (fun r10 σ9 => u_X11_isSoundNow_158 Γ post n σ9 v1 (v2 + r10) (v3 + 1)) σ v3))
set_option maxHeartbeats 4000000 in
set_option maxRecDepth 100000 in
theorem l_X11_isSoundNow_158 {p : Program} {l : Launch} {e : Env} {s : State} {m : MethodId} {args : Array Value} {below : List Frame} {meth : Method} {c : Code} {D : va_G} {cy : Nat → ClassId} {lay : Nat → Nat} {Γ : RG} {post : Int32 → MS → Prop} (hC : CallFix p m c cX11_isSoundNow 7 s args wsX11_isSoundNow RX11) (hr : meth.sig.returnType = some .boolean) (hlocks : meth.locks = false) (hT : rT D cy lay Γ s) : ∀ (n : Nat), ∀ (σ : MS) (v1 : Int32) (v2 : Int32) (v3 : Int32), u_X11_isSoundNow_158 Γ post n σ v1 v2 v3 → ∀ (H : Heap) (locs : List Loc) (ls : Array Slot), rG D cy lay Γ tn σ (rA cy lay Γ s.heap.size) s.heap H locs → lv_has ls 7 [(0, .ref (lay 0)), (1, .int v1), (2, .int v2), (3, .int v3)] → W p l e rm_X11_isSoundNow s m args below meth c H locs 0 0 (MQ below (va_Qi post (rO D cy lay Γ) (rA cy lay Γ s.heap.size)) args s 11 176 (rA cy lay Γ s.heap.size)) (F0 m 158 ls []) := by
  intro n
  induction n with
  | zero =>
    intro σ v1 v2 v3 h
    exact h.elim
  | succ n ih =>
    intro σ v1 v2 v3 h H locs ls G hl
    rw [u_X11_isSoundNow_158] at h
    refine lv_iload_n hC.1 hC.2.1 dX11_isSoundNow_158 rfl (lv_at hl 3 rfl) ?_
    refine lv_bipush (v := 16) hC.1 hC.2.1 dX11_isSoundNow_159 (by decide) ?_
    refine lv_icmp_ge (tgt := 178) hC.1 hC.2.1 dX11_isSoundNow_161 (by decide) (fun c4 => ?_) (fun c4 => ?_)
    · replace h := h.1 c4
      refine lv_aload_n hC.1 hC.2.1 dX11_isSoundNow_178 rfl (lv_at hl 0 rfl) ?_
      refine rg_get hC hT G (by decide) r_mo k_X11 i_X11_isSoundNow_X11 2 (by decide) (wm 5 rfl) rfl dX11_isSoundNow_179 ?_
      refine lv_iload_n hC.1 hC.2.1 dX11_isSoundNow_182 rfl (lv_at hl 1 rfl) ?_
      refine lv_aload_n hC.1 hC.2.1 dX11_isSoundNow_183 rfl (lv_at hl 0 rfl) ?_
      refine lv_bipush (v := 10) hC.1 hC.2.1 dX11_isSoundNow_184 (by decide) ?_
      refine rg_i G (rg_runV (As := [.int 10]) (rest := [.int v1, .int (σ 0 2)]) hC hT G (c_X11_deskNow l D cy lay Γ h _) (cwV 1 hC.2.2.2.2 gX11_isSoundNow_X11_deskNow rfl rfl rfl hdV_X11_deskNow ⟨Nat.le_of_ble_eq_true rfl, Nat.le_of_ble_eq_true rfl⟩) (rg_recv hT G (by decide) r_mo k_X11) rfl hl.1 rfl (Nat.le_of_ble_eq_true rfl) dX11_isSoundNow_186 ⟨Nat.le_of_ble_eq_true rfl, Nat.le_of_ble_eq_true rfl⟩) (fun r6 σ5 H locs h G => ?_)
      (try dsimp only at h)
      refine lv_isub hC.1 hC.2.1 dX11_isSoundNow_189 ?_
      refine lv_icmp_ne (tgt := 204) hC.1 hC.2.1 dX11_isSoundNow_190 (by decide) (fun c7 => ?_) (fun c7 => ?_)
      · replace h := h.2 c7
        refine lv_iconst (v := 0) hC.1 hC.2.1 dX11_isSoundNow_204 (by decide) ?_
        refine W.widen (k := 11) (n := 176) (by decide) (by decide) ?_
        exact rg_zret hC hr hlocks G rfl h dX11_isSoundNow_205
      · replace h := h.1 c7
        refine lv_iload_n hC.1 hC.2.1 dX11_isSoundNow_193 rfl (lv_at hl 2 rfl) ?_
        refine lv_sipush (v := 1000) hC.1 hC.2.1 dX11_isSoundNow_194 (by decide) ?_
        refine lv_icmp_gt (tgt := 204) hC.1 hC.2.1 dX11_isSoundNow_197 (by decide) (fun c8 => ?_) (fun c8 => ?_)
        · replace h := h.1 c8
          refine lv_iconst (v := 0) hC.1 hC.2.1 dX11_isSoundNow_204 (by decide) ?_
          refine W.widen (k := 11) (n := 176) (by decide) (by decide) ?_
          exact rg_zret hC hr hlocks G rfl h dX11_isSoundNow_205
        · replace h := h.2 c8
          refine lv_iconst (v := 1) hC.1 hC.2.1 dX11_isSoundNow_200 (by decide) ?_
          refine lv_goto (tgt := 205) hC.1 hC.2.1 dX11_isSoundNow_201 (by decide) ?_
          refine W.widen (k := 11) (n := 176) (by decide) (by decide) ?_
          exact rg_zret hC hr hlocks G rfl h dX11_isSoundNow_205
    · replace h := h.2 c4
      refine lv_iload_n hC.1 hC.2.1 dX11_isSoundNow_164 rfl (lv_at hl 2 rfl) ?_
      refine lv_aload_n hC.1 hC.2.1 dX11_isSoundNow_165 rfl (lv_at hl 0 rfl) ?_
      refine lv_iload_n hC.1 hC.2.1 dX11_isSoundNow_166 rfl (lv_at hl 3 rfl) ?_
      refine rg_i G (rg_runV (As := [.int v3]) (rest := [.int v2]) hC hT G (c_X11_share l D cy lay Γ h _) (cwV 1 hC.2.2.2.2 gX11_isSoundNow_X11_share rfl rfl rfl hdV_X11_share ⟨Nat.le_of_ble_eq_true rfl, Nat.le_of_ble_eq_true rfl⟩) (rg_recv hT G (by decide) r_mo k_X11) rfl hl.1 rfl (Nat.le_of_ble_eq_true rfl) dX11_isSoundNow_167 ⟨Nat.le_of_ble_eq_true rfl, Nat.le_of_ble_eq_true rfl⟩) (fun r10 σ9 H locs h G => ?_)
      (try dsimp only at h)
      refine lv_iadd hC.1 hC.2.1 dX11_isSoundNow_170 ?_
      refine lv_istore_n (lv' := [(2, .int (v2 + r10)), (0, .ref (lay 0)), (1, .int v1), (3, .int v3)]) hC.1 hC.2.1 dX11_isSoundNow_171 rfl hl (by decide) rfl (fun ls hl => ?_)
      refine lv_iinc (v := v3 + 1) (lv' := [(3, .int (v3 + 1)), (2, .int (v2 + r10)), (0, .ref (lay 0)), (1, .int v1)]) hC.1 hC.2.1 dX11_isSoundNow_172 hl (k := 3) rfl rfl (by decide) rfl (fun ls hl => ?_)
      refine lv_goto (tgt := 158) hC.1 hC.2.1 dX11_isSoundNow_175 (by decide) ?_
      exact ih _ _ _ _ h _ _ _ G (lv_sub hl [2, 3, 1, 0] rfl)
def u_X11_isSoundNow_87 (Γ : RG) (post : Int32 → MS → Prop) (K6 : MS → Int32 → Int32 → Int32 → Prop) : Nat → MS → Int32 → Int32 → Int32 → Nat → Int32 → Prop
  | 0, _, _, _, _, _, _ => False
  | n + 1, σ, v1, v2, v3, v4, v5 => ((v3 ≤ v5 → K6 σ v1 v2 (v3 + 1)) ∧ (¬ v3 ≤ v5 → w_lw_Jx4a65c_get_915e3 Γ (fun j27 σ26 => ((j27 < 14 ∧ j27 < Γ.2.2.1) ∧ (((σ26 (33 + j27) 7) = 1 → (((σ26 (33 + j27) 0) = (σ26 (33 + v4) 0) → (((σ26 (33 + j27) 1) = (σ26 (33 + v4) 1) → post 0 σ26) ∧ (¬ (σ26 (33 + j27) 1) = (σ26 (33 + v4) 1) → u_X11_isSoundNow_87 Γ post K6 n σ26 v1 v2 v3 v4 (v5 + 1)))) ∧ (¬ (σ26 (33 + j27) 0) = (σ26 (33 + v4) 0) → u_X11_isSoundNow_87 Γ post K6 n σ26 v1 v2 v3 v4 (v5 + 1)))) ∧ (¬ (σ26 (33 + j27) 7) = 1 → u_X11_isSoundNow_87 Γ post K6 n σ26 v1 v2 v3 v4 (v5 + 1))))) σ v5))
set_option maxHeartbeats 4000000 in
set_option maxRecDepth 100000 in
theorem l_X11_isSoundNow_87 {p : Program} {l : Launch} {e : Env} {s : State} {m : MethodId} {args : Array Value} {below : List Frame} {meth : Method} {c : Code} {D : va_G} {cy : Nat → ClassId} {lay : Nat → Nat} {Γ : RG} {post : Int32 → MS → Prop} (K6 : MS → Int32 → Int32 → Int32 → Prop) (hC : CallFix p m c cX11_isSoundNow 7 s args wsX11_isSoundNow RX11) (hr : meth.sig.returnType = some .boolean) (hlocks : meth.locks = false) (hT : rT D cy lay Γ s) (hK6 : ∀ (σ : MS) (v1 : Int32) (v2 : Int32) (v3 : Int32), K6 σ v1 v2 v3 → ∀ (H : Heap) (locs : List Loc) (ls : Array Slot), rG D cy lay Γ tn σ (rA cy lay Γ s.heap.size) s.heap H locs → lv_has ls 7 [(0, .ref (lay 0)), (1, .int v1), (2, .int v2), (3, .int v3)] → W p l e rm_X11_isSoundNow s m args below meth c H locs 0 0 (MQ below (va_Qi post (rO D cy lay Γ) (rA cy lay Γ s.heap.size)) args s 11 176 (rA cy lay Γ s.heap.size)) (F0 m 6 ls [])) : ∀ (n : Nat), ∀ (σ : MS) (v1 : Int32) (v2 : Int32) (v3 : Int32) (v4 : Nat) (v5 : Int32), u_X11_isSoundNow_87 Γ post K6 n σ v1 v2 v3 v4 v5 → ∀ (hv4 : v4 < 14 ∧ v4 < Γ.2.2.1), ∀ (H : Heap) (locs : List Loc) (ls : Array Slot), rG D cy lay Γ tn σ (rA cy lay Γ s.heap.size) s.heap H locs → lv_has ls 7 [(0, .ref (lay 0)), (1, .int v1), (2, .int v2), (3, .int v3), (4, .ref (lay (33 + v4))), (5, .int v5)] → W p l e rm_X11_isSoundNow s m args below meth c H locs 0 0 (MQ below (va_Qi post (rO D cy lay Γ) (rA cy lay Γ s.heap.size)) args s 11 176 (rA cy lay Γ s.heap.size)) (F0 m 87 ls []) := by
  intro n
  induction n with
  | zero =>
    intro σ v1 v2 v3 v4 v5 h
    exact h.elim
  | succ n ih =>
    intro σ v1 v2 v3 v4 v5 h hv4 H locs ls G hl
    rw [u_X11_isSoundNow_87] at h
    refine lv_iload hC.1 hC.2.1 dX11_isSoundNow_87 (lv_at hl 5 rfl) ?_
    refine lv_iload_n hC.1 hC.2.1 dX11_isSoundNow_89 rfl (lv_at hl 3 rfl) ?_
    refine lv_icmp_ge (tgt := 150) hC.1 hC.2.1 dX11_isSoundNow_90 (by decide) (fun c25 => ?_) (fun c25 => ?_)
    · replace h := h.1 c25
      refine lv_iinc (v := v3 + 1) (lv' := [(3, .int (v3 + 1)), (0, .ref (lay 0)), (1, .int v1), (2, .int v2), (4, .ref (lay (33 + v4))), (5, .int v5)]) hC.1 hC.2.1 dX11_isSoundNow_150 hl (k := 3) rfl rfl (by decide) rfl (fun ls hl => ?_)
      refine lv_goto (tgt := 6) hC.1 hC.2.1 dX11_isSoundNow_153 (by decide) ?_
      exact hK6 _ _ _ _ h _ _ _ G (lv_sub hl [1, 2, 3, 0] rfl)
    · replace h := h.2 c25
      refine lv_aload_n hC.1 hC.2.1 dX11_isSoundNow_93 rfl (lv_at hl 0 rfl) ?_
      refine rg_get hC hT G (by decide) r_mo k_X11 i_X11_isSoundNow_X11 5 (by decide) (wm 1 rfl) rfl dX11_isSoundNow_94 ?_
      refine lv_iload hC.1 hC.2.1 dX11_isSoundNow_97 (lv_at hl 5 rfl) ?_
      refine rg_r (f := fun i => lay (33 + i)) G (rg_runV (As := [.int v5]) (rest := []) hC hT G (c_lw_Jx4a65c_get_915e3 l D cy lay Γ h _) (cwV 1 hC.2.2.2.2 gX11_isSoundNow_Jx4a65c_get_915e3 rfl rfl rfl hdV_Jx4a65c_get_915e3 ⟨Nat.le_of_ble_eq_true rfl, Nat.le_of_ble_eq_true rfl⟩) (rg_recv hT G (by decide) r_lw k_AL) rfl hl.1 rfl (Nat.le_of_ble_eq_true rfl) dX11_isSoundNow_99 ⟨Nat.le_of_ble_eq_true rfl, Nat.le_of_ble_eq_true rfl⟩) (fun j27 σ26 H locs h G => ?_)
      (try dsimp only at h)
      obtain ⟨hj28, h⟩ := h
      refine rg_cast hC hT k_X10 (wm 2 rfl) (rg_recv hT G (rk_wd hj28) (r_wd hj28) k_X10) dX11_isSoundNow_102 ?_
      refine lv_astore (lv' := [(6, .ref (lay (33 + j27))), (0, .ref (lay 0)), (1, .int v1), (2, .int v2), (3, .int v3), (4, .ref (lay (33 + v4))), (5, .int v5)]) hC.1 hC.2.1 dX11_isSoundNow_105 hl (by decide) rfl (fun ls hl => ?_)
      refine lv_aload hC.1 hC.2.1 dX11_isSoundNow_107 (lv_at hl 0 rfl) ?_
      refine rg_getN hC hT G (rk_wd hj28) (r_wd hj28) k_X10 i_X11_isSoundNow_X10 7 (by decide) 17 rfl rfl dX11_isSoundNow_109 ?_
      refine lv_iconst (v := 1) hC.1 hC.2.1 dX11_isSoundNow_112 (by decide) ?_
      refine lv_icmp_ne (tgt := 144) hC.1 hC.2.1 dX11_isSoundNow_113 (by decide) (fun c29 => ?_) (fun c29 => ?_)
      · replace h := h.2 c29
        refine lv_iinc (v := v5 + 1) (lv' := [(5, .int (v5 + 1)), (6, .ref (lay (33 + j27))), (0, .ref (lay 0)), (1, .int v1), (2, .int v2), (3, .int v3), (4, .ref (lay (33 + v4)))]) hC.1 hC.2.1 dX11_isSoundNow_144 hl (k := 6) rfl rfl (by decide) rfl (fun ls hl => ?_)
        refine lv_goto (tgt := 87) hC.1 hC.2.1 dX11_isSoundNow_147 (by decide) ?_
        exact ih _ _ _ _ _ _ h hv4 _ _ _ G (lv_sub hl [2, 3, 4, 5, 6, 0] rfl)
      · replace h := h.1 c29
        refine lv_aload hC.1 hC.2.1 dX11_isSoundNow_116 (lv_at hl 0 rfl) ?_
        refine rg_getN hC hT G (rk_wd hj28) (r_wd hj28) k_X10 i_X11_isSoundNow_X10 0 (by decide) 10 rfl rfl dX11_isSoundNow_118 ?_
        refine lv_aload hC.1 hC.2.1 dX11_isSoundNow_121 (lv_at hl 5 rfl) ?_
        refine rg_getN hC hT G (rk_wd hv4) (r_wd hv4) k_X10 i_X11_isSoundNow_X10 0 (by decide) 10 rfl rfl dX11_isSoundNow_123 ?_
        refine lv_icmp_ne (tgt := 144) hC.1 hC.2.1 dX11_isSoundNow_126 (by decide) (fun c30 => ?_) (fun c30 => ?_)
        · replace h := h.2 c30
          refine lv_iinc (v := v5 + 1) (lv' := [(5, .int (v5 + 1)), (6, .ref (lay (33 + j27))), (0, .ref (lay 0)), (1, .int v1), (2, .int v2), (3, .int v3), (4, .ref (lay (33 + v4)))]) hC.1 hC.2.1 dX11_isSoundNow_144 hl (k := 6) rfl rfl (by decide) rfl (fun ls hl => ?_)
          refine lv_goto (tgt := 87) hC.1 hC.2.1 dX11_isSoundNow_147 (by decide) ?_
          exact ih _ _ _ _ _ _ h hv4 _ _ _ G (lv_sub hl [2, 3, 4, 5, 6, 0] rfl)
        · replace h := h.1 c30
          refine lv_aload hC.1 hC.2.1 dX11_isSoundNow_129 (lv_at hl 0 rfl) ?_
          refine rg_getN hC hT G (rk_wd hj28) (r_wd hj28) k_X10 i_X11_isSoundNow_X10 1 (by decide) 11 rfl rfl dX11_isSoundNow_131 ?_
          refine lv_aload hC.1 hC.2.1 dX11_isSoundNow_134 (lv_at hl 5 rfl) ?_
          refine rg_getN hC hT G (rk_wd hv4) (r_wd hv4) k_X10 i_X11_isSoundNow_X10 1 (by decide) 11 rfl rfl dX11_isSoundNow_136 ?_
          refine lv_icmp_ne (tgt := 144) hC.1 hC.2.1 dX11_isSoundNow_139 (by decide) (fun c31 => ?_) (fun c31 => ?_)
          · replace h := h.2 c31
            refine lv_iinc (v := v5 + 1) (lv' := [(5, .int (v5 + 1)), (6, .ref (lay (33 + j27))), (0, .ref (lay 0)), (1, .int v1), (2, .int v2), (3, .int v3), (4, .ref (lay (33 + v4)))]) hC.1 hC.2.1 dX11_isSoundNow_144 hl (k := 6) rfl rfl (by decide) rfl (fun ls hl => ?_)
            refine lv_goto (tgt := 87) hC.1 hC.2.1 dX11_isSoundNow_147 (by decide) ?_
            exact ih _ _ _ _ _ _ h hv4 _ _ _ G (lv_sub hl [2, 3, 4, 5, 6, 0] rfl)
          · replace h := h.1 c31
            refine lv_iconst (v := 0) hC.1 hC.2.1 dX11_isSoundNow_142 (by decide) ?_
            refine W.widen (k := 11) (n := 176) (by decide) (by decide) ?_
            exact rg_zret hC hr hlocks G rfl h dX11_isSoundNow_143
def u_X11_isSoundNow_6 (Γ : RG) (post : Int32 → MS → Prop) : Nat → MS → Int32 → Int32 → Int32 → Prop
  | 0, _, _, _, _ => False
  | n + 1, σ, v1, v2, v3 => w_lw_Jx4a65c_size_8abf5 Γ (fun r2 σ1 => ((r2 ≤ v3 → (∃ k, u_X11_isSoundNow_158 Γ post k σ1 v1 v2 0)) ∧ (¬ r2 ≤ v3 → w_lw_Jx4a65c_get_915e3 Γ (fun j12 σ11 => ((j12 < 14 ∧ j12 < Γ.2.2.1) ∧ (((σ11 (33 + j12) 7) = 1 → w_r_J6_bitCount_0f7a4 Γ (fun r16 σ15 => w_lb_Jx4a65c_get_915e3 Γ (fun j18 σ17 => ((j18 < Γ.2.1) ∧ w_in_J6_intValue_8abf5 Γ (fun r21 σ20 => w_X11_needed_ Γ (fun r23 σ22 => ((r16 = r23 → (∃ k, u_X11_isSoundNow_87 Γ post (fun σ w0 w1 w2 => u_X11_isSoundNow_6 Γ post n σ w0 w1 w2) k σ22 (v1 + (σ11 (33 + j12) 11)) v2 v3 j12 0)) ∧ (¬ r16 = r23 → post 0 σ22))) σ20 r21) σ17 j18)) σ15 (σ15 (33 + j12) 0)) σ11 (σ11 (33 + j12) 8)) ∧ (¬ (σ11 (33 + j12) 7) = 1 → u_X11_isSoundNow_6 Γ post n σ11 (v1 + (σ11 (33 + j12) 11)) v2 (v3 + 1))))) σ1 v3))) σ
set_option maxHeartbeats 4000000 in
set_option maxRecDepth 100000 in
theorem l_X11_isSoundNow_6 {p : Program} {l : Launch} {e : Env} {s : State} {m : MethodId} {args : Array Value} {below : List Frame} {meth : Method} {c : Code} {D : va_G} {cy : Nat → ClassId} {lay : Nat → Nat} {Γ : RG} {post : Int32 → MS → Prop} (hC : CallFix p m c cX11_isSoundNow 7 s args wsX11_isSoundNow RX11) (hr : meth.sig.returnType = some .boolean) (hlocks : meth.locks = false) (hT : rT D cy lay Γ s) : ∀ (n : Nat), ∀ (σ : MS) (v1 : Int32) (v2 : Int32) (v3 : Int32), u_X11_isSoundNow_6 Γ post n σ v1 v2 v3 → ∀ (H : Heap) (locs : List Loc) (ls : Array Slot), rG D cy lay Γ tn σ (rA cy lay Γ s.heap.size) s.heap H locs → lv_has ls 7 [(0, .ref (lay 0)), (1, .int v1), (2, .int v2), (3, .int v3)] → W p l e rm_X11_isSoundNow s m args below meth c H locs 0 0 (MQ below (va_Qi post (rO D cy lay Γ) (rA cy lay Γ s.heap.size)) args s 11 176 (rA cy lay Γ s.heap.size)) (F0 m 6 ls []) := by
  intro n
  induction n with
  | zero =>
    intro σ v1 v2 v3 h
    exact h.elim
  | succ n ih =>
    intro σ v1 v2 v3 h H locs ls G hl
    rw [u_X11_isSoundNow_6] at h
    refine lv_iload_n hC.1 hC.2.1 dX11_isSoundNow_6 rfl (lv_at hl 3 rfl) ?_
    refine lv_aload_n hC.1 hC.2.1 dX11_isSoundNow_7 rfl (lv_at hl 0 rfl) ?_
    refine rg_get hC hT G (by decide) r_mo k_X11 i_X11_isSoundNow_X11 5 (by decide) (wm 1 rfl) rfl dX11_isSoundNow_8 ?_
    refine rg_i G (rg_runV (As := []) (rest := [.int v3]) hC hT G (c_lw_Jx4a65c_size_8abf5 l D cy lay Γ h _) (cwV 0 hC.2.2.2.2 gX11_isSoundNow_Jx4a65c_size_8abf5 rfl rfl rfl hdV_Jx4a65c_size_8abf5 ⟨Nat.le_of_ble_eq_true rfl, Nat.le_of_ble_eq_true rfl⟩) (rg_recv hT G (by decide) r_lw k_AL) rfl hl.1 rfl (Nat.le_of_ble_eq_true rfl) dX11_isSoundNow_11 ⟨Nat.le_of_ble_eq_true rfl, Nat.le_of_ble_eq_true rfl⟩) (fun r2 σ1 H locs h G => ?_)
    (try dsimp only at h)
    refine lv_icmp_ge (tgt := 156) hC.1 hC.2.1 dX11_isSoundNow_14 (by decide) (fun c3 => ?_) (fun c3 => ?_)
    · replace h := h.1 c3
      refine lv_iconst (v := 0) hC.1 hC.2.1 dX11_isSoundNow_156 (by decide) ?_
      refine lv_istore_n (lv' := [(3, .int 0), (0, .ref (lay 0)), (1, .int v1), (2, .int v2)]) hC.1 hC.2.1 dX11_isSoundNow_157 rfl hl (by decide) rfl (fun ls hl => ?_)
      obtain ⟨n1, h⟩ := h
      exact l_X11_isSoundNow_158 hC hr hlocks hT n1 _ _ _ _ h _ _ _ G (lv_sub hl [1, 2, 3, 0] rfl)
    · replace h := h.2 c3
      refine lv_aload_n hC.1 hC.2.1 dX11_isSoundNow_17 rfl (lv_at hl 0 rfl) ?_
      refine rg_get hC hT G (by decide) r_mo k_X11 i_X11_isSoundNow_X11 5 (by decide) (wm 1 rfl) rfl dX11_isSoundNow_18 ?_
      refine lv_iload_n hC.1 hC.2.1 dX11_isSoundNow_21 rfl (lv_at hl 3 rfl) ?_
      refine rg_r (f := fun i => lay (33 + i)) G (rg_runV (As := [.int v3]) (rest := []) hC hT G (c_lw_Jx4a65c_get_915e3 l D cy lay Γ h _) (cwV 1 hC.2.2.2.2 gX11_isSoundNow_Jx4a65c_get_915e3 rfl rfl rfl hdV_Jx4a65c_get_915e3 ⟨Nat.le_of_ble_eq_true rfl, Nat.le_of_ble_eq_true rfl⟩) (rg_recv hT G (by decide) r_lw k_AL) rfl hl.1 rfl (Nat.le_of_ble_eq_true rfl) dX11_isSoundNow_22 ⟨Nat.le_of_ble_eq_true rfl, Nat.le_of_ble_eq_true rfl⟩) (fun j12 σ11 H locs h G => ?_)
      (try dsimp only at h)
      obtain ⟨hj13, h⟩ := h
      refine rg_cast hC hT k_X10 (wm 2 rfl) (rg_recv hT G (rk_wd hj13) (r_wd hj13) k_X10) dX11_isSoundNow_25 ?_
      refine lv_astore (lv' := [(4, .ref (lay (33 + j12))), (0, .ref (lay 0)), (1, .int v1), (2, .int v2), (3, .int v3)]) hC.1 hC.2.1 dX11_isSoundNow_28 hl (by decide) rfl (fun ls hl => ?_)
      refine lv_iload_n hC.1 hC.2.1 dX11_isSoundNow_30 rfl (lv_at hl 2 rfl) ?_
      refine lv_aload hC.1 hC.2.1 dX11_isSoundNow_31 (lv_at hl 0 rfl) ?_
      refine rg_getN hC hT G (rk_wd hj13) (r_wd hj13) k_X10 i_X11_isSoundNow_X10 11 (by decide) 21 rfl rfl dX11_isSoundNow_33 ?_
      refine lv_iadd hC.1 hC.2.1 dX11_isSoundNow_36 ?_
      refine lv_istore_n (lv' := [(1, .int (v1 + (σ11 (33 + j12) 11))), (4, .ref (lay (33 + j12))), (0, .ref (lay 0)), (2, .int v2), (3, .int v3)]) hC.1 hC.2.1 dX11_isSoundNow_37 rfl hl (by decide) rfl (fun ls hl => ?_)
      refine lv_aload hC.1 hC.2.1 dX11_isSoundNow_38 (lv_at hl 1 rfl) ?_
      refine rg_getN hC hT G (rk_wd hj13) (r_wd hj13) k_X10 i_X11_isSoundNow_X10 7 (by decide) 17 rfl rfl dX11_isSoundNow_40 ?_
      refine lv_iconst (v := 1) hC.1 hC.2.1 dX11_isSoundNow_43 (by decide) ?_
      refine lv_icmp_eq (tgt := 50) hC.1 hC.2.1 dX11_isSoundNow_44 (by decide) (fun c14 => ?_) (fun c14 => ?_)
      · replace h := h.1 c14
        refine lv_aload hC.1 hC.2.1 dX11_isSoundNow_50 (lv_at hl 1 rfl) ?_
        refine rg_getN hC hT G (rk_wd hj13) (r_wd hj13) k_X10 i_X11_isSoundNow_X10 8 (by decide) 18 rfl rfl dX11_isSoundNow_52 ?_
        refine rg_i G (rg_runS (As := [.int (σ11 (33 + j12) 8)]) (rest := []) hC hT G (c_r_J6_bitCount_0f7a4 l D cy lay Γ h _) (va_cwS 1 hC.2.2.2.2 gX11_isSoundNow_J6_bitCount_0f7a4 rfl rfl rfl hdS_J6_bitCount_0f7a4 ⟨Nat.le_of_ble_eq_true rfl, Nat.le_of_ble_eq_true rfl⟩) rfl hl.1 rfl (Nat.le_of_ble_eq_true rfl) dX11_isSoundNow_55 ⟨Nat.le_of_ble_eq_true rfl, Nat.le_of_ble_eq_true rfl⟩) (fun r16 σ15 H locs h G => ?_)
        (try dsimp only at h)
        refine lv_aload_n hC.1 hC.2.1 dX11_isSoundNow_58 rfl (lv_at hl 2 rfl) ?_
        refine rg_get hC hT G (by decide) r_mo k_X11 i_X11_isSoundNow_X11 4 (by decide) (wm 3 rfl) rfl dX11_isSoundNow_59 ?_
        refine lv_aload hC.1 hC.2.1 dX11_isSoundNow_62 (lv_at hl 1 rfl) ?_
        refine rg_getN hC hT G (rk_wd hj13) (r_wd hj13) k_X10 i_X11_isSoundNow_X10 0 (by decide) 10 rfl rfl dX11_isSoundNow_64 ?_
        refine rg_r (f := fun i => Γ.2.2.2.2.1 i) G (rg_runV (As := [.int (σ15 (33 + j12) 0)]) (rest := [.int r16]) hC hT G (c_lb_Jx4a65c_get_915e3 l D cy lay Γ h _) (cwV 1 hC.2.2.2.2 gX11_isSoundNow_Jx4a65c_get_915e3 rfl rfl rfl hdV_Jx4a65c_get_915e3 ⟨Nat.le_of_ble_eq_true rfl, Nat.le_of_ble_eq_true rfl⟩) (rg_recv hT G (by decide) r_lb k_AL) rfl hl.1 rfl (Nat.le_of_ble_eq_true rfl) dX11_isSoundNow_67 ⟨Nat.le_of_ble_eq_true rfl, Nat.le_of_ble_eq_true rfl⟩) (fun j18 σ17 H locs h G => ?_)
        (try dsimp only at h)
        obtain ⟨hj19, h⟩ := h
        refine rg_cast hC hT k_IN (wm 4 rfl) (rg_recvI hT G hj19) dX11_isSoundNow_70 ?_
        refine rg_i G (rg_runV (As := []) (rest := [.int r16]) hC hT G (c_in_J6_intValue_8abf5 l D cy lay Γ h hj19 _) (cwV 0 hC.2.2.2.2 gX11_isSoundNow_J6_intValue_8abf5 rfl rfl rfl hdV_J6_intValue_8abf5 ⟨Nat.le_of_ble_eq_true rfl, Nat.le_of_ble_eq_true rfl⟩) (rg_recvI hT G hj19) rfl hl.1 rfl (Nat.le_of_ble_eq_true rfl) dX11_isSoundNow_73 ⟨Nat.le_of_ble_eq_true rfl, Nat.le_of_ble_eq_true rfl⟩) (fun r21 σ20 H locs h G => ?_)
        (try dsimp only at h)
        refine rg_i G (rg_runS (As := [.int r21]) (rest := [.int r16]) hC hT G (c_X11_needed_ l D cy lay Γ h _) (va_cwS 1 hC.2.2.2.2 gX11_isSoundNow_X11_needed_ rfl rfl rfl hdS_X11_needed_ ⟨Nat.le_of_ble_eq_true rfl, Nat.le_of_ble_eq_true rfl⟩) rfl hl.1 rfl (Nat.le_of_ble_eq_true rfl) dX11_isSoundNow_76 ⟨Nat.le_of_ble_eq_true rfl, Nat.le_of_ble_eq_true rfl⟩) (fun r23 σ22 H locs h G => ?_)
        (try dsimp only at h)
        refine lv_icmp_eq (tgt := 84) hC.1 hC.2.1 dX11_isSoundNow_79 (by decide) (fun c24 => ?_) (fun c24 => ?_)
        · replace h := h.1 c24
          refine lv_iconst (v := 0) hC.1 hC.2.1 dX11_isSoundNow_84 (by decide) ?_
          refine lv_istore (lv' := [(5, .int 0), (1, .int (v1 + (σ11 (33 + j12) 11))), (4, .ref (lay (33 + j12))), (0, .ref (lay 0)), (2, .int v2), (3, .int v3)]) hC.1 hC.2.1 dX11_isSoundNow_85 hl (by decide) rfl (fun ls hl => ?_)
          obtain ⟨n1, h⟩ := h
          exact l_X11_isSoundNow_87 (fun σ w0 w1 w2 => u_X11_isSoundNow_6 Γ post n σ w0 w1 w2) hC hr hlocks hT ih n1 _ _ _ _ _ _ h hj13 _ _ _ G (lv_sub hl [3, 1, 4, 5, 2, 0] rfl)
        · replace h := h.2 c24
          refine lv_iconst (v := 0) hC.1 hC.2.1 dX11_isSoundNow_82 (by decide) ?_
          refine W.widen (k := 11) (n := 176) (by decide) (by decide) ?_
          exact rg_zret hC hr hlocks G rfl h dX11_isSoundNow_83
      · replace h := h.2 c14
        refine lv_goto (tgt := 150) hC.1 hC.2.1 dX11_isSoundNow_47 (by decide) ?_
        refine lv_iinc (v := v3 + 1) (lv' := [(3, .int (v3 + 1)), (1, .int (v1 + (σ11 (33 + j12) 11))), (4, .ref (lay (33 + j12))), (0, .ref (lay 0)), (2, .int v2)]) hC.1 hC.2.1 dX11_isSoundNow_150 hl (k := 4) rfl rfl (by decide) rfl (fun ls hl => ?_)
        refine lv_goto (tgt := 6) hC.1 hC.2.1 dX11_isSoundNow_153 (by decide) ?_
        exact ih _ _ _ _ h _ _ _ G (lv_sub hl [3, 1, 4, 0] rfl)
def w_X11_isSoundNow (Γ : RG) (post : Int32 → MS → Prop) (σ : MS) : Prop := (∃ k, u_X11_isSoundNow_6 Γ post k σ 0 0 0)
set_option maxHeartbeats 4000000 in
set_option maxRecDepth 100000 in
theorem c_X11_isSoundNow (l : Launch) (D : va_G) (cy : Nat → ClassId) (lay : Nat → Nat) (Γ : RG) {σ : MS} {post : Int32 → MS → Prop} (h : w_X11_isSoundNow Γ post σ) (sz : Nat) : Met l yX11_isSoundNow wsX11_isSoundNow rm_X11_isSoundNow (va_Pc [.ref (lay 0)] (rI D cy lay Γ σ sz)) (va_Qi post (rO D cy lay Γ) (rA cy lay Γ sz)) 11 176 (rA cy lay Γ sz) := by
  refine rg_ofW (cc := cX11_isSoundNow) (maxL := 7) (ret := some .boolean) (own := RX11) (Qc := fun sz => va_Qi post (rO D cy lay Γ) (rA cy lay Γ sz)) (by decide) rfl (Nat.le_of_ble_eq_true rfl) rfl ?_
  intro p e s m args below meth c ls hC hr hlocks hT G hl
  unfold w_X11_isSoundNow at h
  have hl : lv_has ls 7 [(0, .ref (lay 0))] := hl
  refine lv_iconst (v := 0) hC.1 hC.2.1 dX11_isSoundNow_0 (by decide) ?_
  refine lv_istore_n (lv' := [(1, .int 0), (0, .ref (lay 0))]) hC.1 hC.2.1 dX11_isSoundNow_1 rfl hl (by decide) rfl (fun ls hl => ?_)
  refine lv_iconst (v := 0) hC.1 hC.2.1 dX11_isSoundNow_2 (by decide) ?_
  refine lv_istore_n (lv' := [(2, .int 0), (1, .int 0), (0, .ref (lay 0))]) hC.1 hC.2.1 dX11_isSoundNow_3 rfl hl (by decide) rfl (fun ls hl => ?_)
  refine lv_iconst (v := 0) hC.1 hC.2.1 dX11_isSoundNow_4 (by decide) ?_
  refine lv_istore_n (lv' := [(3, .int 0), (2, .int 0), (1, .int 0), (0, .ref (lay 0))]) hC.1 hC.2.1 dX11_isSoundNow_5 rfl hl (by decide) rfl (fun ls hl => ?_)
  obtain ⟨n1, h⟩ := h
  exact l_X11_isSoundNow_6 hC hr hlocks hT n1 _ _ _ _ h _ _ _ G (lv_sub hl [3, 2, 1, 0] rfl)
theorem hdV_X11_isSoundNow : yX11_isSoundNow.cls = RX11 ∧ yX11_isSoundNow.cls ≠ "java/lang/invoke/MethodHandle" ∧ yX11_isSoundNow.cls ≠ "java/lang/invoke/VarHandle" ∧ (parseMethodDescriptor yX11_isSoundNow.desc).map (fun d => d.parameters.length) = some 0 := by decide +kernel
abbrev rm_X11_isSound : Room := { frames := 7, cells := 11, slots := 176, locals := 165 }
theorem i_X11_isSound_X11 : ∀ w ∈ wsX110, w ∈ wsX11_isSound := fun _ h => List.mem_cons_of_mem _ (List.mem_append_left _ (List.mem_append_left _ (List.mem_append_left _ (List.mem_append_left _ (List.mem_append_right _ h)))))
def w_X11_isSound (Γ : RG) (post : Int32 → MS → Prop) (σ : MS) : Prop := w_X11_isSoundNow Γ (fun r2 σ1 => (narrow .boolean (.int r2) = .int r2 ∧ post r2 σ1)) (up2 σ 0 0 0)
set_option maxHeartbeats 4000000 in
set_option maxRecDepth 100000 in
theorem c_X11_isSound (l : Launch) (D : va_G) (cy : Nat → ClassId) (lay : Nat → Nat) (Γ : RG) {σ : MS} {post : Int32 → MS → Prop} (h : w_X11_isSound Γ post σ) (sz : Nat) : Met l yX11_isSound wsX11_isSound rm_X11_isSound (va_Pc [.ref (lay 0)] (rI D cy lay Γ σ sz)) (va_Qi post (rO D cy lay Γ) (rA cy lay Γ sz)) 11 176 (rA cy lay Γ sz) := by
  refine rg_ofW (cc := cX11_isSound) (maxL := 1) (ret := some .boolean) (own := RX11) (Qc := fun sz => va_Qi post (rO D cy lay Γ) (rA cy lay Γ sz)) (by decide) rfl (Nat.le_of_ble_eq_true rfl) rfl ?_
  intro p e s m args below meth c ls hC hr hlocks hT G hl
  unfold w_X11_isSound at h
  have hl : lv_has ls 1 [(0, .ref (lay 0))] := hl
  refine lv_aload_n hC.1 hC.2.1 dX11_isSound_0 rfl (lv_at hl 0 rfl) ?_
  refine lv_iconst (v := 0) hC.1 hC.2.1 dX11_isSound_1 (by decide) ?_
  refine rg_put hC hT G (by decide) r_mo k_X11 i_X11_isSound_X11 0 (by decide) (wm 1 rfl) rfl rfl (by simp) r_mo (by rw [up2_eq]; rfl) dX11_isSound_2 (fun H locs G => ?_)
  refine lv_aload_n hC.1 hC.2.1 dX11_isSound_5 rfl (lv_at hl 0 rfl) ?_
  refine rg_i G (rg_runV (As := []) (rest := []) hC hT G (c_X11_isSoundNow l D cy lay Γ h _) (cwV 0 hC.2.2.2.2 gX11_isSound_X11_isSoundNow rfl rfl rfl hdV_X11_isSoundNow ⟨Nat.le_of_ble_eq_true rfl, Nat.le_of_ble_eq_true rfl⟩) (rg_recv hT G (by decide) r_mo k_X11) rfl hl.1 rfl (Nat.le_of_ble_eq_true rfl) dX11_isSound_6 ⟨Nat.le_of_ble_eq_true rfl, Nat.le_of_ble_eq_true rfl⟩) (fun r2 σ1 H locs h G => ?_)
  (try dsimp only at h)
  refine W.widen (k := 11) (n := 176) (by decide) (by decide) ?_
  exact rg_zret hC hr hlocks G h.1 h.2 dX11_isSound_9
theorem hdV_X11_isSound : yX11_isSound.cls = RX11 ∧ yX11_isSound.cls ≠ "java/lang/invoke/MethodHandle" ∧ yX11_isSound.cls ≠ "java/lang/invoke/VarHandle" ∧ (parseMethodDescriptor yX11_isSound.desc).map (fun d => d.parameters.length) = some 0 := by decide +kernel
abbrev rm_X11_digest : Room := { frames := 14, cells := 339, slots := 5424, locals := 360 }
theorem i_X11_digest_X11 : ∀ w ∈ wsX110, w ∈ wsX11_digest := fun _ h => List.mem_cons_of_mem _ (List.mem_append_left _ (List.mem_append_left _ (List.mem_append_left _ (List.mem_append_left _ (List.mem_append_right _ h)))))
theorem i_X11_digest_X10 : ∀ w ∈ wsX100, w ∈ wsX11_digest := fun _ h => List.mem_cons_of_mem _ (List.mem_append_left _ (List.mem_append_left _ (List.mem_append_left _ (List.mem_append_right _ h))))
def u_X11_digest_316 (Γ : RG) (post : Int64 → MS → Prop) (σ : MS) (t0 : Int64) : Prop := w_X11_add Γ (fun σ23 => post (m64 (σ23 0 12) (σ23 0 13)) σ23) σ t0
set_option maxHeartbeats 4000000 in
set_option maxRecDepth 100000 in
theorem l_X11_digest_316 {p : Program} {l : Launch} {e : Env} {s : State} {m : MethodId} {args : Array Value} {below : List Frame} {meth : Method} {c : Code} {D : va_G} {cy : Nat → ClassId} {Γ : RG} {post : Int64 → MS → Prop} (hC : CallFix p m c cX11_digest 3 s args wsX11_digest RX11) (hr : meth.sig.returnType = some .long) (hlocks : meth.locks = false) : ∀ (q : Nat) (lay : Nat → Nat), rT D cy lay Γ s → ∀ (σ : MS) (t0 : Int64), q + 0 ≤ 339 → u_X11_digest_316 Γ post σ t0 → ∀ (H : Heap) (locs : List Loc) (ls : Array Slot), rG D cy lay Γ tn σ (rA cy lay Γ s.heap.size) s.heap H locs → lv_has ls 3 [(0, .ref (lay 0))] → W p l e rm_X11_digest s m args below meth c H locs q (16 * (q)) (MQ below (va_Ql post (rO D cy lay Γ) (rA cy lay Γ s.heap.size)) args s 339 5424 (rA cy lay Γ s.heap.size)) (F0 m 316 ls [.long t0, .ref (lay 0)]) := by
  intro q lay hT σ t0 hq h H locs ls G hl
  unfold u_X11_digest_316 at h
  refine rg_v G (rg_runV (As := [.long t0]) (rest := []) hC hT G (c_X11_add l D cy lay Γ h _) (cwV 1 hC.2.2.2.2 gX11_digest_X11_add rfl rfl rfl hdV_X11_add ⟨Nat.le_of_ble_eq_true rfl, Nat.le_of_ble_eq_true rfl⟩) (rg_recv hT G (by decide) r_mo k_X11) rfl hl.1 rfl (Nat.le_of_ble_eq_true rfl) dX11_digest_316 (show q + 0 ≤ 339 ∧ 16 * (q) + 0 ≤ 5424 by omega)) (fun σ23 H locs h G => ?_)
  (try dsimp only at h)
  refine lv_aload_n hC.1 hC.2.1 dX11_digest_319 rfl (lv_at hl 0 rfl) ?_
  refine rg_get hC hT G (by decide) r_mo k_X11 i_X11_digest_X11 12 (by decide) (wm 3 rfl) rfl dX11_digest_320 ?_
  refine W.widen (k := 339) (n := 5424) (by omega) (by omega) ?_
  exact rg_lret hC hr hlocks G h dX11_digest_323
def u_X11_digest_242 (Γ : RG) (post : Int64 → MS → Prop) (K165 : MS → Int32 → Prop) (σ : MS) (v1 : Int32) : Prop := w_lw_Jx4a65c_get_915e3 Γ (fun j27 σ26 => ((j27 < 14 ∧ j27 < Γ.2.2.1) ∧ w_X11_bestSet Γ (fun len30 f31 σ29 => w_X11_add Γ (fun σ33 => K165 (mrg σ33 (rw0 (mrg σ29 σ26) 64 f31)) (v1 + 1)) (rw0 (mrg σ29 σ26) 64 f31) (Int32.toInt64 (nI len30))) σ26 (σ26 (33 + j27) 8))) σ v1
set_option maxHeartbeats 4000000 in
set_option maxRecDepth 100000 in
theorem l_X11_digest_242 {p : Program} {l : Launch} {e : Env} {s : State} {m : MethodId} {args : Array Value} {below : List Frame} {meth : Method} {c : Code} {D : va_G} {cy : Nat → ClassId} {Γ : RG} {post : Int64 → MS → Prop} (K165 : MS → Int32 → Prop) (XK : Nat) (hC : CallFix p m c cX11_digest 3 s args wsX11_digest RX11) (hr : meth.sig.returnType = some .long) (hlocks : meth.locks = false) (hK165 : ∀ (q : Nat) (lay : Nat → Nat), rT D cy lay Γ s → ∀ (σ : MS) (v1 : Int32), q + XK ≤ 339 → K165 σ v1 → ∀ (H : Heap) (locs : List Loc) (ls : Array Slot), rG D cy lay Γ tn σ (rA cy lay Γ s.heap.size) s.heap H locs → lv_has ls 3 [(0, .ref (lay 0)), (1, .int v1)] → W p l e rm_X11_digest s m args below meth c H locs q (16 * (q)) (MQ below (va_Ql post (rO D cy lay Γ) (rA cy lay Γ s.heap.size)) args s 339 5424 (rA cy lay Γ s.heap.size)) (F0 m 165 ls [])) : ∀ (q : Nat) (lay : Nat → Nat), rT D cy lay Γ s → ∀ (σ : MS) (v1 : Int32), q + 4 + XK ≤ 339 → u_X11_digest_242 Γ post K165 σ v1 → ∀ (H : Heap) (locs : List Loc) (ls : Array Slot), rG D cy lay Γ tn σ (rA cy lay Γ s.heap.size) s.heap H locs → lv_has ls 3 [(0, .ref (lay 0)), (1, .int v1)] → W p l e rm_X11_digest s m args below meth c H locs q (16 * (q)) (MQ below (va_Ql post (rO D cy lay Γ) (rA cy lay Γ s.heap.size)) args s 339 5424 (rA cy lay Γ s.heap.size)) (F0 m 242 ls []) := by
  intro q lay hT σ v1 hq h H locs ls G hl
  unfold u_X11_digest_242 at h
  refine lv_aload_n hC.1 hC.2.1 dX11_digest_242 rfl (lv_at hl 0 rfl) ?_
  refine lv_aload_n hC.1 hC.2.1 dX11_digest_243 rfl (lv_at hl 0 rfl) ?_
  refine lv_aload_n hC.1 hC.2.1 dX11_digest_244 rfl (lv_at hl 0 rfl) ?_
  refine rg_get hC hT G (by decide) r_mo k_X11 i_X11_digest_X11 5 (by decide) (wm 6 rfl) rfl dX11_digest_245 ?_
  refine lv_iload_n hC.1 hC.2.1 dX11_digest_248 rfl (lv_at hl 1 rfl) ?_
  refine rg_r (f := fun i => lay (33 + i)) G (rg_runV (As := [.int v1]) (rest := [.ref (lay 0), .ref (lay 0)]) hC hT G (c_lw_Jx4a65c_get_915e3 l D cy lay Γ h _) (cwV 1 hC.2.2.2.2 gX11_digest_Jx4a65c_get_915e3 rfl rfl rfl hdV_Jx4a65c_get_915e3 ⟨Nat.le_of_ble_eq_true rfl, Nat.le_of_ble_eq_true rfl⟩) (rg_recv hT G (by decide) r_lw k_AL) rfl hl.1 rfl (Nat.le_of_ble_eq_true rfl) dX11_digest_249 (show q + 0 ≤ 339 ∧ 16 * (q) + 0 ≤ 5424 by omega)) (fun j27 σ26 H locs h G => ?_)
  (try dsimp only at h)
  obtain ⟨hj28, h⟩ := h
  refine rg_cast hC hT k_X10 (wm 7 rfl) (rg_recv hT G (rk_wd hj28) (r_wd hj28) k_X10) dX11_digest_252 ?_
  refine rg_getN hC hT G (rk_wd hj28) (r_wd hj28) k_X10 i_X11_digest_X10 8 (by decide) 18 rfl rfl dX11_digest_255 ?_
  refine rg_aM (Q := fun lay => MQ below (va_Ql post (rO D cy lay Γ) (rA cy lay Γ s.heap.size)) args s 339 5424 (rA cy lay Γ s.heap.size)) (ql_l hT.2.2.2) hT G tmO_n (k := 64) (by decide) (by decide) rfl (rg_runV (As := [.int (σ26 (33 + j27) 8)]) (rest := [.ref (lay 0)]) hC hT G (c_X11_bestSet l D cy lay Γ h _) (cwV 1 hC.2.2.2.2 gX11_digest_X11_bestSet rfl rfl rfl hdV_X11_bestSet ⟨Nat.le_of_ble_eq_true rfl, Nat.le_of_ble_eq_true rfl⟩) (rg_recv hT G (by decide) r_mo k_X11) rfl hl.1 rfl (Nat.le_of_ble_eq_true rfl) dX11_digest_258 (show q + 4 ≤ 339 ∧ 16 * (q) + 64 ≤ 5424 by omega)) (fun len30 f31 σ29 h lay hly hT H locs G => ?_)
  (try dsimp only at h)
  rw [← hly 0 (by decide)]
  replace hl : lv_has ls 3 [(0, .ref (lay 0)), (1, .int v1)] := by rw [hly 0 (by decide)]; exact hl
  refine rg_alen hC hT G (by decide) (r_ti (by decide) rfl) dX11_digest_261 ?_
  refine lv_i2l (v := Int32.toInt64 (nI len30)) hC.1 hC.2.1 dX11_digest_262 rfl ?_
  refine rg_vM hT G (rg_runV (As := [.long (Int32.toInt64 (nI len30))]) (rest := []) hC hT (rG_drop G hT.2.2.2) (c_X11_add l D cy lay Γ h _) (cwV 1 hC.2.2.2.2 gX11_digest_X11_add rfl rfl rfl hdV_X11_add ⟨Nat.le_of_ble_eq_true rfl, Nat.le_of_ble_eq_true rfl⟩) (rg_recv hT (rG_drop G hT.2.2.2) (by decide) r_mo k_X11) rfl hl.1 rfl (Nat.le_of_ble_eq_true rfl) dX11_digest_263 (show q + 4 + 0 ≤ 339 ∧ 16 * (q + 4) + 0 ≤ 5424 by omega)) (fun σ33 H locs h G => ?_)
  (try dsimp only at h)
  refine lv_iinc (v := v1 + 1) (lv' := [(1, .int (v1 + 1)), (0, .ref (lay 0))]) hC.1 hC.2.1 dX11_digest_266 hl (k := 1) rfl rfl (by decide) rfl (fun ls hl => ?_)
  refine lv_goto (tgt := 165) hC.1 hC.2.1 dX11_digest_269 (by decide) ?_
  refine W.widen (k := q + 4) (n := 16 * (q + 4)) (by omega) (by omega) ?_
  exact hK165 (q + 4) lay hT _ _ (by omega) h _ _ _ (rG_drop G hT.2.2.2) (lv_sub hl [1, 0] rfl)
def u_X11_digest_203 (Γ : RG) (post : Int64 → MS → Prop) (K165 : MS → Int32 → Prop) : Nat → MS → Int32 → Int32 → Prop
  | 0, _, _, _ => False
  | n + 1, σ, v1, v2 => ((4 ≤ v2 → u_X11_digest_242 Γ post K165 σ v1) ∧ (¬ 4 ≤ v2 → w_lw_Jx4a65c_get_915e3 Γ (fun j35 σ34 => ((j35 < 14 ∧ j35 < Γ.2.2.1) ∧ (((σ34 (33 + j35) 7) = 0 → w_X11_fillingNow Γ (fun r39 σ38 => w_X11_add Γ (fun σ40 => u_X11_digest_203 Γ post K165 n σ40 v1 (v2 + 1)) σ38 (Int32.toInt64 r39)) σ34 v1 v2) ∧ (¬ (σ34 (33 + j35) 7) = 0 → u_X11_digest_242 Γ post K165 σ34 v1)))) σ v1))
set_option maxHeartbeats 4000000 in
set_option maxRecDepth 100000 in
theorem l_X11_digest_203 {p : Program} {l : Launch} {e : Env} {s : State} {m : MethodId} {args : Array Value} {below : List Frame} {meth : Method} {c : Code} {D : va_G} {cy : Nat → ClassId} {Γ : RG} {post : Int64 → MS → Prop} (K165 : MS → Int32 → Prop) (XK : Nat) (hC : CallFix p m c cX11_digest 3 s args wsX11_digest RX11) (hr : meth.sig.returnType = some .long) (hlocks : meth.locks = false) (hK165 : ∀ (q : Nat) (lay : Nat → Nat), rT D cy lay Γ s → ∀ (σ : MS) (v1 : Int32), q + XK ≤ 339 → K165 σ v1 → ∀ (H : Heap) (locs : List Loc) (ls : Array Slot), rG D cy lay Γ tn σ (rA cy lay Γ s.heap.size) s.heap H locs → lv_has ls 3 [(0, .ref (lay 0)), (1, .int v1)] → W p l e rm_X11_digest s m args below meth c H locs q (16 * (q)) (MQ below (va_Ql post (rO D cy lay Γ) (rA cy lay Γ s.heap.size)) args s 339 5424 (rA cy lay Γ s.heap.size)) (F0 m 165 ls [])) : ∀ (n : Nat), ∀ (q : Nat) (lay : Nat → Nat), rT D cy lay Γ s → ∀ (σ : MS) (v1 : Int32) (v2 : Int32), q + n * 0 + 4 + XK ≤ 339 → u_X11_digest_203 Γ post K165 n σ v1 v2 → ∀ (H : Heap) (locs : List Loc) (ls : Array Slot), rG D cy lay Γ tn σ (rA cy lay Γ s.heap.size) s.heap H locs → lv_has ls 3 [(0, .ref (lay 0)), (1, .int v1), (2, .int v2)] → W p l e rm_X11_digest s m args below meth c H locs q (16 * (q)) (MQ below (va_Ql post (rO D cy lay Γ) (rA cy lay Γ s.heap.size)) args s 339 5424 (rA cy lay Γ s.heap.size)) (F0 m 203 ls []) := by
  intro n
  induction n with
  | zero =>
    intro q lay hT σ v1 v2 hq h
    exact h.elim
  | succ n ih =>
    intro q lay hT σ v1 v2 hq h H locs ls G hl
    rw [u_X11_digest_203] at h
    refine lv_iload_n hC.1 hC.2.1 dX11_digest_203 rfl (lv_at hl 2 rfl) ?_
    refine lv_iconst (v := 4) hC.1 hC.2.1 dX11_digest_204 (by decide) ?_
    refine lv_icmp_ge (tgt := 242) hC.1 hC.2.1 dX11_digest_205 (by decide) (fun c25 => ?_) (fun c25 => ?_)
    · replace h := h.1 c25
      refine W.widen (k := q) (n := 16 * (q)) (by omega) (by omega) ?_
      exact l_X11_digest_242 K165 XK hC hr hlocks hK165 q lay hT _ _ (by omega) h _ _ _ G (lv_sub hl [0, 1] rfl)
    · replace h := h.2 c25
      refine lv_aload_n hC.1 hC.2.1 dX11_digest_208 rfl (lv_at hl 0 rfl) ?_
      refine rg_get hC hT G (by decide) r_mo k_X11 i_X11_digest_X11 5 (by decide) (wm 6 rfl) rfl dX11_digest_209 ?_
      refine lv_iload_n hC.1 hC.2.1 dX11_digest_212 rfl (lv_at hl 1 rfl) ?_
      refine rg_r (f := fun i => lay (33 + i)) G (rg_runV (As := [.int v1]) (rest := []) hC hT G (c_lw_Jx4a65c_get_915e3 l D cy lay Γ h _) (cwV 1 hC.2.2.2.2 gX11_digest_Jx4a65c_get_915e3 rfl rfl rfl hdV_Jx4a65c_get_915e3 ⟨Nat.le_of_ble_eq_true rfl, Nat.le_of_ble_eq_true rfl⟩) (rg_recv hT G (by decide) r_lw k_AL) rfl hl.1 rfl (Nat.le_of_ble_eq_true rfl) dX11_digest_213 (show q + 0 ≤ 339 ∧ 16 * (q) + 0 ≤ 5424 by omega)) (fun j35 σ34 H locs h G => ?_)
      (try dsimp only at h)
      obtain ⟨hj36, h⟩ := h
      refine rg_cast hC hT k_X10 (wm 7 rfl) (rg_recv hT G (rk_wd hj36) (r_wd hj36) k_X10) dX11_digest_216 ?_
      refine rg_getN hC hT G (rk_wd hj36) (r_wd hj36) k_X10 i_X11_digest_X10 7 (by decide) 17 rfl rfl dX11_digest_219 ?_
      refine lv_if_ne (tgt := 242) hC.1 hC.2.1 dX11_digest_222 (by decide) (fun c37 => ?_) (fun c37 => ?_)
      · replace h := h.2 c37
        refine W.widen (k := q) (n := 16 * (q)) (by omega) (by omega) ?_
        exact l_X11_digest_242 K165 XK hC hr hlocks hK165 q lay hT _ _ (by omega) h _ _ _ G (lv_sub hl [0, 1] rfl)
      · replace h := h.1 c37
        refine lv_aload_n hC.1 hC.2.1 dX11_digest_225 rfl (lv_at hl 0 rfl) ?_
        refine lv_aload_n hC.1 hC.2.1 dX11_digest_226 rfl (lv_at hl 0 rfl) ?_
        refine lv_iload_n hC.1 hC.2.1 dX11_digest_227 rfl (lv_at hl 1 rfl) ?_
        refine lv_iload_n hC.1 hC.2.1 dX11_digest_228 rfl (lv_at hl 2 rfl) ?_
        refine rg_i G (rg_runV (As := [.int v1, .int v2]) (rest := [.ref (lay 0)]) hC hT G (c_X11_fillingNow l D cy lay Γ h _) (cwV 2 hC.2.2.2.2 gX11_digest_X11_fillingNow rfl rfl rfl hdV_X11_fillingNow ⟨Nat.le_of_ble_eq_true rfl, Nat.le_of_ble_eq_true rfl⟩) (rg_recv hT G (by decide) r_mo k_X11) rfl hl.1 rfl (Nat.le_of_ble_eq_true rfl) dX11_digest_229 (show q + 0 ≤ 339 ∧ 16 * (q) + 0 ≤ 5424 by omega)) (fun r39 σ38 H locs h G => ?_)
        (try dsimp only at h)
        refine lv_i2l (v := Int32.toInt64 r39) hC.1 hC.2.1 dX11_digest_232 rfl ?_
        refine rg_v G (rg_runV (As := [.long (Int32.toInt64 r39)]) (rest := []) hC hT G (c_X11_add l D cy lay Γ h _) (cwV 1 hC.2.2.2.2 gX11_digest_X11_add rfl rfl rfl hdV_X11_add ⟨Nat.le_of_ble_eq_true rfl, Nat.le_of_ble_eq_true rfl⟩) (rg_recv hT G (by decide) r_mo k_X11) rfl hl.1 rfl (Nat.le_of_ble_eq_true rfl) dX11_digest_233 (show q + 0 ≤ 339 ∧ 16 * (q) + 0 ≤ 5424 by omega)) (fun σ40 H locs h G => ?_)
        (try dsimp only at h)
        refine lv_iinc (v := v2 + 1) (lv' := [(2, .int (v2 + 1)), (0, .ref (lay 0)), (1, .int v1)]) hC.1 hC.2.1 dX11_digest_236 hl (k := 2) rfl rfl (by decide) rfl (fun ls hl => ?_)
        refine lv_goto (tgt := 203) hC.1 hC.2.1 dX11_digest_239 (by decide) ?_
        refine W.widen (k := q) (n := 16 * (q)) (by omega) (by omega) ?_
        exact ih q lay hT _ _ _ (by omega) h _ _ _ G (lv_sub hl [1, 2, 0] rfl)
def u_X11_digest_178 (Γ : RG) (post : Int64 → MS → Prop) (K165 : MS → Int32 → Prop) : Nat → MS → Int32 → Int32 → Prop
  | 0, _, _, _ => False
  | n + 1, σ, v1, v2 => ((13 ≤ v2 → (∃ k, u_X11_digest_203 Γ post K165 k σ v1 0)) ∧ (¬ 13 ≤ v2 → w_X11_ofWeddingNow Γ (fun r42 σ41 => w_X11_add Γ (fun σ43 => u_X11_digest_178 Γ post K165 n σ43 v1 (v2 + 1)) σ41 (Int32.toInt64 r42)) σ v1 v2))
set_option maxHeartbeats 4000000 in
set_option maxRecDepth 100000 in
theorem l_X11_digest_178 {p : Program} {l : Launch} {e : Env} {s : State} {m : MethodId} {args : Array Value} {below : List Frame} {meth : Method} {c : Code} {D : va_G} {cy : Nat → ClassId} {Γ : RG} {post : Int64 → MS → Prop} (K165 : MS → Int32 → Prop) (XK : Nat) (hC : CallFix p m c cX11_digest 3 s args wsX11_digest RX11) (hr : meth.sig.returnType = some .long) (hlocks : meth.locks = false) (hK165 : ∀ (q : Nat) (lay : Nat → Nat), rT D cy lay Γ s → ∀ (σ : MS) (v1 : Int32), q + XK ≤ 339 → K165 σ v1 → ∀ (H : Heap) (locs : List Loc) (ls : Array Slot), rG D cy lay Γ tn σ (rA cy lay Γ s.heap.size) s.heap H locs → lv_has ls 3 [(0, .ref (lay 0)), (1, .int v1)] → W p l e rm_X11_digest s m args below meth c H locs q (16 * (q)) (MQ below (va_Ql post (rO D cy lay Γ) (rA cy lay Γ s.heap.size)) args s 339 5424 (rA cy lay Γ s.heap.size)) (F0 m 165 ls [])) : ∀ (n : Nat), ∀ (q : Nat) (lay : Nat → Nat), rT D cy lay Γ s → ∀ (σ : MS) (v1 : Int32) (v2 : Int32), q + n * 0 + 4 + XK ≤ 339 → u_X11_digest_178 Γ post K165 n σ v1 v2 → ∀ (H : Heap) (locs : List Loc) (ls : Array Slot), rG D cy lay Γ tn σ (rA cy lay Γ s.heap.size) s.heap H locs → lv_has ls 3 [(0, .ref (lay 0)), (1, .int v1), (2, .int v2)] → W p l e rm_X11_digest s m args below meth c H locs q (16 * (q)) (MQ below (va_Ql post (rO D cy lay Γ) (rA cy lay Γ s.heap.size)) args s 339 5424 (rA cy lay Γ s.heap.size)) (F0 m 178 ls []) := by
  intro n
  induction n with
  | zero =>
    intro q lay hT σ v1 v2 hq h
    exact h.elim
  | succ n ih =>
    intro q lay hT σ v1 v2 hq h H locs ls G hl
    rw [u_X11_digest_178] at h
    refine lv_iload_n hC.1 hC.2.1 dX11_digest_178 rfl (lv_at hl 2 rfl) ?_
    refine lv_bipush (v := 13) hC.1 hC.2.1 dX11_digest_179 (by decide) ?_
    refine lv_icmp_ge (tgt := 201) hC.1 hC.2.1 dX11_digest_181 (by decide) (fun c24 => ?_) (fun c24 => ?_)
    · replace h := h.1 c24
      refine lv_iconst (v := 0) hC.1 hC.2.1 dX11_digest_201 (by decide) ?_
      refine lv_istore_n (lv' := [(2, .int 0), (0, .ref (lay 0)), (1, .int v1)]) hC.1 hC.2.1 dX11_digest_202 rfl hl (by decide) rfl (fun ls hl => ?_)
      refine W.widen (k := q) (n := 16 * (q)) (by omega) (by omega) ?_
      obtain ⟨n1, h⟩ := h
      exact l_X11_digest_203 K165 XK hC hr hlocks hK165 n1 q lay hT _ _ _ (by omega) h _ _ _ G (lv_sub hl [1, 2, 0] rfl)
    · replace h := h.2 c24
      refine lv_aload_n hC.1 hC.2.1 dX11_digest_184 rfl (lv_at hl 0 rfl) ?_
      refine lv_aload_n hC.1 hC.2.1 dX11_digest_185 rfl (lv_at hl 0 rfl) ?_
      refine lv_iload_n hC.1 hC.2.1 dX11_digest_186 rfl (lv_at hl 1 rfl) ?_
      refine lv_iload_n hC.1 hC.2.1 dX11_digest_187 rfl (lv_at hl 2 rfl) ?_
      refine rg_i G (rg_runV (As := [.int v1, .int v2]) (rest := [.ref (lay 0)]) hC hT G (c_X11_ofWeddingNow l D cy lay Γ h _) (cwV 2 hC.2.2.2.2 gX11_digest_X11_ofWeddingNow rfl rfl rfl hdV_X11_ofWeddingNow ⟨Nat.le_of_ble_eq_true rfl, Nat.le_of_ble_eq_true rfl⟩) (rg_recv hT G (by decide) r_mo k_X11) rfl hl.1 rfl (Nat.le_of_ble_eq_true rfl) dX11_digest_188 (show q + 0 ≤ 339 ∧ 16 * (q) + 0 ≤ 5424 by omega)) (fun r42 σ41 H locs h G => ?_)
      (try dsimp only at h)
      refine lv_i2l (v := Int32.toInt64 r42) hC.1 hC.2.1 dX11_digest_191 rfl ?_
      refine rg_v G (rg_runV (As := [.long (Int32.toInt64 r42)]) (rest := []) hC hT G (c_X11_add l D cy lay Γ h _) (cwV 1 hC.2.2.2.2 gX11_digest_X11_add rfl rfl rfl hdV_X11_add ⟨Nat.le_of_ble_eq_true rfl, Nat.le_of_ble_eq_true rfl⟩) (rg_recv hT G (by decide) r_mo k_X11) rfl hl.1 rfl (Nat.le_of_ble_eq_true rfl) dX11_digest_192 (show q + 0 ≤ 339 ∧ 16 * (q) + 0 ≤ 5424 by omega)) (fun σ43 H locs h G => ?_)
      (try dsimp only at h)
      refine lv_iinc (v := v2 + 1) (lv' := [(2, .int (v2 + 1)), (0, .ref (lay 0)), (1, .int v1)]) hC.1 hC.2.1 dX11_digest_195 hl (k := 2) rfl rfl (by decide) rfl (fun ls hl => ?_)
      refine lv_goto (tgt := 178) hC.1 hC.2.1 dX11_digest_198 (by decide) ?_
      refine W.widen (k := q) (n := 16 * (q)) (by omega) (by omega) ?_
      exact ih q lay hT _ _ _ (by omega) h _ _ _ G (lv_sub hl [1, 2, 0] rfl)
def u_X11_digest_165 (Γ : RG) (post : Int64 → MS → Prop) : Nat → MS → Int32 → Prop
  | 0, _, _ => False
  | n + 1, σ, v1 => w_lw_Jx4a65c_size_8abf5 Γ (fun r10 σ9 => ((r10 ≤ v1 → w_lp_Jx4a65c_size_8abf5 Γ (fun r13 σ12 => w_X11_minutesOf Γ (fun r15 σ14 => w_X11_add Γ (fun σ16 => w_X11_driveOf Γ (fun r18 σ17 => w_X11_add Γ (fun σ19 => w_X11_isSoundNow Γ (fun r21 σ20 => ((r21 = 0 → u_X11_digest_316 Γ post σ20 0) ∧ (¬ r21 = 0 → u_X11_digest_316 Γ post σ20 1))) σ19) σ17 (Int32.toInt64 r18)) σ16 0 5) σ14 (Int32.toInt64 r15)) σ12 ((1 <<< (r13 &&& 31)) - 1)) σ9) ∧ (¬ r10 ≤ v1 → (∃ k, u_X11_digest_178 Γ post (fun σ w0 => u_X11_digest_165 Γ post n σ w0) k σ9 v1 0)))) σ
set_option maxHeartbeats 4000000 in
set_option maxRecDepth 100000 in
theorem l_X11_digest_165 {p : Program} {l : Launch} {e : Env} {s : State} {m : MethodId} {args : Array Value} {below : List Frame} {meth : Method} {c : Code} {D : va_G} {cy : Nat → ClassId} {Γ : RG} {post : Int64 → MS → Prop} (hC : CallFix p m c cX11_digest 3 s args wsX11_digest RX11) (hr : meth.sig.returnType = some .long) (hlocks : meth.locks = false) : ∀ (n : Nat), ∀ (q : Nat) (lay : Nat → Nat), rT D cy lay Γ s → ∀ (σ : MS) (v1 : Int32), q + n * 4 + 15 ≤ 339 → u_X11_digest_165 Γ post n σ v1 → ∀ (H : Heap) (locs : List Loc) (ls : Array Slot), rG D cy lay Γ tn σ (rA cy lay Γ s.heap.size) s.heap H locs → lv_has ls 3 [(0, .ref (lay 0)), (1, .int v1)] → W p l e rm_X11_digest s m args below meth c H locs q (16 * (q)) (MQ below (va_Ql post (rO D cy lay Γ) (rA cy lay Γ s.heap.size)) args s 339 5424 (rA cy lay Γ s.heap.size)) (F0 m 165 ls []) := by
  intro n
  induction n with
  | zero =>
    intro q lay hT σ v1 hq h
    exact h.elim
  | succ n ih =>
    intro q lay hT σ v1 hq h H locs ls G hl
    rw [u_X11_digest_165] at h
    refine lv_iload_n hC.1 hC.2.1 dX11_digest_165 rfl (lv_at hl 1 rfl) ?_
    refine lv_aload_n hC.1 hC.2.1 dX11_digest_166 rfl (lv_at hl 0 rfl) ?_
    refine rg_get hC hT G (by decide) r_mo k_X11 i_X11_digest_X11 5 (by decide) (wm 6 rfl) rfl dX11_digest_167 ?_
    refine rg_i G (rg_runV (As := []) (rest := [.int v1]) hC hT G (c_lw_Jx4a65c_size_8abf5 l D cy lay Γ h _) (cwV 0 hC.2.2.2.2 gX11_digest_Jx4a65c_size_8abf5 rfl rfl rfl hdV_Jx4a65c_size_8abf5 ⟨Nat.le_of_ble_eq_true rfl, Nat.le_of_ble_eq_true rfl⟩) (rg_recv hT G (by decide) r_lw k_AL) rfl hl.1 rfl (Nat.le_of_ble_eq_true rfl) dX11_digest_170 (show q + 0 ≤ 339 ∧ 16 * (q) + 0 ≤ 5424 by omega)) (fun r10 σ9 H locs h G => ?_)
    (try dsimp only at h)
    refine lv_icmp_ge (tgt := 272) hC.1 hC.2.1 dX11_digest_173 (by decide) (fun c11 => ?_) (fun c11 => ?_)
    · replace h := h.1 c11
      refine lv_aload_n hC.1 hC.2.1 dX11_digest_272 rfl (lv_at hl 0 rfl) ?_
      refine lv_aload_n hC.1 hC.2.1 dX11_digest_273 rfl (lv_at hl 0 rfl) ?_
      refine lv_iconst (v := 1) hC.1 hC.2.1 dX11_digest_274 (by decide) ?_
      refine lv_aload_n hC.1 hC.2.1 dX11_digest_275 rfl (lv_at hl 0 rfl) ?_
      refine rg_get hC hT G (by decide) r_mo k_X11 i_X11_digest_X11 3 (by decide) (wm 4 rfl) rfl dX11_digest_276 ?_
      refine rg_i G (rg_runV (As := []) (rest := [.int 1, .ref (lay 0), .ref (lay 0)]) hC hT G (c_lp_Jx4a65c_size_8abf5 l D cy lay Γ h _) (cwV 0 hC.2.2.2.2 gX11_digest_Jx4a65c_size_8abf5 rfl rfl rfl hdV_Jx4a65c_size_8abf5 ⟨Nat.le_of_ble_eq_true rfl, Nat.le_of_ble_eq_true rfl⟩) (rg_recv hT G (by decide) r_lp k_AL) rfl hl.1 rfl (Nat.le_of_ble_eq_true rfl) dX11_digest_279 (show q + 0 ≤ 339 ∧ 16 * (q) + 0 ≤ 5424 by omega)) (fun r13 σ12 H locs h G => ?_)
      (try dsimp only at h)
      refine lv_ishl hC.1 hC.2.1 dX11_digest_282 ?_
      refine lv_iconst (v := 1) hC.1 hC.2.1 dX11_digest_283 (by decide) ?_
      refine lv_isub hC.1 hC.2.1 dX11_digest_284 ?_
      refine rg_i G (rg_runV (As := [.int ((1 <<< (r13 &&& 31)) - 1)]) (rest := [.ref (lay 0)]) hC hT G (c_X11_minutesOf l D cy lay Γ h _) (cwV 1 hC.2.2.2.2 gX11_digest_X11_minutesOf rfl rfl rfl hdV_X11_minutesOf ⟨Nat.le_of_ble_eq_true rfl, Nat.le_of_ble_eq_true rfl⟩) (rg_recv hT G (by decide) r_mo k_X11) rfl hl.1 rfl (Nat.le_of_ble_eq_true rfl) dX11_digest_285 (show q + 4 ≤ 339 ∧ 16 * (q) + 64 ≤ 5424 by omega)) (fun r15 σ14 H locs h G => ?_)
      (try dsimp only at h)
      refine lv_i2l (v := Int32.toInt64 r15) hC.1 hC.2.1 dX11_digest_288 rfl ?_
      refine rg_v G (rg_runV (As := [.long (Int32.toInt64 r15)]) (rest := []) hC hT G (c_X11_add l D cy lay Γ h _) (cwV 1 hC.2.2.2.2 gX11_digest_X11_add rfl rfl rfl hdV_X11_add ⟨Nat.le_of_ble_eq_true rfl, Nat.le_of_ble_eq_true rfl⟩) (rg_recv hT G (by decide) r_mo k_X11) rfl hl.1 rfl (Nat.le_of_ble_eq_true rfl) dX11_digest_289 (show q + 4 + 0 ≤ 339 ∧ 16 * (q + 4) + 0 ≤ 5424 by omega)) (fun σ16 H locs h G => ?_)
      (try dsimp only at h)
      refine lv_aload_n hC.1 hC.2.1 dX11_digest_292 rfl (lv_at hl 0 rfl) ?_
      refine lv_aload_n hC.1 hC.2.1 dX11_digest_293 rfl (lv_at hl 0 rfl) ?_
      refine lv_iconst (v := 0) hC.1 hC.2.1 dX11_digest_294 (by decide) ?_
      refine lv_iconst (v := 5) hC.1 hC.2.1 dX11_digest_295 (by decide) ?_
      refine rg_i G (rg_runV (As := [.int 0, .int 5]) (rest := [.ref (lay 0)]) hC hT G (c_X11_driveOf l D cy lay Γ h _) (cwV 2 hC.2.2.2.2 gX11_digest_X11_driveOf rfl rfl rfl hdV_X11_driveOf ⟨Nat.le_of_ble_eq_true rfl, Nat.le_of_ble_eq_true rfl⟩) (rg_recv hT G (by decide) r_mo k_X11) rfl hl.1 rfl (Nat.le_of_ble_eq_true rfl) dX11_digest_296 (show q + 4 + 0 ≤ 339 ∧ 16 * (q + 4) + 0 ≤ 5424 by omega)) (fun r18 σ17 H locs h G => ?_)
      (try dsimp only at h)
      refine lv_i2l (v := Int32.toInt64 r18) hC.1 hC.2.1 dX11_digest_299 rfl ?_
      refine rg_v G (rg_runV (As := [.long (Int32.toInt64 r18)]) (rest := []) hC hT G (c_X11_add l D cy lay Γ h _) (cwV 1 hC.2.2.2.2 gX11_digest_X11_add rfl rfl rfl hdV_X11_add ⟨Nat.le_of_ble_eq_true rfl, Nat.le_of_ble_eq_true rfl⟩) (rg_recv hT G (by decide) r_mo k_X11) rfl hl.1 rfl (Nat.le_of_ble_eq_true rfl) dX11_digest_300 (show q + 4 + 0 ≤ 339 ∧ 16 * (q + 4) + 0 ≤ 5424 by omega)) (fun σ19 H locs h G => ?_)
      (try dsimp only at h)
      refine lv_aload_n hC.1 hC.2.1 dX11_digest_303 rfl (lv_at hl 0 rfl) ?_
      refine lv_aload_n hC.1 hC.2.1 dX11_digest_304 rfl (lv_at hl 0 rfl) ?_
      refine rg_i G (rg_runV (As := []) (rest := [.ref (lay 0)]) hC hT G (c_X11_isSoundNow l D cy lay Γ h _) (cwV 0 hC.2.2.2.2 gX11_digest_X11_isSoundNow rfl rfl rfl hdV_X11_isSoundNow ⟨Nat.le_of_ble_eq_true rfl, Nat.le_of_ble_eq_true rfl⟩) (rg_recv hT G (by decide) r_mo k_X11) rfl hl.1 rfl (Nat.le_of_ble_eq_true rfl) dX11_digest_305 (show q + 4 + 11 ≤ 339 ∧ 16 * (q + 4) + 176 ≤ 5424 by omega)) (fun r21 σ20 H locs h G => ?_)
      (try dsimp only at h)
      refine lv_if_eq (tgt := 315) hC.1 hC.2.1 dX11_digest_308 (by decide) (fun c22 => ?_) (fun c22 => ?_)
      · replace h := h.1 c22
        refine lv_lconst (v := 0) hC.1 hC.2.1 dX11_digest_315 (by decide) ?_
        refine W.widen (k := q + 15) (n := 16 * (q + 15)) (by omega) (by omega) ?_
        exact l_X11_digest_316 hC hr hlocks (q + 15) lay hT _ _ (by omega) h _ _ _ G (lv_sub hl [0] rfl)
      · replace h := h.2 c22
        refine lv_lconst (v := 1) hC.1 hC.2.1 dX11_digest_311 (by decide) ?_
        refine lv_goto (tgt := 316) hC.1 hC.2.1 dX11_digest_312 (by decide) ?_
        refine W.widen (k := q + 15) (n := 16 * (q + 15)) (by omega) (by omega) ?_
        exact l_X11_digest_316 hC hr hlocks (q + 15) lay hT _ _ (by omega) h _ _ _ G (lv_sub hl [0] rfl)
    · replace h := h.2 c11
      refine lv_iconst (v := 0) hC.1 hC.2.1 dX11_digest_176 (by decide) ?_
      refine lv_istore_n (lv' := [(2, .int 0), (0, .ref (lay 0)), (1, .int v1)]) hC.1 hC.2.1 dX11_digest_177 rfl hl (by decide) rfl (fun ls hl => ?_)
      refine W.widen (k := q) (n := 16 * (q)) (by omega) (by omega) ?_
      obtain ⟨n1, h⟩ := h
      exact l_X11_digest_178 (fun σ w0 => u_X11_digest_165 Γ post n σ w0) (n * 4 + 15) hC hr hlocks (fun q lay hT σ x0 hq => ih q lay hT σ x0 (by omega)) n1 q lay hT _ _ _ (by omega) h _ _ _ G (lv_sub hl [1, 2, 0] rfl)
def u_X11_digest_134 (Γ : RG) (post : Int64 → MS → Prop) (K121 : MS → Int32 → Prop) : Nat → MS → Int32 → Int32 → Prop
  | 0, _, _, _ => False
  | n + 1, σ, v1, v2 => ((9 ≤ v2 → K121 σ (v1 + 1)) ∧ (¬ 9 ≤ v2 → w_X11_ofBandNow Γ (fun r46 σ45 => w_X11_add Γ (fun σ47 => u_X11_digest_134 Γ post K121 n σ47 v1 (v2 + 1)) σ45 (Int32.toInt64 r46)) σ v1 v2))
set_option maxHeartbeats 4000000 in
set_option maxRecDepth 100000 in
theorem l_X11_digest_134 {p : Program} {l : Launch} {e : Env} {s : State} {m : MethodId} {args : Array Value} {below : List Frame} {meth : Method} {c : Code} {D : va_G} {cy : Nat → ClassId} {Γ : RG} {post : Int64 → MS → Prop} (K121 : MS → Int32 → Prop) (XK : Nat) (hC : CallFix p m c cX11_digest 3 s args wsX11_digest RX11) (hr : meth.sig.returnType = some .long) (hlocks : meth.locks = false) (hK121 : ∀ (q : Nat) (lay : Nat → Nat), rT D cy lay Γ s → ∀ (σ : MS) (v1 : Int32), q + XK ≤ 339 → K121 σ v1 → ∀ (H : Heap) (locs : List Loc) (ls : Array Slot), rG D cy lay Γ tn σ (rA cy lay Γ s.heap.size) s.heap H locs → lv_has ls 3 [(0, .ref (lay 0)), (1, .int v1)] → W p l e rm_X11_digest s m args below meth c H locs q (16 * (q)) (MQ below (va_Ql post (rO D cy lay Γ) (rA cy lay Γ s.heap.size)) args s 339 5424 (rA cy lay Γ s.heap.size)) (F0 m 121 ls [])) : ∀ (n : Nat), ∀ (q : Nat) (lay : Nat → Nat), rT D cy lay Γ s → ∀ (σ : MS) (v1 : Int32) (v2 : Int32), q + n * 0 + 0 + XK ≤ 339 → u_X11_digest_134 Γ post K121 n σ v1 v2 → ∀ (H : Heap) (locs : List Loc) (ls : Array Slot), rG D cy lay Γ tn σ (rA cy lay Γ s.heap.size) s.heap H locs → lv_has ls 3 [(0, .ref (lay 0)), (1, .int v1), (2, .int v2)] → W p l e rm_X11_digest s m args below meth c H locs q (16 * (q)) (MQ below (va_Ql post (rO D cy lay Γ) (rA cy lay Γ s.heap.size)) args s 339 5424 (rA cy lay Γ s.heap.size)) (F0 m 134 ls []) := by
  intro n
  induction n with
  | zero =>
    intro q lay hT σ v1 v2 hq h
    exact h.elim
  | succ n ih =>
    intro q lay hT σ v1 v2 hq h H locs ls G hl
    rw [u_X11_digest_134] at h
    refine lv_iload_n hC.1 hC.2.1 dX11_digest_134 rfl (lv_at hl 2 rfl) ?_
    refine lv_bipush (v := 9) hC.1 hC.2.1 dX11_digest_135 (by decide) ?_
    refine lv_icmp_ge (tgt := 157) hC.1 hC.2.1 dX11_digest_137 (by decide) (fun c44 => ?_) (fun c44 => ?_)
    · replace h := h.1 c44
      refine lv_iinc (v := v1 + 1) (lv' := [(1, .int (v1 + 1)), (0, .ref (lay 0)), (2, .int v2)]) hC.1 hC.2.1 dX11_digest_157 hl (k := 1) rfl rfl (by decide) rfl (fun ls hl => ?_)
      refine lv_goto (tgt := 121) hC.1 hC.2.1 dX11_digest_160 (by decide) ?_
      refine W.widen (k := q) (n := 16 * (q)) (by omega) (by omega) ?_
      exact hK121 q lay hT _ _ (by omega) h _ _ _ G (lv_sub hl [1, 0] rfl)
    · replace h := h.2 c44
      refine lv_aload_n hC.1 hC.2.1 dX11_digest_140 rfl (lv_at hl 0 rfl) ?_
      refine lv_aload_n hC.1 hC.2.1 dX11_digest_141 rfl (lv_at hl 0 rfl) ?_
      refine lv_iload_n hC.1 hC.2.1 dX11_digest_142 rfl (lv_at hl 1 rfl) ?_
      refine lv_iload_n hC.1 hC.2.1 dX11_digest_143 rfl (lv_at hl 2 rfl) ?_
      refine rg_i G (rg_runV (As := [.int v1, .int v2]) (rest := [.ref (lay 0)]) hC hT G (c_X11_ofBandNow l D cy lay Γ h _) (cwV 2 hC.2.2.2.2 gX11_digest_X11_ofBandNow rfl rfl rfl hdV_X11_ofBandNow ⟨Nat.le_of_ble_eq_true rfl, Nat.le_of_ble_eq_true rfl⟩) (rg_recv hT G (by decide) r_mo k_X11) rfl hl.1 rfl (Nat.le_of_ble_eq_true rfl) dX11_digest_144 (show q + 0 ≤ 339 ∧ 16 * (q) + 0 ≤ 5424 by omega)) (fun r46 σ45 H locs h G => ?_)
      (try dsimp only at h)
      refine lv_i2l (v := Int32.toInt64 r46) hC.1 hC.2.1 dX11_digest_147 rfl ?_
      refine rg_v G (rg_runV (As := [.long (Int32.toInt64 r46)]) (rest := []) hC hT G (c_X11_add l D cy lay Γ h _) (cwV 1 hC.2.2.2.2 gX11_digest_X11_add rfl rfl rfl hdV_X11_add ⟨Nat.le_of_ble_eq_true rfl, Nat.le_of_ble_eq_true rfl⟩) (rg_recv hT G (by decide) r_mo k_X11) rfl hl.1 rfl (Nat.le_of_ble_eq_true rfl) dX11_digest_148 (show q + 0 ≤ 339 ∧ 16 * (q) + 0 ≤ 5424 by omega)) (fun σ47 H locs h G => ?_)
      (try dsimp only at h)
      refine lv_iinc (v := v2 + 1) (lv' := [(2, .int (v2 + 1)), (0, .ref (lay 0)), (1, .int v1)]) hC.1 hC.2.1 dX11_digest_151 hl (k := 2) rfl rfl (by decide) rfl (fun ls hl => ?_)
      refine lv_goto (tgt := 134) hC.1 hC.2.1 dX11_digest_154 (by decide) ?_
      refine W.widen (k := q) (n := 16 * (q)) (by omega) (by omega) ?_
      exact ih q lay hT _ _ _ (by omega) h _ _ _ G (lv_sub hl [1, 2, 0] rfl)
def u_X11_digest_121 (Γ : RG) (post : Int64 → MS → Prop) : Nat → MS → Int32 → Prop
  | 0, _, _ => False
  | n + 1, σ, v1 => w_lb_Jx4a65c_size_8abf5 Γ (fun r7 σ6 => ((r7 ≤ v1 → (∃ k, k ≤ 15 ∧ u_X11_digest_165 Γ post k σ6 0)) ∧ (¬ r7 ≤ v1 → (∃ k, u_X11_digest_134 Γ post (fun σ w0 => u_X11_digest_121 Γ post n σ w0) k σ6 v1 0)))) σ
set_option maxHeartbeats 4000000 in
set_option maxRecDepth 100000 in
theorem l_X11_digest_121 {p : Program} {l : Launch} {e : Env} {s : State} {m : MethodId} {args : Array Value} {below : List Frame} {meth : Method} {c : Code} {D : va_G} {cy : Nat → ClassId} {Γ : RG} {post : Int64 → MS → Prop} (hC : CallFix p m c cX11_digest 3 s args wsX11_digest RX11) (hr : meth.sig.returnType = some .long) (hlocks : meth.locks = false) : ∀ (n : Nat), ∀ (q : Nat) (lay : Nat → Nat), rT D cy lay Γ s → ∀ (σ : MS) (v1 : Int32), q + n * 0 + 75 ≤ 339 → u_X11_digest_121 Γ post n σ v1 → ∀ (H : Heap) (locs : List Loc) (ls : Array Slot), rG D cy lay Γ tn σ (rA cy lay Γ s.heap.size) s.heap H locs → lv_has ls 3 [(0, .ref (lay 0)), (1, .int v1)] → W p l e rm_X11_digest s m args below meth c H locs q (16 * (q)) (MQ below (va_Ql post (rO D cy lay Γ) (rA cy lay Γ s.heap.size)) args s 339 5424 (rA cy lay Γ s.heap.size)) (F0 m 121 ls []) := by
  intro n
  induction n with
  | zero =>
    intro q lay hT σ v1 hq h
    exact h.elim
  | succ n ih =>
    intro q lay hT σ v1 hq h H locs ls G hl
    rw [u_X11_digest_121] at h
    refine lv_iload_n hC.1 hC.2.1 dX11_digest_121 rfl (lv_at hl 1 rfl) ?_
    refine lv_aload_n hC.1 hC.2.1 dX11_digest_122 rfl (lv_at hl 0 rfl) ?_
    refine rg_get hC hT G (by decide) r_mo k_X11 i_X11_digest_X11 4 (by decide) (wm 5 rfl) rfl dX11_digest_123 ?_
    refine rg_i G (rg_runV (As := []) (rest := [.int v1]) hC hT G (c_lb_Jx4a65c_size_8abf5 l D cy lay Γ h _) (cwV 0 hC.2.2.2.2 gX11_digest_Jx4a65c_size_8abf5 rfl rfl rfl hdV_Jx4a65c_size_8abf5 ⟨Nat.le_of_ble_eq_true rfl, Nat.le_of_ble_eq_true rfl⟩) (rg_recv hT G (by decide) r_lb k_AL) rfl hl.1 rfl (Nat.le_of_ble_eq_true rfl) dX11_digest_126 (show q + 0 ≤ 339 ∧ 16 * (q) + 0 ≤ 5424 by omega)) (fun r7 σ6 H locs h G => ?_)
    (try dsimp only at h)
    refine lv_icmp_ge (tgt := 163) hC.1 hC.2.1 dX11_digest_129 (by decide) (fun c8 => ?_) (fun c8 => ?_)
    · replace h := h.1 c8
      refine lv_iconst (v := 0) hC.1 hC.2.1 dX11_digest_163 (by decide) ?_
      refine lv_istore_n (lv' := [(1, .int 0), (0, .ref (lay 0))]) hC.1 hC.2.1 dX11_digest_164 rfl hl (by decide) rfl (fun ls hl => ?_)
      refine W.widen (k := q) (n := 16 * (q)) (by omega) (by omega) ?_
      obtain ⟨n1, hk1, h⟩ := h
      exact l_X11_digest_165 hC hr hlocks n1 q lay hT _ _ (by omega) h _ _ _ G (lv_sub hl [1, 0] rfl)
    · replace h := h.2 c8
      refine lv_iconst (v := 0) hC.1 hC.2.1 dX11_digest_132 (by decide) ?_
      refine lv_istore_n (lv' := [(2, .int 0), (0, .ref (lay 0)), (1, .int v1)]) hC.1 hC.2.1 dX11_digest_133 rfl hl (by decide) rfl (fun ls hl => ?_)
      refine W.widen (k := q) (n := 16 * (q)) (by omega) (by omega) ?_
      obtain ⟨n1, h⟩ := h
      exact l_X11_digest_134 (fun σ w0 => u_X11_digest_121 Γ post n σ w0) (n * 0 + 75) hC hr hlocks (fun q lay hT σ x0 hq => ih q lay hT σ x0 (by omega)) n1 q lay hT _ _ _ (by omega) h _ _ _ G (lv_sub hl [1, 2, 0] rfl)
def u_X11_digest_90 (Γ : RG) (post : Int64 → MS → Prop) (K82 : MS → Int32 → Prop) : Nat → MS → Int32 → Int32 → Prop
  | 0, _, _, _ => False
  | n + 1, σ, v1, v2 => ((6 ≤ v2 → K82 σ (v1 + 1)) ∧ (¬ 6 ≤ v2 → w_X11_ofSongNow Γ (fun r50 σ49 => w_X11_add Γ (fun σ51 => u_X11_digest_90 Γ post K82 n σ51 v1 (v2 + 1)) σ49 (Int32.toInt64 r50)) σ v1 v2))
set_option maxHeartbeats 4000000 in
set_option maxRecDepth 100000 in
theorem l_X11_digest_90 {p : Program} {l : Launch} {e : Env} {s : State} {m : MethodId} {args : Array Value} {below : List Frame} {meth : Method} {c : Code} {D : va_G} {cy : Nat → ClassId} {Γ : RG} {post : Int64 → MS → Prop} (K82 : MS → Int32 → Prop) (XK : Nat) (hC : CallFix p m c cX11_digest 3 s args wsX11_digest RX11) (hr : meth.sig.returnType = some .long) (hlocks : meth.locks = false) (hK82 : ∀ (q : Nat) (lay : Nat → Nat), rT D cy lay Γ s → ∀ (σ : MS) (v1 : Int32), q + XK ≤ 339 → K82 σ v1 → ∀ (H : Heap) (locs : List Loc) (ls : Array Slot), rG D cy lay Γ tn σ (rA cy lay Γ s.heap.size) s.heap H locs → lv_has ls 3 [(0, .ref (lay 0)), (1, .int v1)] → W p l e rm_X11_digest s m args below meth c H locs q (16 * (q)) (MQ below (va_Ql post (rO D cy lay Γ) (rA cy lay Γ s.heap.size)) args s 339 5424 (rA cy lay Γ s.heap.size)) (F0 m 82 ls [])) : ∀ (n : Nat), ∀ (q : Nat) (lay : Nat → Nat), rT D cy lay Γ s → ∀ (σ : MS) (v1 : Int32) (v2 : Int32), q + n * 0 + 0 + XK ≤ 339 → u_X11_digest_90 Γ post K82 n σ v1 v2 → ∀ (H : Heap) (locs : List Loc) (ls : Array Slot), rG D cy lay Γ tn σ (rA cy lay Γ s.heap.size) s.heap H locs → lv_has ls 3 [(0, .ref (lay 0)), (1, .int v1), (2, .int v2)] → W p l e rm_X11_digest s m args below meth c H locs q (16 * (q)) (MQ below (va_Ql post (rO D cy lay Γ) (rA cy lay Γ s.heap.size)) args s 339 5424 (rA cy lay Γ s.heap.size)) (F0 m 90 ls []) := by
  intro n
  induction n with
  | zero =>
    intro q lay hT σ v1 v2 hq h
    exact h.elim
  | succ n ih =>
    intro q lay hT σ v1 v2 hq h H locs ls G hl
    rw [u_X11_digest_90] at h
    refine lv_iload_n hC.1 hC.2.1 dX11_digest_90 rfl (lv_at hl 2 rfl) ?_
    refine lv_bipush (v := 6) hC.1 hC.2.1 dX11_digest_91 (by decide) ?_
    refine lv_icmp_ge (tgt := 113) hC.1 hC.2.1 dX11_digest_93 (by decide) (fun c48 => ?_) (fun c48 => ?_)
    · replace h := h.1 c48
      refine lv_iinc (v := v1 + 1) (lv' := [(1, .int (v1 + 1)), (0, .ref (lay 0)), (2, .int v2)]) hC.1 hC.2.1 dX11_digest_113 hl (k := 1) rfl rfl (by decide) rfl (fun ls hl => ?_)
      refine lv_goto (tgt := 82) hC.1 hC.2.1 dX11_digest_116 (by decide) ?_
      refine W.widen (k := q) (n := 16 * (q)) (by omega) (by omega) ?_
      exact hK82 q lay hT _ _ (by omega) h _ _ _ G (lv_sub hl [1, 0] rfl)
    · replace h := h.2 c48
      refine lv_aload_n hC.1 hC.2.1 dX11_digest_96 rfl (lv_at hl 0 rfl) ?_
      refine lv_aload_n hC.1 hC.2.1 dX11_digest_97 rfl (lv_at hl 0 rfl) ?_
      refine lv_iload_n hC.1 hC.2.1 dX11_digest_98 rfl (lv_at hl 1 rfl) ?_
      refine lv_iload_n hC.1 hC.2.1 dX11_digest_99 rfl (lv_at hl 2 rfl) ?_
      refine rg_i G (rg_runV (As := [.int v1, .int v2]) (rest := [.ref (lay 0)]) hC hT G (c_X11_ofSongNow l D cy lay Γ h _) (cwV 2 hC.2.2.2.2 gX11_digest_X11_ofSongNow rfl rfl rfl hdV_X11_ofSongNow ⟨Nat.le_of_ble_eq_true rfl, Nat.le_of_ble_eq_true rfl⟩) (rg_recv hT G (by decide) r_mo k_X11) rfl hl.1 rfl (Nat.le_of_ble_eq_true rfl) dX11_digest_100 (show q + 0 ≤ 339 ∧ 16 * (q) + 0 ≤ 5424 by omega)) (fun r50 σ49 H locs h G => ?_)
      (try dsimp only at h)
      refine lv_i2l (v := Int32.toInt64 r50) hC.1 hC.2.1 dX11_digest_103 rfl ?_
      refine rg_v G (rg_runV (As := [.long (Int32.toInt64 r50)]) (rest := []) hC hT G (c_X11_add l D cy lay Γ h _) (cwV 1 hC.2.2.2.2 gX11_digest_X11_add rfl rfl rfl hdV_X11_add ⟨Nat.le_of_ble_eq_true rfl, Nat.le_of_ble_eq_true rfl⟩) (rg_recv hT G (by decide) r_mo k_X11) rfl hl.1 rfl (Nat.le_of_ble_eq_true rfl) dX11_digest_104 (show q + 0 ≤ 339 ∧ 16 * (q) + 0 ≤ 5424 by omega)) (fun σ51 H locs h G => ?_)
      (try dsimp only at h)
      refine lv_iinc (v := v2 + 1) (lv' := [(2, .int (v2 + 1)), (0, .ref (lay 0)), (1, .int v1)]) hC.1 hC.2.1 dX11_digest_107 hl (k := 2) rfl rfl (by decide) rfl (fun ls hl => ?_)
      refine lv_goto (tgt := 90) hC.1 hC.2.1 dX11_digest_110 (by decide) ?_
      refine W.widen (k := q) (n := 16 * (q)) (by omega) (by omega) ?_
      exact ih q lay hT _ _ _ (by omega) h _ _ _ G (lv_sub hl [1, 2, 0] rfl)
def u_X11_digest_82 (Γ : RG) (post : Int64 → MS → Prop) : Nat → MS → Int32 → Prop
  | 0, _, _ => False
  | n + 1, σ, v1 => ((16 ≤ v1 → (∃ k, u_X11_digest_121 Γ post k σ 0)) ∧ (¬ 16 ≤ v1 → (∃ k, u_X11_digest_90 Γ post (fun σ w0 => u_X11_digest_82 Γ post n σ w0) k σ v1 0)))
set_option maxHeartbeats 4000000 in
set_option maxRecDepth 100000 in
theorem l_X11_digest_82 {p : Program} {l : Launch} {e : Env} {s : State} {m : MethodId} {args : Array Value} {below : List Frame} {meth : Method} {c : Code} {D : va_G} {cy : Nat → ClassId} {Γ : RG} {post : Int64 → MS → Prop} (hC : CallFix p m c cX11_digest 3 s args wsX11_digest RX11) (hr : meth.sig.returnType = some .long) (hlocks : meth.locks = false) : ∀ (n : Nat), ∀ (q : Nat) (lay : Nat → Nat), rT D cy lay Γ s → ∀ (σ : MS) (v1 : Int32), q + n * 0 + 75 ≤ 339 → u_X11_digest_82 Γ post n σ v1 → ∀ (H : Heap) (locs : List Loc) (ls : Array Slot), rG D cy lay Γ tn σ (rA cy lay Γ s.heap.size) s.heap H locs → lv_has ls 3 [(0, .ref (lay 0)), (1, .int v1)] → W p l e rm_X11_digest s m args below meth c H locs q (16 * (q)) (MQ below (va_Ql post (rO D cy lay Γ) (rA cy lay Γ s.heap.size)) args s 339 5424 (rA cy lay Γ s.heap.size)) (F0 m 82 ls []) := by
  intro n
  induction n with
  | zero =>
    intro q lay hT σ v1 hq h
    exact h.elim
  | succ n ih =>
    intro q lay hT σ v1 hq h H locs ls G hl
    rw [u_X11_digest_82] at h
    refine lv_iload_n hC.1 hC.2.1 dX11_digest_82 rfl (lv_at hl 1 rfl) ?_
    refine lv_bipush (v := 16) hC.1 hC.2.1 dX11_digest_83 (by decide) ?_
    refine lv_icmp_ge (tgt := 119) hC.1 hC.2.1 dX11_digest_85 (by decide) (fun c5 => ?_) (fun c5 => ?_)
    · replace h := h.1 c5
      refine lv_iconst (v := 0) hC.1 hC.2.1 dX11_digest_119 (by decide) ?_
      refine lv_istore_n (lv' := [(1, .int 0), (0, .ref (lay 0))]) hC.1 hC.2.1 dX11_digest_120 rfl hl (by decide) rfl (fun ls hl => ?_)
      refine W.widen (k := q) (n := 16 * (q)) (by omega) (by omega) ?_
      obtain ⟨n1, h⟩ := h
      exact l_X11_digest_121 hC hr hlocks n1 q lay hT _ _ (by omega) h _ _ _ G (lv_sub hl [1, 0] rfl)
    · replace h := h.2 c5
      refine lv_iconst (v := 0) hC.1 hC.2.1 dX11_digest_88 (by decide) ?_
      refine lv_istore_n (lv' := [(2, .int 0), (0, .ref (lay 0)), (1, .int v1)]) hC.1 hC.2.1 dX11_digest_89 rfl hl (by decide) rfl (fun ls hl => ?_)
      refine W.widen (k := q) (n := 16 * (q)) (by omega) (by omega) ?_
      obtain ⟨n1, h⟩ := h
      exact l_X11_digest_90 (fun σ w0 => u_X11_digest_82 Γ post n σ w0) (n * 0 + 75) hC hr hlocks (fun q lay hT σ x0 hq => ih q lay hT σ x0 (by omega)) n1 q lay hT _ _ _ (by omega) h _ _ _ G (lv_sub hl [1, 2, 0] rfl)
def u_X11_digest_51 (Γ : RG) (post : Int64 → MS → Prop) (K38 : MS → Int32 → Prop) : Nat → MS → Int32 → Int32 → Prop
  | 0, _, _, _ => False
  | n + 1, σ, v1, v2 => ((9 ≤ v2 → K38 σ (v1 + 1)) ∧ (¬ 9 ≤ v2 → w_X11_ofPlayerNow Γ (fun r54 σ53 => w_X11_add Γ (fun σ55 => u_X11_digest_51 Γ post K38 n σ55 v1 (v2 + 1)) σ53 (Int32.toInt64 r54)) σ v1 v2))
set_option maxHeartbeats 4000000 in
set_option maxRecDepth 100000 in
theorem l_X11_digest_51 {p : Program} {l : Launch} {e : Env} {s : State} {m : MethodId} {args : Array Value} {below : List Frame} {meth : Method} {c : Code} {D : va_G} {cy : Nat → ClassId} {Γ : RG} {post : Int64 → MS → Prop} (K38 : MS → Int32 → Prop) (XK : Nat) (hC : CallFix p m c cX11_digest 3 s args wsX11_digest RX11) (hr : meth.sig.returnType = some .long) (hlocks : meth.locks = false) (hK38 : ∀ (q : Nat) (lay : Nat → Nat), rT D cy lay Γ s → ∀ (σ : MS) (v1 : Int32), q + XK ≤ 339 → K38 σ v1 → ∀ (H : Heap) (locs : List Loc) (ls : Array Slot), rG D cy lay Γ tn σ (rA cy lay Γ s.heap.size) s.heap H locs → lv_has ls 3 [(0, .ref (lay 0)), (1, .int v1)] → W p l e rm_X11_digest s m args below meth c H locs q (16 * (q)) (MQ below (va_Ql post (rO D cy lay Γ) (rA cy lay Γ s.heap.size)) args s 339 5424 (rA cy lay Γ s.heap.size)) (F0 m 38 ls [])) : ∀ (n : Nat), ∀ (q : Nat) (lay : Nat → Nat), rT D cy lay Γ s → ∀ (σ : MS) (v1 : Int32) (v2 : Int32), q + n * 1 + 0 + XK ≤ 339 → u_X11_digest_51 Γ post K38 n σ v1 v2 → ∀ (H : Heap) (locs : List Loc) (ls : Array Slot), rG D cy lay Γ tn σ (rA cy lay Γ s.heap.size) s.heap H locs → lv_has ls 3 [(0, .ref (lay 0)), (1, .int v1), (2, .int v2)] → W p l e rm_X11_digest s m args below meth c H locs q (16 * (q)) (MQ below (va_Ql post (rO D cy lay Γ) (rA cy lay Γ s.heap.size)) args s 339 5424 (rA cy lay Γ s.heap.size)) (F0 m 51 ls []) := by
  intro n
  induction n with
  | zero =>
    intro q lay hT σ v1 v2 hq h
    exact h.elim
  | succ n ih =>
    intro q lay hT σ v1 v2 hq h H locs ls G hl
    rw [u_X11_digest_51] at h
    refine lv_iload_n hC.1 hC.2.1 dX11_digest_51 rfl (lv_at hl 2 rfl) ?_
    refine lv_bipush (v := 9) hC.1 hC.2.1 dX11_digest_52 (by decide) ?_
    refine lv_icmp_ge (tgt := 74) hC.1 hC.2.1 dX11_digest_54 (by decide) (fun c52 => ?_) (fun c52 => ?_)
    · replace h := h.1 c52
      refine lv_iinc (v := v1 + 1) (lv' := [(1, .int (v1 + 1)), (0, .ref (lay 0)), (2, .int v2)]) hC.1 hC.2.1 dX11_digest_74 hl (k := 1) rfl rfl (by decide) rfl (fun ls hl => ?_)
      refine lv_goto (tgt := 38) hC.1 hC.2.1 dX11_digest_77 (by decide) ?_
      refine W.widen (k := q) (n := 16 * (q)) (by omega) (by omega) ?_
      exact hK38 q lay hT _ _ (by omega) h _ _ _ G (lv_sub hl [1, 0] rfl)
    · replace h := h.2 c52
      refine lv_aload_n hC.1 hC.2.1 dX11_digest_57 rfl (lv_at hl 0 rfl) ?_
      refine lv_aload_n hC.1 hC.2.1 dX11_digest_58 rfl (lv_at hl 0 rfl) ?_
      refine lv_iload_n hC.1 hC.2.1 dX11_digest_59 rfl (lv_at hl 1 rfl) ?_
      refine lv_iload_n hC.1 hC.2.1 dX11_digest_60 rfl (lv_at hl 2 rfl) ?_
      refine rg_i G (rg_runV (As := [.int v1, .int v2]) (rest := [.ref (lay 0)]) hC hT G (c_X11_ofPlayerNow l D cy lay Γ h _) (cwV 2 hC.2.2.2.2 gX11_digest_X11_ofPlayerNow rfl rfl rfl hdV_X11_ofPlayerNow ⟨Nat.le_of_ble_eq_true rfl, Nat.le_of_ble_eq_true rfl⟩) (rg_recv hT G (by decide) r_mo k_X11) rfl hl.1 rfl (Nat.le_of_ble_eq_true rfl) dX11_digest_61 (show q + 1 ≤ 339 ∧ 16 * (q) + 16 ≤ 5424 by omega)) (fun r54 σ53 H locs h G => ?_)
      (try dsimp only at h)
      refine lv_i2l (v := Int32.toInt64 r54) hC.1 hC.2.1 dX11_digest_64 rfl ?_
      refine rg_v G (rg_runV (As := [.long (Int32.toInt64 r54)]) (rest := []) hC hT G (c_X11_add l D cy lay Γ h _) (cwV 1 hC.2.2.2.2 gX11_digest_X11_add rfl rfl rfl hdV_X11_add ⟨Nat.le_of_ble_eq_true rfl, Nat.le_of_ble_eq_true rfl⟩) (rg_recv hT G (by decide) r_mo k_X11) rfl hl.1 rfl (Nat.le_of_ble_eq_true rfl) dX11_digest_65 (show q + 1 + 0 ≤ 339 ∧ 16 * (q + 1) + 0 ≤ 5424 by omega)) (fun σ55 H locs h G => ?_)
      (try dsimp only at h)
      refine lv_iinc (v := v2 + 1) (lv' := [(2, .int (v2 + 1)), (0, .ref (lay 0)), (1, .int v1)]) hC.1 hC.2.1 dX11_digest_68 hl (k := 2) rfl rfl (by decide) rfl (fun ls hl => ?_)
      refine lv_goto (tgt := 51) hC.1 hC.2.1 dX11_digest_71 (by decide) ?_
      refine W.widen (k := q + 1) (n := 16 * (q + 1)) (by omega) (by omega) ?_
      exact ih (q + 1) lay hT _ _ _ (by omega) h _ _ _ G (lv_sub hl [1, 2, 0] rfl)
def u_X11_digest_38 (Γ : RG) (post : Int64 → MS → Prop) : Nat → MS → Int32 → Prop
  | 0, _, _ => False
  | n + 1, σ, v1 => w_lp_Jx4a65c_size_8abf5 Γ (fun r3 σ2 => ((r3 ≤ v1 → (∃ k, u_X11_digest_82 Γ post k σ2 0)) ∧ (¬ r3 ≤ v1 → (∃ k, k ≤ 10 ∧ u_X11_digest_51 Γ post (fun σ w0 => u_X11_digest_38 Γ post n σ w0) k σ2 v1 0)))) σ
set_option maxHeartbeats 4000000 in
set_option maxRecDepth 100000 in
theorem l_X11_digest_38 {p : Program} {l : Launch} {e : Env} {s : State} {m : MethodId} {args : Array Value} {below : List Frame} {meth : Method} {c : Code} {D : va_G} {cy : Nat → ClassId} {Γ : RG} {post : Int64 → MS → Prop} (hC : CallFix p m c cX11_digest 3 s args wsX11_digest RX11) (hr : meth.sig.returnType = some .long) (hlocks : meth.locks = false) : ∀ (n : Nat), ∀ (q : Nat) (lay : Nat → Nat), rT D cy lay Γ s → ∀ (σ : MS) (v1 : Int32), q + n * 10 + 75 ≤ 339 → u_X11_digest_38 Γ post n σ v1 → ∀ (H : Heap) (locs : List Loc) (ls : Array Slot), rG D cy lay Γ tn σ (rA cy lay Γ s.heap.size) s.heap H locs → lv_has ls 3 [(0, .ref (lay 0)), (1, .int v1)] → W p l e rm_X11_digest s m args below meth c H locs q (16 * (q)) (MQ below (va_Ql post (rO D cy lay Γ) (rA cy lay Γ s.heap.size)) args s 339 5424 (rA cy lay Γ s.heap.size)) (F0 m 38 ls []) := by
  intro n
  induction n with
  | zero =>
    intro q lay hT σ v1 hq h
    exact h.elim
  | succ n ih =>
    intro q lay hT σ v1 hq h H locs ls G hl
    rw [u_X11_digest_38] at h
    refine lv_iload_n hC.1 hC.2.1 dX11_digest_38 rfl (lv_at hl 1 rfl) ?_
    refine lv_aload_n hC.1 hC.2.1 dX11_digest_39 rfl (lv_at hl 0 rfl) ?_
    refine rg_get hC hT G (by decide) r_mo k_X11 i_X11_digest_X11 3 (by decide) (wm 4 rfl) rfl dX11_digest_40 ?_
    refine rg_i G (rg_runV (As := []) (rest := [.int v1]) hC hT G (c_lp_Jx4a65c_size_8abf5 l D cy lay Γ h _) (cwV 0 hC.2.2.2.2 gX11_digest_Jx4a65c_size_8abf5 rfl rfl rfl hdV_Jx4a65c_size_8abf5 ⟨Nat.le_of_ble_eq_true rfl, Nat.le_of_ble_eq_true rfl⟩) (rg_recv hT G (by decide) r_lp k_AL) rfl hl.1 rfl (Nat.le_of_ble_eq_true rfl) dX11_digest_43 (show q + 0 ≤ 339 ∧ 16 * (q) + 0 ≤ 5424 by omega)) (fun r3 σ2 H locs h G => ?_)
    (try dsimp only at h)
    refine lv_icmp_ge (tgt := 80) hC.1 hC.2.1 dX11_digest_46 (by decide) (fun c4 => ?_) (fun c4 => ?_)
    · replace h := h.1 c4
      refine lv_iconst (v := 0) hC.1 hC.2.1 dX11_digest_80 (by decide) ?_
      refine lv_istore_n (lv' := [(1, .int 0), (0, .ref (lay 0))]) hC.1 hC.2.1 dX11_digest_81 rfl hl (by decide) rfl (fun ls hl => ?_)
      refine W.widen (k := q) (n := 16 * (q)) (by omega) (by omega) ?_
      obtain ⟨n1, h⟩ := h
      exact l_X11_digest_82 hC hr hlocks n1 q lay hT _ _ (by omega) h _ _ _ G (lv_sub hl [1, 0] rfl)
    · replace h := h.2 c4
      refine lv_iconst (v := 0) hC.1 hC.2.1 dX11_digest_49 (by decide) ?_
      refine lv_istore_n (lv' := [(2, .int 0), (0, .ref (lay 0)), (1, .int v1)]) hC.1 hC.2.1 dX11_digest_50 rfl hl (by decide) rfl (fun ls hl => ?_)
      refine W.widen (k := q) (n := 16 * (q)) (by omega) (by omega) ?_
      obtain ⟨n1, hk1, h⟩ := h
      exact l_X11_digest_51 (fun σ w0 => u_X11_digest_38 Γ post n σ w0) (n * 10 + 75) hC hr hlocks (fun q lay hT σ x0 hq => ih q lay hT σ x0 (by omega)) n1 q lay hT _ _ _ (by omega) h _ _ _ G (lv_sub hl [1, 2, 0] rfl)
def u_X11_digest_14 (Γ : RG) (post : Int64 → MS → Prop) : Nat → MS → Int32 → Prop
  | 0, _, _ => False
  | n + 1, σ, v1 => ((13 ≤ v1 → (∃ k, k ≤ 11 ∧ u_X11_digest_38 Γ post k σ 0)) ∧ (¬ 13 ≤ v1 → w_X11_deskNow Γ (fun r57 σ56 => w_X11_add Γ (fun σ58 => u_X11_digest_14 Γ post n σ58 (v1 + 1)) σ56 (Int32.toInt64 r57)) σ v1))
set_option maxHeartbeats 4000000 in
set_option maxRecDepth 100000 in
theorem l_X11_digest_14 {p : Program} {l : Launch} {e : Env} {s : State} {m : MethodId} {args : Array Value} {below : List Frame} {meth : Method} {c : Code} {D : va_G} {cy : Nat → ClassId} {Γ : RG} {post : Int64 → MS → Prop} (hC : CallFix p m c cX11_digest 3 s args wsX11_digest RX11) (hr : meth.sig.returnType = some .long) (hlocks : meth.locks = false) : ∀ (n : Nat), ∀ (q : Nat) (lay : Nat → Nat), rT D cy lay Γ s → ∀ (σ : MS) (v1 : Int32), q + n * 11 + 185 ≤ 339 → u_X11_digest_14 Γ post n σ v1 → ∀ (H : Heap) (locs : List Loc) (ls : Array Slot), rG D cy lay Γ tn σ (rA cy lay Γ s.heap.size) s.heap H locs → lv_has ls 3 [(0, .ref (lay 0)), (1, .int v1)] → W p l e rm_X11_digest s m args below meth c H locs q (16 * (q)) (MQ below (va_Ql post (rO D cy lay Γ) (rA cy lay Γ s.heap.size)) args s 339 5424 (rA cy lay Γ s.heap.size)) (F0 m 14 ls []) := by
  intro n
  induction n with
  | zero =>
    intro q lay hT σ v1 hq h
    exact h.elim
  | succ n ih =>
    intro q lay hT σ v1 hq h H locs ls G hl
    rw [u_X11_digest_14] at h
    refine lv_iload_n hC.1 hC.2.1 dX11_digest_14 rfl (lv_at hl 1 rfl) ?_
    refine lv_bipush (v := 13) hC.1 hC.2.1 dX11_digest_15 (by decide) ?_
    refine lv_icmp_ge (tgt := 36) hC.1 hC.2.1 dX11_digest_17 (by decide) (fun c1 => ?_) (fun c1 => ?_)
    · replace h := h.1 c1
      refine lv_iconst (v := 0) hC.1 hC.2.1 dX11_digest_36 (by decide) ?_
      refine lv_istore_n (lv' := [(1, .int 0), (0, .ref (lay 0))]) hC.1 hC.2.1 dX11_digest_37 rfl hl (by decide) rfl (fun ls hl => ?_)
      refine W.widen (k := q) (n := 16 * (q)) (by omega) (by omega) ?_
      obtain ⟨n1, hk1, h⟩ := h
      exact l_X11_digest_38 hC hr hlocks n1 q lay hT _ _ (by omega) h _ _ _ G (lv_sub hl [1, 0] rfl)
    · replace h := h.2 c1
      refine lv_aload_n hC.1 hC.2.1 dX11_digest_20 rfl (lv_at hl 0 rfl) ?_
      refine lv_aload_n hC.1 hC.2.1 dX11_digest_21 rfl (lv_at hl 0 rfl) ?_
      refine lv_iload_n hC.1 hC.2.1 dX11_digest_22 rfl (lv_at hl 1 rfl) ?_
      refine rg_i G (rg_runV (As := [.int v1]) (rest := [.ref (lay 0)]) hC hT G (c_X11_deskNow l D cy lay Γ h _) (cwV 1 hC.2.2.2.2 gX11_digest_X11_deskNow rfl rfl rfl hdV_X11_deskNow ⟨Nat.le_of_ble_eq_true rfl, Nat.le_of_ble_eq_true rfl⟩) (rg_recv hT G (by decide) r_mo k_X11) rfl hl.1 rfl (Nat.le_of_ble_eq_true rfl) dX11_digest_23 (show q + 11 ≤ 339 ∧ 16 * (q) + 176 ≤ 5424 by omega)) (fun r57 σ56 H locs h G => ?_)
      (try dsimp only at h)
      refine lv_i2l (v := Int32.toInt64 r57) hC.1 hC.2.1 dX11_digest_26 rfl ?_
      refine rg_v G (rg_runV (As := [.long (Int32.toInt64 r57)]) (rest := []) hC hT G (c_X11_add l D cy lay Γ h _) (cwV 1 hC.2.2.2.2 gX11_digest_X11_add rfl rfl rfl hdV_X11_add ⟨Nat.le_of_ble_eq_true rfl, Nat.le_of_ble_eq_true rfl⟩) (rg_recv hT G (by decide) r_mo k_X11) rfl hl.1 rfl (Nat.le_of_ble_eq_true rfl) dX11_digest_27 (show q + 11 + 0 ≤ 339 ∧ 16 * (q + 11) + 0 ≤ 5424 by omega)) (fun σ58 H locs h G => ?_)
      (try dsimp only at h)
      refine lv_iinc (v := v1 + 1) (lv' := [(1, .int (v1 + 1)), (0, .ref (lay 0))]) hC.1 hC.2.1 dX11_digest_30 hl (k := 1) rfl rfl (by decide) rfl (fun ls hl => ?_)
      refine lv_goto (tgt := 14) hC.1 hC.2.1 dX11_digest_33 (by decide) ?_
      refine W.widen (k := q + 11) (n := 16 * (q + 11)) (by omega) (by omega) ?_
      exact ih (q + 11) lay hT _ _ (by omega) h _ _ _ G (lv_sub hl [1, 0] rfl)
def w_X11_digest (Γ : RG) (post : Int64 → MS → Prop) (σ : MS) : Prop := (∃ k, k ≤ 14 ∧ u_X11_digest_14 Γ post k (up2 (up2 (up2 σ 0 0 0) 0 12 (hi32 58278)) 0 13 (lo32 58278)) 0)
set_option maxHeartbeats 4000000 in
set_option maxRecDepth 100000 in
theorem c_X11_digest (l : Launch) (D : va_G) (cy : Nat → ClassId) (lay : Nat → Nat) (Γ : RG) {σ : MS} {post : Int64 → MS → Prop} (h : w_X11_digest Γ post σ) (sz : Nat) : Met l yX11_digest wsX11_digest rm_X11_digest (va_Pc [.ref (lay 0)] (rI D cy lay Γ σ sz)) (va_Ql post (rO D cy lay Γ) (rA cy lay Γ sz)) 339 5424 (rA cy lay Γ sz) := by
  refine rg_ofW (cc := cX11_digest) (maxL := 3) (ret := some .long) (own := RX11) (Qc := fun sz => va_Ql post (rO D cy lay Γ) (rA cy lay Γ sz)) (by decide) rfl (Nat.le_of_ble_eq_true rfl) rfl ?_
  intro p e s m args below meth c ls hC hr hlocks hT G hl
  unfold w_X11_digest at h
  have hl : lv_has ls 3 [(0, .ref (lay 0))] := hl
  refine lv_aload_n hC.1 hC.2.1 dX11_digest_0 rfl (lv_at hl 0 rfl) ?_
  refine lv_iconst (v := 0) hC.1 hC.2.1 dX11_digest_1 (by decide) ?_
  refine rg_put hC hT G (by decide) r_mo k_X11 i_X11_digest_X11 0 (by decide) (wm 1 rfl) rfl rfl (by simp) r_mo (by rw [up2_eq]; rfl) dX11_digest_2 (fun H locs G => ?_)
  refine lv_aload_n hC.1 hC.2.1 dX11_digest_5 rfl (lv_at hl 0 rfl) ?_
  refine lv_ldc2 (v := 58278) hC.1 hC.2.1 hC.2.2.2.1 (hC.2.2.2.2 _ (wm 2 rfl)) dX11_digest_6 ?_
  refine rg_putS hC hT G i_X11_digest_X11 (wm 3 rfl) dX11_digest_9 (fun H locs G => ?_)
  refine lv_iconst (v := 0) hC.1 hC.2.1 dX11_digest_12 (by decide) ?_
  refine lv_istore_n (lv' := [(1, .int 0), (0, .ref (lay 0))]) hC.1 hC.2.1 dX11_digest_13 rfl hl (by decide) rfl (fun ls hl => ?_)
  refine W.widen (k := 0) (n := 0) (by omega) (by omega) ?_
  obtain ⟨n1, hk1, h⟩ := h
  exact l_X11_digest_14 hC hr hlocks n1 0 lay hT _ _ (by omega) h _ _ _ G (lv_sub hl [1, 0] rfl)
theorem hdV_X11_digest : yX11_digest.cls = RX11 ∧ yX11_digest.cls ≠ "java/lang/invoke/MethodHandle" ∧ yX11_digest.cls ≠ "java/lang/invoke/VarHandle" ∧ (parseMethodDescriptor yX11_digest.desc).map (fun d => d.parameters.length) = some 0 := by decide +kernel
