abbrev rm_K6_X11_canPlay : Room := { frames := 3, cells := 0, slots := 0, locals := 64 }
theorem i_K6_X11_canPlay_X11 : ∀ w ∈ wsX110, w ∈ wsX11_canPlay := fun _ h => List.mem_cons_of_mem _ (List.mem_append_left _ (List.mem_append_left _ (List.mem_append_right _ h)))
theorem i_K6_X11_canPlay_X9 : ∀ w ∈ wsX90, w ∈ wsX11_canPlay := fun _ h => List.mem_cons_of_mem _ (List.mem_append_left _ (List.mem_append_right _ h))
def u_K6_X11_canPlay_123 (Γ : RG) (post : Int32 → MS → Prop) (a1 : Int32) (a2 : Int32) (a3 : Int32) (a4 : Int32) (K35 : MS → Int32 → Int32 → Prop) : Nat → MS → Int32 → Int32 → Int32 → Int32 → Prop
  | 0, _, _, _, _, _ => False
  | n + 1, σ, v5, v6, v7, v8 => w_lp_Jx4a65c_size_8abf5 Γ (fun r19 σ18 => ((r19 ≤ v8 → K35 σ18 v5 (v6 + 1)) ∧ (¬ r19 ≤ v8 → ((v5 = 2 → w_X11_isIn Γ (fun r23 σ22 => ((r23 = 0 → u_K6_X11_canPlay_123 Γ post a1 a2 a3 a4 K35 n σ22 v5 v6 v7 (v8 + 1)) ∧ (¬ r23 = 0 → w_lp_Jx4a65c_get_915e3 Γ (fun j26 σ25 => ((j26 < 10 ∧ j26 < Γ.1) ∧ w_X11_isIn Γ (fun r29 σ28 => ((r29 = 0 → u_K6_X11_canPlay_123 Γ post a1 a2 a3 a4 K35 n σ28 v5 v6 v7 (v8 + 1)) ∧ (¬ r29 = 0 → False))) σ25 (σ25 (13 + j26) 0) a3)) σ22 v8))) σ18 (a1 &&& (v7 ^^^ (-1))) v8) ∧ (¬ v5 = 2 → K35 σ18 v5 (v6 + 1)))))) σ
set_option maxHeartbeats 4000000 in
set_option maxRecDepth 100000 in
theorem l_K6_X11_canPlay_123 {p : Program} {l : Launch} {e : Env} {s : State} {m : MethodId} {args : Array Value} {below : List Frame} {meth : Method} {c : Code} {D : va_G} {cy : Nat → ClassId} {lay : Nat → Nat} {Γ : RG} {post : Int32 → MS → Prop} (a1 : Int32) (a2 : Int32) (a3 : Int32) (a4 : Int32) (K35 : MS → Int32 → Int32 → Prop) (hC : CallFix p m c cX11_canPlay 9 s args wsX11_canPlay RX11) (hr : meth.sig.returnType = some .boolean) (hlocks : meth.locks = false) (hT : rT D cy lay Γ s) (hK35 : ∀ (σ : MS) (v5 : Int32) (v6 : Int32), K35 σ v5 v6 → ∀ (H : Heap) (locs : List Loc) (ls : Array Slot), rG D cy lay Γ tn σ (rA cy lay Γ s.heap.size) s.heap H locs → lv_has ls 9 [(0, .ref (lay 0)), (1, .int a1), (2, .int a2), (3, .int a3), (4, .int a4), (5, .int v5), (6, .int v6)] → W p l e rm_K6_X11_canPlay s m args below meth c H locs 0 0 (MQ below (va_Qi post (rO D cy lay Γ) (rA cy lay Γ s.heap.size)) args s 0 0 (rA cy lay Γ s.heap.size)) (F0 m 35 ls [])) : ∀ (n : Nat), ∀ (σ : MS) (v5 : Int32) (v6 : Int32) (v7 : Int32) (v8 : Int32), u_K6_X11_canPlay_123 Γ post a1 a2 a3 a4 K35 n σ v5 v6 v7 v8 → ∀ (H : Heap) (locs : List Loc) (ls : Array Slot), rG D cy lay Γ tn σ (rA cy lay Γ s.heap.size) s.heap H locs → lv_has ls 9 [(0, .ref (lay 0)), (1, .int a1), (2, .int a2), (3, .int a3), (4, .int a4), (5, .int v5), (6, .int v6), (7, .int v7), (8, .int v8)] → W p l e rm_K6_X11_canPlay s m args below meth c H locs 0 0 (MQ below (va_Qi post (rO D cy lay Γ) (rA cy lay Γ s.heap.size)) args s 0 0 (rA cy lay Γ s.heap.size)) (F0 m 123 ls []) := by
  intro n
  induction n with
  | zero =>
    intro σ v5 v6 v7 v8 h
    exact h.elim
  | succ n ih =>
    intro σ v5 v6 v7 v8 h H locs ls G hl
    rw [u_K6_X11_canPlay_123] at h
    refine lv_iload hC.1 hC.2.1 dX11_canPlay_123 (lv_at hl 8 rfl) ?_
    refine lv_aload_n hC.1 hC.2.1 dX11_canPlay_125 rfl (lv_at hl 0 rfl) ?_
    refine rg_get hC hT G (by decide) r_mo k_X11 i_K6_X11_canPlay_X11 3 (by decide) (wm 1 rfl) rfl dX11_canPlay_126 ?_
    refine rg_i G (rg_runV (As := []) (rest := [.int v8]) hC hT G (c_lp_Jx4a65c_size_8abf5 l D cy lay Γ h _) (cwV 0 hC.2.2.2.2 gX11_canPlay_Jx4a65c_size_8abf5 rfl rfl rfl hdV_Jx4a65c_size_8abf5 ⟨Nat.le_of_ble_eq_true rfl, Nat.le_of_ble_eq_true rfl⟩) (rg_recv hT G (by decide) r_lp k_AL) rfl hl.1 rfl (Nat.le_of_ble_eq_true rfl) dX11_canPlay_129 ⟨Nat.le_of_ble_eq_true rfl, Nat.le_of_ble_eq_true rfl⟩) (fun r19 σ18 H locs h G => ?_)
    (try dsimp only at h)
    refine lv_icmp_ge (tgt := 204) hC.1 hC.2.1 dX11_canPlay_132 (by decide) (fun c20 => ?_) (fun c20 => ?_)
    · replace h := h.1 c20
      refine lv_iinc (v := v6 + 1) (lv' := [(6, .int (v6 + 1)), (0, .ref (lay 0)), (1, .int a1), (2, .int a2), (3, .int a3), (4, .int a4), (5, .int v5), (7, .int v7), (8, .int v8)]) hC.1 hC.2.1 dX11_canPlay_204 hl (k := 6) rfl rfl (by decide) rfl (fun ls hl => ?_)
      refine lv_goto (tgt := 35) hC.1 hC.2.1 dX11_canPlay_207 (by decide) ?_
      exact hK35 _ _ _ h _ _ _ G (lv_sub hl [1, 2, 3, 4, 5, 6, 0] rfl)
    · replace h := h.2 c20
      refine lv_iload hC.1 hC.2.1 dX11_canPlay_135 (lv_at hl 5 rfl) ?_
      refine lv_iconst (v := 2) hC.1 hC.2.1 dX11_canPlay_137 (by decide) ?_
      refine lv_icmp_ne (tgt := 204) hC.1 hC.2.1 dX11_canPlay_138 (by decide) (fun c21 => ?_) (fun c21 => ?_)
      · replace h := h.2 c21
        refine lv_iinc (v := v6 + 1) (lv' := [(6, .int (v6 + 1)), (0, .ref (lay 0)), (1, .int a1), (2, .int a2), (3, .int a3), (4, .int a4), (5, .int v5), (7, .int v7), (8, .int v8)]) hC.1 hC.2.1 dX11_canPlay_204 hl (k := 6) rfl rfl (by decide) rfl (fun ls hl => ?_)
        refine lv_goto (tgt := 35) hC.1 hC.2.1 dX11_canPlay_207 (by decide) ?_
        exact hK35 _ _ _ h _ _ _ G (lv_sub hl [1, 2, 3, 4, 5, 6, 0] rfl)
      · replace h := h.1 c21
        refine lv_iload_n hC.1 hC.2.1 dX11_canPlay_141 rfl (lv_at hl 1 rfl) ?_
        refine lv_iload hC.1 hC.2.1 dX11_canPlay_142 (lv_at hl 7 rfl) ?_
        refine lv_iconst (v := (-1)) hC.1 hC.2.1 dX11_canPlay_144 (by decide) ?_
        refine lv_ixor hC.1 hC.2.1 dX11_canPlay_145 ?_
        refine lv_iand hC.1 hC.2.1 dX11_canPlay_146 ?_
        refine lv_iload hC.1 hC.2.1 dX11_canPlay_147 (lv_at hl 8 rfl) ?_
        refine rg_i G (rg_runS (As := [.int (a1 &&& (v7 ^^^ (-1))), .int v8]) (rest := []) hC hT G (c_X11_isIn l D cy lay Γ h _) (va_cwS 2 hC.2.2.2.2 gX11_canPlay_X11_isIn rfl rfl rfl hdS_X11_isIn ⟨Nat.le_of_ble_eq_true rfl, Nat.le_of_ble_eq_true rfl⟩) rfl hl.1 rfl (Nat.le_of_ble_eq_true rfl) dX11_canPlay_149 ⟨Nat.le_of_ble_eq_true rfl, Nat.le_of_ble_eq_true rfl⟩) (fun r23 σ22 H locs h G => ?_)
        (try dsimp only at h)
        refine lv_if_eq (tgt := 198) hC.1 hC.2.1 dX11_canPlay_152 (by decide) (fun c24 => ?_) (fun c24 => ?_)
        · replace h := h.1 c24
          refine lv_iinc (v := v8 + 1) (lv' := [(8, .int (v8 + 1)), (0, .ref (lay 0)), (1, .int a1), (2, .int a2), (3, .int a3), (4, .int a4), (5, .int v5), (6, .int v6), (7, .int v7)]) hC.1 hC.2.1 dX11_canPlay_198 hl (k := 8) rfl rfl (by decide) rfl (fun ls hl => ?_)
          refine lv_goto (tgt := 123) hC.1 hC.2.1 dX11_canPlay_201 (by decide) ?_
          exact ih _ _ _ _ _ h _ _ _ G (lv_sub hl [1, 2, 3, 4, 5, 6, 7, 8, 0] rfl)
        · replace h := h.2 c24
          refine lv_aload_n hC.1 hC.2.1 dX11_canPlay_155 rfl (lv_at hl 0 rfl) ?_
          refine rg_get hC hT G (by decide) r_mo k_X11 i_K6_X11_canPlay_X11 3 (by decide) (wm 1 rfl) rfl dX11_canPlay_156 ?_
          refine lv_iload hC.1 hC.2.1 dX11_canPlay_159 (lv_at hl 8 rfl) ?_
          refine rg_r (f := fun i => lay (13 + i)) G (rg_runV (As := [.int v8]) (rest := []) hC hT G (c_lp_Jx4a65c_get_915e3 l D cy lay Γ h _) (cwV 1 hC.2.2.2.2 gX11_canPlay_Jx4a65c_get_915e3 rfl rfl rfl hdV_Jx4a65c_get_915e3 ⟨Nat.le_of_ble_eq_true rfl, Nat.le_of_ble_eq_true rfl⟩) (rg_recv hT G (by decide) r_lp k_AL) rfl hl.1 rfl (Nat.le_of_ble_eq_true rfl) dX11_canPlay_161 ⟨Nat.le_of_ble_eq_true rfl, Nat.le_of_ble_eq_true rfl⟩) (fun j26 σ25 H locs h G => ?_)
          (try dsimp only at h)
          obtain ⟨hj27, h⟩ := h
          refine rg_cast hC hT k_X9 (wm 2 rfl) (rg_recv hT G (rk_pl hj27) (r_pl hj27) k_X9) dX11_canPlay_164 ?_
          refine rg_getN hC hT G (rk_pl hj27) (r_pl hj27) k_X9 i_K6_X11_canPlay_X9 0 (by decide) 2 rfl rfl dX11_canPlay_167 ?_
          refine lv_iload_n hC.1 hC.2.1 dX11_canPlay_170 rfl (lv_at hl 3 rfl) ?_
          refine rg_i G (rg_runS (As := [.int (σ25 (13 + j26) 0), .int a3]) (rest := []) hC hT G (c_X11_isIn l D cy lay Γ h _) (va_cwS 2 hC.2.2.2.2 gX11_canPlay_X11_isIn rfl rfl rfl hdS_X11_isIn ⟨Nat.le_of_ble_eq_true rfl, Nat.le_of_ble_eq_true rfl⟩) rfl hl.1 rfl (Nat.le_of_ble_eq_true rfl) dX11_canPlay_171 ⟨Nat.le_of_ble_eq_true rfl, Nat.le_of_ble_eq_true rfl⟩) (fun r29 σ28 H locs h G => ?_)
          (try dsimp only at h)
          refine lv_if_eq (tgt := 198) hC.1 hC.2.1 dX11_canPlay_174 (by decide) (fun c30 => ?_) (fun c30 => ?_)
          · replace h := h.1 c30
            refine lv_iinc (v := v8 + 1) (lv' := [(8, .int (v8 + 1)), (0, .ref (lay 0)), (1, .int a1), (2, .int a2), (3, .int a3), (4, .int a4), (5, .int v5), (6, .int v6), (7, .int v7)]) hC.1 hC.2.1 dX11_canPlay_198 hl (k := 8) rfl rfl (by decide) rfl (fun ls hl => ?_)
            refine lv_goto (tgt := 123) hC.1 hC.2.1 dX11_canPlay_201 (by decide) ?_
            exact ih _ _ _ _ _ h _ _ _ G (lv_sub hl [1, 2, 3, 4, 5, 6, 7, 8, 0] rfl)
          · replace h := h.2 c30
            refine lv_aload_n hC.1 hC.2.1 dX11_canPlay_177 rfl (lv_at hl 0 rfl) ?_
            refine lv_iload_n hC.1 hC.2.1 dX11_canPlay_178 rfl (lv_at hl 1 rfl) ?_
            refine lv_iload_n hC.1 hC.2.1 dX11_canPlay_179 rfl (lv_at hl 2 rfl) ?_
            refine lv_iload_n hC.1 hC.2.1 dX11_canPlay_180 rfl (lv_at hl 3 rfl) ?_
            refine lv_iconst (v := 1) hC.1 hC.2.1 dX11_canPlay_181 (by decide) ?_
            refine lv_iadd hC.1 hC.2.1 dX11_canPlay_182 ?_
            refine lv_iload hC.1 hC.2.1 dX11_canPlay_183 (lv_at hl 7 rfl) ?_
            refine lv_iconst (v := 1) hC.1 hC.2.1 dX11_canPlay_185 (by decide) ?_
            refine lv_iload hC.1 hC.2.1 dX11_canPlay_186 (lv_at hl 8 rfl) ?_
            refine lv_ishl hC.1 hC.2.1 dX11_canPlay_188 ?_
            refine lv_ior hC.1 hC.2.1 dX11_canPlay_189 ?_
            exact h.elim
def u_K6_X11_canPlay_35 (Γ : RG) (post : Int32 → MS → Prop) (a1 : Int32) (a2 : Int32) (a3 : Int32) (a4 : Int32) : Nat → MS → Int32 → Int32 → Prop
  | 0, _, _, _ => False
  | n + 1, σ, v5, v6 => w_lp_Jx4a65c_size_8abf5 Γ (fun r6 σ5 => ((r6 ≤ v6 → post 0 σ5) ∧ (¬ r6 ≤ v6 → w_X11_isIn Γ (fun r9 σ8 => ((r9 = 0 → u_K6_X11_canPlay_35 Γ post a1 a2 a3 a4 n σ8 v5 (v6 + 1)) ∧ (¬ r9 = 0 → w_lp_Jx4a65c_get_915e3 Γ (fun j12 σ11 => ((j12 < 10 ∧ j12 < Γ.1) ∧ w_X11_isIn Γ (fun r15 σ14 => ((r15 = 0 → u_K6_X11_canPlay_35 Γ post a1 a2 a3 a4 n σ14 v5 (v6 + 1)) ∧ (¬ r15 = 0 → ((v5 = 1 → False) ∧ (¬ v5 = 1 → (∃ k, u_K6_X11_canPlay_123 Γ post a1 a2 a3 a4 (fun σ w0 w1 => u_K6_X11_canPlay_35 Γ post a1 a2 a3 a4 n σ w0 w1) k σ14 v5 v6 (a4 ||| (1 <<< (v6 &&& 31))) (v6 + 1))))))) σ11 (σ11 (13 + j12) 0) a3)) σ8 v6))) σ5 (a1 &&& (a4 ^^^ (-1))) v6))) σ
set_option maxHeartbeats 4000000 in
set_option maxRecDepth 100000 in
theorem l_K6_X11_canPlay_35 {p : Program} {l : Launch} {e : Env} {s : State} {m : MethodId} {args : Array Value} {below : List Frame} {meth : Method} {c : Code} {D : va_G} {cy : Nat → ClassId} {lay : Nat → Nat} {Γ : RG} {post : Int32 → MS → Prop} (a1 : Int32) (a2 : Int32) (a3 : Int32) (a4 : Int32) (hC : CallFix p m c cX11_canPlay 9 s args wsX11_canPlay RX11) (hr : meth.sig.returnType = some .boolean) (hlocks : meth.locks = false) (hT : rT D cy lay Γ s) : ∀ (n : Nat), ∀ (σ : MS) (v5 : Int32) (v6 : Int32), u_K6_X11_canPlay_35 Γ post a1 a2 a3 a4 n σ v5 v6 → ∀ (H : Heap) (locs : List Loc) (ls : Array Slot), rG D cy lay Γ tn σ (rA cy lay Γ s.heap.size) s.heap H locs → lv_has ls 9 [(0, .ref (lay 0)), (1, .int a1), (2, .int a2), (3, .int a3), (4, .int a4), (5, .int v5), (6, .int v6)] → W p l e rm_K6_X11_canPlay s m args below meth c H locs 0 0 (MQ below (va_Qi post (rO D cy lay Γ) (rA cy lay Γ s.heap.size)) args s 0 0 (rA cy lay Γ s.heap.size)) (F0 m 35 ls []) := by
  intro n
  induction n with
  | zero =>
    intro σ v5 v6 h
    exact h.elim
  | succ n ih =>
    intro σ v5 v6 h H locs ls G hl
    rw [u_K6_X11_canPlay_35] at h
    refine lv_iload hC.1 hC.2.1 dX11_canPlay_35 (lv_at hl 6 rfl) ?_
    refine lv_aload_n hC.1 hC.2.1 dX11_canPlay_37 rfl (lv_at hl 0 rfl) ?_
    refine rg_get hC hT G (by decide) r_mo k_X11 i_K6_X11_canPlay_X11 3 (by decide) (wm 1 rfl) rfl dX11_canPlay_38 ?_
    refine rg_i G (rg_runV (As := []) (rest := [.int v6]) hC hT G (c_lp_Jx4a65c_size_8abf5 l D cy lay Γ h _) (cwV 0 hC.2.2.2.2 gX11_canPlay_Jx4a65c_size_8abf5 rfl rfl rfl hdV_Jx4a65c_size_8abf5 ⟨Nat.le_of_ble_eq_true rfl, Nat.le_of_ble_eq_true rfl⟩) (rg_recv hT G (by decide) r_lp k_AL) rfl hl.1 rfl (Nat.le_of_ble_eq_true rfl) dX11_canPlay_41 ⟨Nat.le_of_ble_eq_true rfl, Nat.le_of_ble_eq_true rfl⟩) (fun r6 σ5 H locs h G => ?_)
    (try dsimp only at h)
    refine lv_icmp_ge (tgt := 210) hC.1 hC.2.1 dX11_canPlay_44 (by decide) (fun c7 => ?_) (fun c7 => ?_)
    · replace h := h.1 c7
      refine lv_iconst (v := 0) hC.1 hC.2.1 dX11_canPlay_210 (by decide) ?_
      exact rg_zret hC hr hlocks G rfl h dX11_canPlay_211
    · replace h := h.2 c7
      refine lv_iload_n hC.1 hC.2.1 dX11_canPlay_47 rfl (lv_at hl 1 rfl) ?_
      refine lv_iload hC.1 hC.2.1 dX11_canPlay_48 (lv_at hl 4 rfl) ?_
      refine lv_iconst (v := (-1)) hC.1 hC.2.1 dX11_canPlay_50 (by decide) ?_
      refine lv_ixor hC.1 hC.2.1 dX11_canPlay_51 ?_
      refine lv_iand hC.1 hC.2.1 dX11_canPlay_52 ?_
      refine lv_iload hC.1 hC.2.1 dX11_canPlay_53 (lv_at hl 6 rfl) ?_
      refine rg_i G (rg_runS (As := [.int (a1 &&& (a4 ^^^ (-1))), .int v6]) (rest := []) hC hT G (c_X11_isIn l D cy lay Γ h _) (va_cwS 2 hC.2.2.2.2 gX11_canPlay_X11_isIn rfl rfl rfl hdS_X11_isIn ⟨Nat.le_of_ble_eq_true rfl, Nat.le_of_ble_eq_true rfl⟩) rfl hl.1 rfl (Nat.le_of_ble_eq_true rfl) dX11_canPlay_55 ⟨Nat.le_of_ble_eq_true rfl, Nat.le_of_ble_eq_true rfl⟩) (fun r9 σ8 H locs h G => ?_)
      (try dsimp only at h)
      refine lv_if_eq (tgt := 204) hC.1 hC.2.1 dX11_canPlay_58 (by decide) (fun c10 => ?_) (fun c10 => ?_)
      · replace h := h.1 c10
        refine lv_iinc (v := v6 + 1) (lv' := [(6, .int (v6 + 1)), (0, .ref (lay 0)), (1, .int a1), (2, .int a2), (3, .int a3), (4, .int a4), (5, .int v5)]) hC.1 hC.2.1 dX11_canPlay_204 hl (k := 6) rfl rfl (by decide) rfl (fun ls hl => ?_)
        refine lv_goto (tgt := 35) hC.1 hC.2.1 dX11_canPlay_207 (by decide) ?_
        exact ih _ _ _ h _ _ _ G (lv_sub hl [1, 2, 3, 4, 5, 6, 0] rfl)
      · replace h := h.2 c10
        refine lv_aload_n hC.1 hC.2.1 dX11_canPlay_61 rfl (lv_at hl 0 rfl) ?_
        refine rg_get hC hT G (by decide) r_mo k_X11 i_K6_X11_canPlay_X11 3 (by decide) (wm 1 rfl) rfl dX11_canPlay_62 ?_
        refine lv_iload hC.1 hC.2.1 dX11_canPlay_65 (lv_at hl 6 rfl) ?_
        refine rg_r (f := fun i => lay (13 + i)) G (rg_runV (As := [.int v6]) (rest := []) hC hT G (c_lp_Jx4a65c_get_915e3 l D cy lay Γ h _) (cwV 1 hC.2.2.2.2 gX11_canPlay_Jx4a65c_get_915e3 rfl rfl rfl hdV_Jx4a65c_get_915e3 ⟨Nat.le_of_ble_eq_true rfl, Nat.le_of_ble_eq_true rfl⟩) (rg_recv hT G (by decide) r_lp k_AL) rfl hl.1 rfl (Nat.le_of_ble_eq_true rfl) dX11_canPlay_67 ⟨Nat.le_of_ble_eq_true rfl, Nat.le_of_ble_eq_true rfl⟩) (fun j12 σ11 H locs h G => ?_)
        (try dsimp only at h)
        obtain ⟨hj13, h⟩ := h
        refine rg_cast hC hT k_X9 (wm 2 rfl) (rg_recv hT G (rk_pl hj13) (r_pl hj13) k_X9) dX11_canPlay_70 ?_
        refine rg_getN hC hT G (rk_pl hj13) (r_pl hj13) k_X9 i_K6_X11_canPlay_X9 0 (by decide) 2 rfl rfl dX11_canPlay_73 ?_
        refine lv_iload_n hC.1 hC.2.1 dX11_canPlay_76 rfl (lv_at hl 3 rfl) ?_
        refine rg_i G (rg_runS (As := [.int (σ11 (13 + j12) 0), .int a3]) (rest := []) hC hT G (c_X11_isIn l D cy lay Γ h _) (va_cwS 2 hC.2.2.2.2 gX11_canPlay_X11_isIn rfl rfl rfl hdS_X11_isIn ⟨Nat.le_of_ble_eq_true rfl, Nat.le_of_ble_eq_true rfl⟩) rfl hl.1 rfl (Nat.le_of_ble_eq_true rfl) dX11_canPlay_77 ⟨Nat.le_of_ble_eq_true rfl, Nat.le_of_ble_eq_true rfl⟩) (fun r15 σ14 H locs h G => ?_)
        (try dsimp only at h)
        refine lv_if_ne (tgt := 86) hC.1 hC.2.1 dX11_canPlay_80 (by decide) (fun c16 => ?_) (fun c16 => ?_)
        · replace h := h.2 c16
          refine lv_iload hC.1 hC.2.1 dX11_canPlay_86 (lv_at hl 4 rfl) ?_
          refine lv_iconst (v := 1) hC.1 hC.2.1 dX11_canPlay_88 (by decide) ?_
          refine lv_iload hC.1 hC.2.1 dX11_canPlay_89 (lv_at hl 6 rfl) ?_
          refine lv_ishl hC.1 hC.2.1 dX11_canPlay_91 ?_
          refine lv_ior hC.1 hC.2.1 dX11_canPlay_92 ?_
          refine lv_istore (lv' := [(7, .int (a4 ||| (1 <<< (v6 &&& 31)))), (0, .ref (lay 0)), (1, .int a1), (2, .int a2), (3, .int a3), (4, .int a4), (5, .int v5), (6, .int v6)]) hC.1 hC.2.1 dX11_canPlay_93 hl (by decide) rfl (fun ls hl => ?_)
          refine lv_iload hC.1 hC.2.1 dX11_canPlay_95 (lv_at hl 6 rfl) ?_
          refine lv_iconst (v := 1) hC.1 hC.2.1 dX11_canPlay_97 (by decide) ?_
          refine lv_icmp_ne (tgt := 117) hC.1 hC.2.1 dX11_canPlay_98 (by decide) (fun c17 => ?_) (fun c17 => ?_)
          · replace h := h.2 c17
            refine lv_iload hC.1 hC.2.1 dX11_canPlay_117 (lv_at hl 7 rfl) ?_
            refine lv_iconst (v := 1) hC.1 hC.2.1 dX11_canPlay_119 (by decide) ?_
            refine lv_iadd hC.1 hC.2.1 dX11_canPlay_120 ?_
            refine lv_istore (lv' := [(8, .int (v6 + 1)), (7, .int (a4 ||| (1 <<< (v6 &&& 31)))), (0, .ref (lay 0)), (1, .int a1), (2, .int a2), (3, .int a3), (4, .int a4), (5, .int v5), (6, .int v6)]) hC.1 hC.2.1 dX11_canPlay_121 hl (by decide) rfl (fun ls hl => ?_)
            obtain ⟨n1, h⟩ := h
            exact l_K6_X11_canPlay_123 a1 a2 a3 a4 (fun σ w0 w1 => u_K6_X11_canPlay_35 Γ post a1 a2 a3 a4 n σ w0 w1) hC hr hlocks hT ih n1 _ _ _ _ _ h _ _ _ G (lv_sub hl [2, 3, 4, 5, 6, 7, 8, 1, 0] rfl)
          · replace h := h.1 c17
            refine lv_aload_n hC.1 hC.2.1 dX11_canPlay_101 rfl (lv_at hl 1 rfl) ?_
            refine lv_iload_n hC.1 hC.2.1 dX11_canPlay_102 rfl (lv_at hl 2 rfl) ?_
            refine lv_iload_n hC.1 hC.2.1 dX11_canPlay_103 rfl (lv_at hl 3 rfl) ?_
            refine lv_iload_n hC.1 hC.2.1 dX11_canPlay_104 rfl (lv_at hl 4 rfl) ?_
            refine lv_iconst (v := 1) hC.1 hC.2.1 dX11_canPlay_105 (by decide) ?_
            refine lv_iadd hC.1 hC.2.1 dX11_canPlay_106 ?_
            refine lv_iload hC.1 hC.2.1 dX11_canPlay_107 (lv_at hl 0 rfl) ?_
            exact h.elim
        · replace h := h.1 c16
          refine lv_goto (tgt := 204) hC.1 hC.2.1 dX11_canPlay_83 (by decide) ?_
          refine lv_iinc (v := v6 + 1) (lv' := [(6, .int (v6 + 1)), (0, .ref (lay 0)), (1, .int a1), (2, .int a2), (3, .int a3), (4, .int a4), (5, .int v5)]) hC.1 hC.2.1 dX11_canPlay_204 hl (k := 6) rfl rfl (by decide) rfl (fun ls hl => ?_)
          refine lv_goto (tgt := 35) hC.1 hC.2.1 dX11_canPlay_207 (by decide) ?_
          exact ih _ _ _ h _ _ _ G (lv_sub hl [1, 2, 3, 4, 5, 6, 0] rfl)
def w_K6_X11_canPlay (Γ : RG) (post : Int32 → MS → Prop) (σ : MS) (a1 : Int32) (a2 : Int32) (a3 : Int32) (a4 : Int32) : Prop := ((a3 = 6 → post 1 σ) ∧ (¬ a3 = 6 → w_X11_needed Γ (fun r3 σ2 => ((r3 = 0 → False) ∧ (¬ r3 = 0 → (∃ k, u_K6_X11_canPlay_35 Γ post a1 a2 a3 a4 k σ2 r3 0)))) σ a2 a3))
set_option maxHeartbeats 4000000 in
set_option maxRecDepth 100000 in
theorem c_K6_X11_canPlay (l : Launch) (D : va_G) (cy : Nat → ClassId) (lay : Nat → Nat) (Γ : RG) {σ : MS} {post : Int32 → MS → Prop} {a1 : Int32} {a2 : Int32} {a3 : Int32} {a4 : Int32} (h : w_K6_X11_canPlay Γ post σ a1 a2 a3 a4) (sz : Nat) : Met l yX11_canPlay wsX11_canPlay rm_K6_X11_canPlay (va_Pc [.ref (lay 0), .int a1, .int a2, .int a3, .int a4] (rI D cy lay Γ σ sz)) (va_Qi post (rO D cy lay Γ) (rA cy lay Γ sz)) 0 0 (rA cy lay Γ sz) := by
  refine rg_ofW (cc := cX11_canPlay) (maxL := 9) (ret := some .boolean) (own := RX11) (Qc := fun sz => va_Qi post (rO D cy lay Γ) (rA cy lay Γ sz)) (by decide) rfl (Nat.le_of_ble_eq_true rfl) rfl ?_
  intro p e s m args below meth c ls hC hr hlocks hT G hl
  unfold w_K6_X11_canPlay at h
  have hl : lv_has ls 9 [(0, .ref (lay 0)), (1, .int a1), (2, .int a2), (3, .int a3), (4, .int a4)] := hl
  refine lv_iload_n hC.1 hC.2.1 dX11_canPlay_0 rfl (lv_at hl 3 rfl) ?_
  refine lv_bipush (v := 6) hC.1 hC.2.1 dX11_canPlay_1 (by decide) ?_
  refine lv_icmp_ne (tgt := 8) hC.1 hC.2.1 dX11_canPlay_3 (by decide) (fun c1 => ?_) (fun c1 => ?_)
  · replace h := h.2 c1
    refine lv_iload_n hC.1 hC.2.1 dX11_canPlay_8 rfl (lv_at hl 2 rfl) ?_
    refine lv_iload_n hC.1 hC.2.1 dX11_canPlay_9 rfl (lv_at hl 3 rfl) ?_
    refine rg_i G (rg_runS (As := [.int a2, .int a3]) (rest := []) hC hT G (c_X11_needed l D cy lay Γ h _) (va_cwS 2 hC.2.2.2.2 gX11_canPlay_X11_needed rfl rfl rfl hdS_X11_needed ⟨Nat.le_of_ble_eq_true rfl, Nat.le_of_ble_eq_true rfl⟩) rfl hl.1 rfl (Nat.le_of_ble_eq_true rfl) dX11_canPlay_10 ⟨Nat.le_of_ble_eq_true rfl, Nat.le_of_ble_eq_true rfl⟩) (fun r3 σ2 H locs h G => ?_)
    (try dsimp only at h)
    refine lv_istore (lv' := [(5, .int r3), (0, .ref (lay 0)), (1, .int a1), (2, .int a2), (3, .int a3), (4, .int a4)]) hC.1 hC.2.1 dX11_canPlay_13 hl (by decide) rfl (fun ls hl => ?_)
    refine lv_iload hC.1 hC.2.1 dX11_canPlay_15 (lv_at hl 0 rfl) ?_
    refine lv_if_ne (tgt := 32) hC.1 hC.2.1 dX11_canPlay_17 (by decide) (fun c4 => ?_) (fun c4 => ?_)
    · replace h := h.2 c4
      refine lv_iconst (v := 0) hC.1 hC.2.1 dX11_canPlay_32 (by decide) ?_
      refine lv_istore (lv' := [(6, .int 0), (5, .int r3), (0, .ref (lay 0)), (1, .int a1), (2, .int a2), (3, .int a3), (4, .int a4)]) hC.1 hC.2.1 dX11_canPlay_33 hl (by decide) rfl (fun ls hl => ?_)
      obtain ⟨n1, h⟩ := h
      exact l_K6_X11_canPlay_35 a1 a2 a3 a4 hC hr hlocks hT n1 _ _ _ h _ _ _ G (lv_sub hl [2, 3, 4, 5, 6, 1, 0] rfl)
    · replace h := h.1 c4
      refine lv_aload_n hC.1 hC.2.1 dX11_canPlay_20 rfl (lv_at hl 1 rfl) ?_
      refine lv_iload_n hC.1 hC.2.1 dX11_canPlay_21 rfl (lv_at hl 2 rfl) ?_
      refine lv_iload_n hC.1 hC.2.1 dX11_canPlay_22 rfl (lv_at hl 3 rfl) ?_
      refine lv_iload_n hC.1 hC.2.1 dX11_canPlay_23 rfl (lv_at hl 4 rfl) ?_
      refine lv_iconst (v := 1) hC.1 hC.2.1 dX11_canPlay_24 (by decide) ?_
      refine lv_iadd hC.1 hC.2.1 dX11_canPlay_25 ?_
      refine lv_iload hC.1 hC.2.1 dX11_canPlay_26 (lv_at hl 5 rfl) ?_
      exact h.elim
  · replace h := h.1 c1
    refine lv_iconst (v := 1) hC.1 hC.2.1 dX11_canPlay_6 (by decide) ?_
    exact rg_zret hC hr hlocks G rfl h dX11_canPlay_7
theorem hdV_X11_canPlay : yX11_canPlay.cls = RX11 ∧ yX11_canPlay.cls ≠ "java/lang/invoke/MethodHandle" ∧ yX11_canPlay.cls ≠ "java/lang/invoke/VarHandle" ∧ (parseMethodDescriptor yX11_canPlay.desc).map (fun d => d.parameters.length) = some 4 := by decide +kernel
abbrev rm_K5_X11_canPlay : Room := { frames := 4, cells := 0, slots := 0, locals := 92 }
theorem i_K5_X11_canPlay_X11 : ∀ w ∈ wsX110, w ∈ wsX11_canPlay := fun _ h => List.mem_cons_of_mem _ (List.mem_append_left _ (List.mem_append_left _ (List.mem_append_right _ h)))
theorem i_K5_X11_canPlay_X9 : ∀ w ∈ wsX90, w ∈ wsX11_canPlay := fun _ h => List.mem_cons_of_mem _ (List.mem_append_left _ (List.mem_append_right _ h))
def u_K5_X11_canPlay_123 (Γ : RG) (post : Int32 → MS → Prop) (a1 : Int32) (a2 : Int32) (a3 : Int32) (a4 : Int32) (K35 : MS → Int32 → Int32 → Prop) : Nat → MS → Int32 → Int32 → Int32 → Int32 → Prop
  | 0, _, _, _, _, _ => False
  | n + 1, σ, v5, v6, v7, v8 => w_lp_Jx4a65c_size_8abf5 Γ (fun r19 σ18 => ((r19 ≤ v8 → K35 σ18 v5 (v6 + 1)) ∧ (¬ r19 ≤ v8 → ((v5 = 2 → w_X11_isIn Γ (fun r23 σ22 => ((r23 = 0 → u_K5_X11_canPlay_123 Γ post a1 a2 a3 a4 K35 n σ22 v5 v6 v7 (v8 + 1)) ∧ (¬ r23 = 0 → w_lp_Jx4a65c_get_915e3 Γ (fun j26 σ25 => ((j26 < 10 ∧ j26 < Γ.1) ∧ w_X11_isIn Γ (fun r29 σ28 => ((r29 = 0 → u_K5_X11_canPlay_123 Γ post a1 a2 a3 a4 K35 n σ28 v5 v6 v7 (v8 + 1)) ∧ (¬ r29 = 0 → w_K6_X11_canPlay Γ (fun r32 σ31 => ((r32 = 0 → u_K5_X11_canPlay_123 Γ post a1 a2 a3 a4 K35 n σ31 v5 v6 v7 (v8 + 1)) ∧ (¬ r32 = 0 → post 1 σ31))) σ28 a1 a2 (a3 + 1) (v7 ||| (1 <<< (v8 &&& 31)))))) σ25 (σ25 (13 + j26) 0) a3)) σ22 v8))) σ18 (a1 &&& (v7 ^^^ (-1))) v8) ∧ (¬ v5 = 2 → K35 σ18 v5 (v6 + 1)))))) σ
set_option maxHeartbeats 4000000 in
set_option maxRecDepth 100000 in
theorem l_K5_X11_canPlay_123 {p : Program} {l : Launch} {e : Env} {s : State} {m : MethodId} {args : Array Value} {below : List Frame} {meth : Method} {c : Code} {D : va_G} {cy : Nat → ClassId} {lay : Nat → Nat} {Γ : RG} {post : Int32 → MS → Prop} (a1 : Int32) (a2 : Int32) (a3 : Int32) (a4 : Int32) (K35 : MS → Int32 → Int32 → Prop) (hC : CallFix p m c cX11_canPlay 9 s args wsX11_canPlay RX11) (hr : meth.sig.returnType = some .boolean) (hlocks : meth.locks = false) (hT : rT D cy lay Γ s) (hK35 : ∀ (σ : MS) (v5 : Int32) (v6 : Int32), K35 σ v5 v6 → ∀ (H : Heap) (locs : List Loc) (ls : Array Slot), rG D cy lay Γ tn σ (rA cy lay Γ s.heap.size) s.heap H locs → lv_has ls 9 [(0, .ref (lay 0)), (1, .int a1), (2, .int a2), (3, .int a3), (4, .int a4), (5, .int v5), (6, .int v6)] → W p l e rm_K5_X11_canPlay s m args below meth c H locs 0 0 (MQ below (va_Qi post (rO D cy lay Γ) (rA cy lay Γ s.heap.size)) args s 0 0 (rA cy lay Γ s.heap.size)) (F0 m 35 ls [])) : ∀ (n : Nat), ∀ (σ : MS) (v5 : Int32) (v6 : Int32) (v7 : Int32) (v8 : Int32), u_K5_X11_canPlay_123 Γ post a1 a2 a3 a4 K35 n σ v5 v6 v7 v8 → ∀ (H : Heap) (locs : List Loc) (ls : Array Slot), rG D cy lay Γ tn σ (rA cy lay Γ s.heap.size) s.heap H locs → lv_has ls 9 [(0, .ref (lay 0)), (1, .int a1), (2, .int a2), (3, .int a3), (4, .int a4), (5, .int v5), (6, .int v6), (7, .int v7), (8, .int v8)] → W p l e rm_K5_X11_canPlay s m args below meth c H locs 0 0 (MQ below (va_Qi post (rO D cy lay Γ) (rA cy lay Γ s.heap.size)) args s 0 0 (rA cy lay Γ s.heap.size)) (F0 m 123 ls []) := by
  intro n
  induction n with
  | zero =>
    intro σ v5 v6 v7 v8 h
    exact h.elim
  | succ n ih =>
    intro σ v5 v6 v7 v8 h H locs ls G hl
    rw [u_K5_X11_canPlay_123] at h
    refine lv_iload hC.1 hC.2.1 dX11_canPlay_123 (lv_at hl 8 rfl) ?_
    refine lv_aload_n hC.1 hC.2.1 dX11_canPlay_125 rfl (lv_at hl 0 rfl) ?_
    refine rg_get hC hT G (by decide) r_mo k_X11 i_K5_X11_canPlay_X11 3 (by decide) (wm 1 rfl) rfl dX11_canPlay_126 ?_
    refine rg_i G (rg_runV (As := []) (rest := [.int v8]) hC hT G (c_lp_Jx4a65c_size_8abf5 l D cy lay Γ h _) (cwV 0 hC.2.2.2.2 gX11_canPlay_Jx4a65c_size_8abf5 rfl rfl rfl hdV_Jx4a65c_size_8abf5 ⟨Nat.le_of_ble_eq_true rfl, Nat.le_of_ble_eq_true rfl⟩) (rg_recv hT G (by decide) r_lp k_AL) rfl hl.1 rfl (Nat.le_of_ble_eq_true rfl) dX11_canPlay_129 ⟨Nat.le_of_ble_eq_true rfl, Nat.le_of_ble_eq_true rfl⟩) (fun r19 σ18 H locs h G => ?_)
    (try dsimp only at h)
    refine lv_icmp_ge (tgt := 204) hC.1 hC.2.1 dX11_canPlay_132 (by decide) (fun c20 => ?_) (fun c20 => ?_)
    · replace h := h.1 c20
      refine lv_iinc (v := v6 + 1) (lv' := [(6, .int (v6 + 1)), (0, .ref (lay 0)), (1, .int a1), (2, .int a2), (3, .int a3), (4, .int a4), (5, .int v5), (7, .int v7), (8, .int v8)]) hC.1 hC.2.1 dX11_canPlay_204 hl (k := 6) rfl rfl (by decide) rfl (fun ls hl => ?_)
      refine lv_goto (tgt := 35) hC.1 hC.2.1 dX11_canPlay_207 (by decide) ?_
      exact hK35 _ _ _ h _ _ _ G (lv_sub hl [1, 2, 3, 4, 5, 6, 0] rfl)
    · replace h := h.2 c20
      refine lv_iload hC.1 hC.2.1 dX11_canPlay_135 (lv_at hl 5 rfl) ?_
      refine lv_iconst (v := 2) hC.1 hC.2.1 dX11_canPlay_137 (by decide) ?_
      refine lv_icmp_ne (tgt := 204) hC.1 hC.2.1 dX11_canPlay_138 (by decide) (fun c21 => ?_) (fun c21 => ?_)
      · replace h := h.2 c21
        refine lv_iinc (v := v6 + 1) (lv' := [(6, .int (v6 + 1)), (0, .ref (lay 0)), (1, .int a1), (2, .int a2), (3, .int a3), (4, .int a4), (5, .int v5), (7, .int v7), (8, .int v8)]) hC.1 hC.2.1 dX11_canPlay_204 hl (k := 6) rfl rfl (by decide) rfl (fun ls hl => ?_)
        refine lv_goto (tgt := 35) hC.1 hC.2.1 dX11_canPlay_207 (by decide) ?_
        exact hK35 _ _ _ h _ _ _ G (lv_sub hl [1, 2, 3, 4, 5, 6, 0] rfl)
      · replace h := h.1 c21
        refine lv_iload_n hC.1 hC.2.1 dX11_canPlay_141 rfl (lv_at hl 1 rfl) ?_
        refine lv_iload hC.1 hC.2.1 dX11_canPlay_142 (lv_at hl 7 rfl) ?_
        refine lv_iconst (v := (-1)) hC.1 hC.2.1 dX11_canPlay_144 (by decide) ?_
        refine lv_ixor hC.1 hC.2.1 dX11_canPlay_145 ?_
        refine lv_iand hC.1 hC.2.1 dX11_canPlay_146 ?_
        refine lv_iload hC.1 hC.2.1 dX11_canPlay_147 (lv_at hl 8 rfl) ?_
        refine rg_i G (rg_runS (As := [.int (a1 &&& (v7 ^^^ (-1))), .int v8]) (rest := []) hC hT G (c_X11_isIn l D cy lay Γ h _) (va_cwS 2 hC.2.2.2.2 gX11_canPlay_X11_isIn rfl rfl rfl hdS_X11_isIn ⟨Nat.le_of_ble_eq_true rfl, Nat.le_of_ble_eq_true rfl⟩) rfl hl.1 rfl (Nat.le_of_ble_eq_true rfl) dX11_canPlay_149 ⟨Nat.le_of_ble_eq_true rfl, Nat.le_of_ble_eq_true rfl⟩) (fun r23 σ22 H locs h G => ?_)
        (try dsimp only at h)
        refine lv_if_eq (tgt := 198) hC.1 hC.2.1 dX11_canPlay_152 (by decide) (fun c24 => ?_) (fun c24 => ?_)
        · replace h := h.1 c24
          refine lv_iinc (v := v8 + 1) (lv' := [(8, .int (v8 + 1)), (0, .ref (lay 0)), (1, .int a1), (2, .int a2), (3, .int a3), (4, .int a4), (5, .int v5), (6, .int v6), (7, .int v7)]) hC.1 hC.2.1 dX11_canPlay_198 hl (k := 8) rfl rfl (by decide) rfl (fun ls hl => ?_)
          refine lv_goto (tgt := 123) hC.1 hC.2.1 dX11_canPlay_201 (by decide) ?_
          exact ih _ _ _ _ _ h _ _ _ G (lv_sub hl [1, 2, 3, 4, 5, 6, 7, 8, 0] rfl)
        · replace h := h.2 c24
          refine lv_aload_n hC.1 hC.2.1 dX11_canPlay_155 rfl (lv_at hl 0 rfl) ?_
          refine rg_get hC hT G (by decide) r_mo k_X11 i_K5_X11_canPlay_X11 3 (by decide) (wm 1 rfl) rfl dX11_canPlay_156 ?_
          refine lv_iload hC.1 hC.2.1 dX11_canPlay_159 (lv_at hl 8 rfl) ?_
          refine rg_r (f := fun i => lay (13 + i)) G (rg_runV (As := [.int v8]) (rest := []) hC hT G (c_lp_Jx4a65c_get_915e3 l D cy lay Γ h _) (cwV 1 hC.2.2.2.2 gX11_canPlay_Jx4a65c_get_915e3 rfl rfl rfl hdV_Jx4a65c_get_915e3 ⟨Nat.le_of_ble_eq_true rfl, Nat.le_of_ble_eq_true rfl⟩) (rg_recv hT G (by decide) r_lp k_AL) rfl hl.1 rfl (Nat.le_of_ble_eq_true rfl) dX11_canPlay_161 ⟨Nat.le_of_ble_eq_true rfl, Nat.le_of_ble_eq_true rfl⟩) (fun j26 σ25 H locs h G => ?_)
          (try dsimp only at h)
          obtain ⟨hj27, h⟩ := h
          refine rg_cast hC hT k_X9 (wm 2 rfl) (rg_recv hT G (rk_pl hj27) (r_pl hj27) k_X9) dX11_canPlay_164 ?_
          refine rg_getN hC hT G (rk_pl hj27) (r_pl hj27) k_X9 i_K5_X11_canPlay_X9 0 (by decide) 2 rfl rfl dX11_canPlay_167 ?_
          refine lv_iload_n hC.1 hC.2.1 dX11_canPlay_170 rfl (lv_at hl 3 rfl) ?_
          refine rg_i G (rg_runS (As := [.int (σ25 (13 + j26) 0), .int a3]) (rest := []) hC hT G (c_X11_isIn l D cy lay Γ h _) (va_cwS 2 hC.2.2.2.2 gX11_canPlay_X11_isIn rfl rfl rfl hdS_X11_isIn ⟨Nat.le_of_ble_eq_true rfl, Nat.le_of_ble_eq_true rfl⟩) rfl hl.1 rfl (Nat.le_of_ble_eq_true rfl) dX11_canPlay_171 ⟨Nat.le_of_ble_eq_true rfl, Nat.le_of_ble_eq_true rfl⟩) (fun r29 σ28 H locs h G => ?_)
          (try dsimp only at h)
          refine lv_if_eq (tgt := 198) hC.1 hC.2.1 dX11_canPlay_174 (by decide) (fun c30 => ?_) (fun c30 => ?_)
          · replace h := h.1 c30
            refine lv_iinc (v := v8 + 1) (lv' := [(8, .int (v8 + 1)), (0, .ref (lay 0)), (1, .int a1), (2, .int a2), (3, .int a3), (4, .int a4), (5, .int v5), (6, .int v6), (7, .int v7)]) hC.1 hC.2.1 dX11_canPlay_198 hl (k := 8) rfl rfl (by decide) rfl (fun ls hl => ?_)
            refine lv_goto (tgt := 123) hC.1 hC.2.1 dX11_canPlay_201 (by decide) ?_
            exact ih _ _ _ _ _ h _ _ _ G (lv_sub hl [1, 2, 3, 4, 5, 6, 7, 8, 0] rfl)
          · replace h := h.2 c30
            refine lv_aload_n hC.1 hC.2.1 dX11_canPlay_177 rfl (lv_at hl 0 rfl) ?_
            refine lv_iload_n hC.1 hC.2.1 dX11_canPlay_178 rfl (lv_at hl 1 rfl) ?_
            refine lv_iload_n hC.1 hC.2.1 dX11_canPlay_179 rfl (lv_at hl 2 rfl) ?_
            refine lv_iload_n hC.1 hC.2.1 dX11_canPlay_180 rfl (lv_at hl 3 rfl) ?_
            refine lv_iconst (v := 1) hC.1 hC.2.1 dX11_canPlay_181 (by decide) ?_
            refine lv_iadd hC.1 hC.2.1 dX11_canPlay_182 ?_
            refine lv_iload hC.1 hC.2.1 dX11_canPlay_183 (lv_at hl 7 rfl) ?_
            refine lv_iconst (v := 1) hC.1 hC.2.1 dX11_canPlay_185 (by decide) ?_
            refine lv_iload hC.1 hC.2.1 dX11_canPlay_186 (lv_at hl 8 rfl) ?_
            refine lv_ishl hC.1 hC.2.1 dX11_canPlay_188 ?_
            refine lv_ior hC.1 hC.2.1 dX11_canPlay_189 ?_
            refine rg_i G (rg_runV (As := [.int a1, .int a2, .int (a3 + 1), .int (v7 ||| (1 <<< (v8 &&& 31)))]) (rest := []) hC hT G (c_K6_X11_canPlay l D cy lay Γ h _) (cwV 4 hC.2.2.2.2 gX11_canPlay_X11_canPlay rfl rfl rfl hdV_X11_canPlay ⟨Nat.le_of_ble_eq_true rfl, Nat.le_of_ble_eq_true rfl⟩) (rg_recv hT G (by decide) r_mo k_X11) rfl hl.1 rfl (Nat.le_of_ble_eq_true rfl) dX11_canPlay_190 ⟨Nat.le_of_ble_eq_true rfl, Nat.le_of_ble_eq_true rfl⟩) (fun r32 σ31 H locs h G => ?_)
            (try dsimp only at h)
            refine lv_if_eq (tgt := 198) hC.1 hC.2.1 dX11_canPlay_193 (by decide) (fun c33 => ?_) (fun c33 => ?_)
            · replace h := h.1 c33
              refine lv_iinc (v := v8 + 1) (lv' := [(8, .int (v8 + 1)), (0, .ref (lay 0)), (1, .int a1), (2, .int a2), (3, .int a3), (4, .int a4), (5, .int v5), (6, .int v6), (7, .int v7)]) hC.1 hC.2.1 dX11_canPlay_198 hl (k := 8) rfl rfl (by decide) rfl (fun ls hl => ?_)
              refine lv_goto (tgt := 123) hC.1 hC.2.1 dX11_canPlay_201 (by decide) ?_
              exact ih _ _ _ _ _ h _ _ _ G (lv_sub hl [1, 2, 3, 4, 5, 6, 7, 8, 0] rfl)
            · replace h := h.2 c33
              refine lv_iconst (v := 1) hC.1 hC.2.1 dX11_canPlay_196 (by decide) ?_
              exact rg_zret hC hr hlocks G rfl h dX11_canPlay_197
def u_K5_X11_canPlay_35 (Γ : RG) (post : Int32 → MS → Prop) (a1 : Int32) (a2 : Int32) (a3 : Int32) (a4 : Int32) : Nat → MS → Int32 → Int32 → Prop
  | 0, _, _, _ => False
  | n + 1, σ, v5, v6 => w_lp_Jx4a65c_size_8abf5 Γ (fun r6 σ5 => ((r6 ≤ v6 → post 0 σ5) ∧ (¬ r6 ≤ v6 → w_X11_isIn Γ (fun r9 σ8 => ((r9 = 0 → u_K5_X11_canPlay_35 Γ post a1 a2 a3 a4 n σ8 v5 (v6 + 1)) ∧ (¬ r9 = 0 → w_lp_Jx4a65c_get_915e3 Γ (fun j12 σ11 => ((j12 < 10 ∧ j12 < Γ.1) ∧ w_X11_isIn Γ (fun r15 σ14 => ((r15 = 0 → u_K5_X11_canPlay_35 Γ post a1 a2 a3 a4 n σ14 v5 (v6 + 1)) ∧ (¬ r15 = 0 → ((v5 = 1 → w_K6_X11_canPlay Γ (fun r35 σ34 => ((r35 = 0 → (∃ k, u_K5_X11_canPlay_123 Γ post a1 a2 a3 a4 (fun σ w0 w1 => u_K5_X11_canPlay_35 Γ post a1 a2 a3 a4 n σ w0 w1) k σ34 v5 v6 (a4 ||| (1 <<< (v6 &&& 31))) (v6 + 1))) ∧ (¬ r35 = 0 → post 1 σ34))) σ14 a1 a2 (a3 + 1) (a4 ||| (1 <<< (v6 &&& 31)))) ∧ (¬ v5 = 1 → (∃ k, u_K5_X11_canPlay_123 Γ post a1 a2 a3 a4 (fun σ w0 w1 => u_K5_X11_canPlay_35 Γ post a1 a2 a3 a4 n σ w0 w1) k σ14 v5 v6 (a4 ||| (1 <<< (v6 &&& 31))) (v6 + 1))))))) σ11 (σ11 (13 + j12) 0) a3)) σ8 v6))) σ5 (a1 &&& (a4 ^^^ (-1))) v6))) σ
set_option maxHeartbeats 4000000 in
set_option maxRecDepth 100000 in
theorem l_K5_X11_canPlay_35 {p : Program} {l : Launch} {e : Env} {s : State} {m : MethodId} {args : Array Value} {below : List Frame} {meth : Method} {c : Code} {D : va_G} {cy : Nat → ClassId} {lay : Nat → Nat} {Γ : RG} {post : Int32 → MS → Prop} (a1 : Int32) (a2 : Int32) (a3 : Int32) (a4 : Int32) (hC : CallFix p m c cX11_canPlay 9 s args wsX11_canPlay RX11) (hr : meth.sig.returnType = some .boolean) (hlocks : meth.locks = false) (hT : rT D cy lay Γ s) : ∀ (n : Nat), ∀ (σ : MS) (v5 : Int32) (v6 : Int32), u_K5_X11_canPlay_35 Γ post a1 a2 a3 a4 n σ v5 v6 → ∀ (H : Heap) (locs : List Loc) (ls : Array Slot), rG D cy lay Γ tn σ (rA cy lay Γ s.heap.size) s.heap H locs → lv_has ls 9 [(0, .ref (lay 0)), (1, .int a1), (2, .int a2), (3, .int a3), (4, .int a4), (5, .int v5), (6, .int v6)] → W p l e rm_K5_X11_canPlay s m args below meth c H locs 0 0 (MQ below (va_Qi post (rO D cy lay Γ) (rA cy lay Γ s.heap.size)) args s 0 0 (rA cy lay Γ s.heap.size)) (F0 m 35 ls []) := by
  intro n
  induction n with
  | zero =>
    intro σ v5 v6 h
    exact h.elim
  | succ n ih =>
    intro σ v5 v6 h H locs ls G hl
    rw [u_K5_X11_canPlay_35] at h
    refine lv_iload hC.1 hC.2.1 dX11_canPlay_35 (lv_at hl 6 rfl) ?_
    refine lv_aload_n hC.1 hC.2.1 dX11_canPlay_37 rfl (lv_at hl 0 rfl) ?_
    refine rg_get hC hT G (by decide) r_mo k_X11 i_K5_X11_canPlay_X11 3 (by decide) (wm 1 rfl) rfl dX11_canPlay_38 ?_
    refine rg_i G (rg_runV (As := []) (rest := [.int v6]) hC hT G (c_lp_Jx4a65c_size_8abf5 l D cy lay Γ h _) (cwV 0 hC.2.2.2.2 gX11_canPlay_Jx4a65c_size_8abf5 rfl rfl rfl hdV_Jx4a65c_size_8abf5 ⟨Nat.le_of_ble_eq_true rfl, Nat.le_of_ble_eq_true rfl⟩) (rg_recv hT G (by decide) r_lp k_AL) rfl hl.1 rfl (Nat.le_of_ble_eq_true rfl) dX11_canPlay_41 ⟨Nat.le_of_ble_eq_true rfl, Nat.le_of_ble_eq_true rfl⟩) (fun r6 σ5 H locs h G => ?_)
    (try dsimp only at h)
    refine lv_icmp_ge (tgt := 210) hC.1 hC.2.1 dX11_canPlay_44 (by decide) (fun c7 => ?_) (fun c7 => ?_)
    · replace h := h.1 c7
      refine lv_iconst (v := 0) hC.1 hC.2.1 dX11_canPlay_210 (by decide) ?_
      exact rg_zret hC hr hlocks G rfl h dX11_canPlay_211
    · replace h := h.2 c7
      refine lv_iload_n hC.1 hC.2.1 dX11_canPlay_47 rfl (lv_at hl 1 rfl) ?_
      refine lv_iload hC.1 hC.2.1 dX11_canPlay_48 (lv_at hl 4 rfl) ?_
      refine lv_iconst (v := (-1)) hC.1 hC.2.1 dX11_canPlay_50 (by decide) ?_
      refine lv_ixor hC.1 hC.2.1 dX11_canPlay_51 ?_
      refine lv_iand hC.1 hC.2.1 dX11_canPlay_52 ?_
      refine lv_iload hC.1 hC.2.1 dX11_canPlay_53 (lv_at hl 6 rfl) ?_
      refine rg_i G (rg_runS (As := [.int (a1 &&& (a4 ^^^ (-1))), .int v6]) (rest := []) hC hT G (c_X11_isIn l D cy lay Γ h _) (va_cwS 2 hC.2.2.2.2 gX11_canPlay_X11_isIn rfl rfl rfl hdS_X11_isIn ⟨Nat.le_of_ble_eq_true rfl, Nat.le_of_ble_eq_true rfl⟩) rfl hl.1 rfl (Nat.le_of_ble_eq_true rfl) dX11_canPlay_55 ⟨Nat.le_of_ble_eq_true rfl, Nat.le_of_ble_eq_true rfl⟩) (fun r9 σ8 H locs h G => ?_)
      (try dsimp only at h)
      refine lv_if_eq (tgt := 204) hC.1 hC.2.1 dX11_canPlay_58 (by decide) (fun c10 => ?_) (fun c10 => ?_)
      · replace h := h.1 c10
        refine lv_iinc (v := v6 + 1) (lv' := [(6, .int (v6 + 1)), (0, .ref (lay 0)), (1, .int a1), (2, .int a2), (3, .int a3), (4, .int a4), (5, .int v5)]) hC.1 hC.2.1 dX11_canPlay_204 hl (k := 6) rfl rfl (by decide) rfl (fun ls hl => ?_)
        refine lv_goto (tgt := 35) hC.1 hC.2.1 dX11_canPlay_207 (by decide) ?_
        exact ih _ _ _ h _ _ _ G (lv_sub hl [1, 2, 3, 4, 5, 6, 0] rfl)
      · replace h := h.2 c10
        refine lv_aload_n hC.1 hC.2.1 dX11_canPlay_61 rfl (lv_at hl 0 rfl) ?_
        refine rg_get hC hT G (by decide) r_mo k_X11 i_K5_X11_canPlay_X11 3 (by decide) (wm 1 rfl) rfl dX11_canPlay_62 ?_
        refine lv_iload hC.1 hC.2.1 dX11_canPlay_65 (lv_at hl 6 rfl) ?_
        refine rg_r (f := fun i => lay (13 + i)) G (rg_runV (As := [.int v6]) (rest := []) hC hT G (c_lp_Jx4a65c_get_915e3 l D cy lay Γ h _) (cwV 1 hC.2.2.2.2 gX11_canPlay_Jx4a65c_get_915e3 rfl rfl rfl hdV_Jx4a65c_get_915e3 ⟨Nat.le_of_ble_eq_true rfl, Nat.le_of_ble_eq_true rfl⟩) (rg_recv hT G (by decide) r_lp k_AL) rfl hl.1 rfl (Nat.le_of_ble_eq_true rfl) dX11_canPlay_67 ⟨Nat.le_of_ble_eq_true rfl, Nat.le_of_ble_eq_true rfl⟩) (fun j12 σ11 H locs h G => ?_)
        (try dsimp only at h)
        obtain ⟨hj13, h⟩ := h
        refine rg_cast hC hT k_X9 (wm 2 rfl) (rg_recv hT G (rk_pl hj13) (r_pl hj13) k_X9) dX11_canPlay_70 ?_
        refine rg_getN hC hT G (rk_pl hj13) (r_pl hj13) k_X9 i_K5_X11_canPlay_X9 0 (by decide) 2 rfl rfl dX11_canPlay_73 ?_
        refine lv_iload_n hC.1 hC.2.1 dX11_canPlay_76 rfl (lv_at hl 3 rfl) ?_
        refine rg_i G (rg_runS (As := [.int (σ11 (13 + j12) 0), .int a3]) (rest := []) hC hT G (c_X11_isIn l D cy lay Γ h _) (va_cwS 2 hC.2.2.2.2 gX11_canPlay_X11_isIn rfl rfl rfl hdS_X11_isIn ⟨Nat.le_of_ble_eq_true rfl, Nat.le_of_ble_eq_true rfl⟩) rfl hl.1 rfl (Nat.le_of_ble_eq_true rfl) dX11_canPlay_77 ⟨Nat.le_of_ble_eq_true rfl, Nat.le_of_ble_eq_true rfl⟩) (fun r15 σ14 H locs h G => ?_)
        (try dsimp only at h)
        refine lv_if_ne (tgt := 86) hC.1 hC.2.1 dX11_canPlay_80 (by decide) (fun c16 => ?_) (fun c16 => ?_)
        · replace h := h.2 c16
          refine lv_iload hC.1 hC.2.1 dX11_canPlay_86 (lv_at hl 4 rfl) ?_
          refine lv_iconst (v := 1) hC.1 hC.2.1 dX11_canPlay_88 (by decide) ?_
          refine lv_iload hC.1 hC.2.1 dX11_canPlay_89 (lv_at hl 6 rfl) ?_
          refine lv_ishl hC.1 hC.2.1 dX11_canPlay_91 ?_
          refine lv_ior hC.1 hC.2.1 dX11_canPlay_92 ?_
          refine lv_istore (lv' := [(7, .int (a4 ||| (1 <<< (v6 &&& 31)))), (0, .ref (lay 0)), (1, .int a1), (2, .int a2), (3, .int a3), (4, .int a4), (5, .int v5), (6, .int v6)]) hC.1 hC.2.1 dX11_canPlay_93 hl (by decide) rfl (fun ls hl => ?_)
          refine lv_iload hC.1 hC.2.1 dX11_canPlay_95 (lv_at hl 6 rfl) ?_
          refine lv_iconst (v := 1) hC.1 hC.2.1 dX11_canPlay_97 (by decide) ?_
          refine lv_icmp_ne (tgt := 117) hC.1 hC.2.1 dX11_canPlay_98 (by decide) (fun c17 => ?_) (fun c17 => ?_)
          · replace h := h.2 c17
            refine lv_iload hC.1 hC.2.1 dX11_canPlay_117 (lv_at hl 7 rfl) ?_
            refine lv_iconst (v := 1) hC.1 hC.2.1 dX11_canPlay_119 (by decide) ?_
            refine lv_iadd hC.1 hC.2.1 dX11_canPlay_120 ?_
            refine lv_istore (lv' := [(8, .int (v6 + 1)), (7, .int (a4 ||| (1 <<< (v6 &&& 31)))), (0, .ref (lay 0)), (1, .int a1), (2, .int a2), (3, .int a3), (4, .int a4), (5, .int v5), (6, .int v6)]) hC.1 hC.2.1 dX11_canPlay_121 hl (by decide) rfl (fun ls hl => ?_)
            obtain ⟨n1, h⟩ := h
            exact l_K5_X11_canPlay_123 a1 a2 a3 a4 (fun σ w0 w1 => u_K5_X11_canPlay_35 Γ post a1 a2 a3 a4 n σ w0 w1) hC hr hlocks hT ih n1 _ _ _ _ _ h _ _ _ G (lv_sub hl [2, 3, 4, 5, 6, 7, 8, 1, 0] rfl)
          · replace h := h.1 c17
            refine lv_aload_n hC.1 hC.2.1 dX11_canPlay_101 rfl (lv_at hl 1 rfl) ?_
            refine lv_iload_n hC.1 hC.2.1 dX11_canPlay_102 rfl (lv_at hl 2 rfl) ?_
            refine lv_iload_n hC.1 hC.2.1 dX11_canPlay_103 rfl (lv_at hl 3 rfl) ?_
            refine lv_iload_n hC.1 hC.2.1 dX11_canPlay_104 rfl (lv_at hl 4 rfl) ?_
            refine lv_iconst (v := 1) hC.1 hC.2.1 dX11_canPlay_105 (by decide) ?_
            refine lv_iadd hC.1 hC.2.1 dX11_canPlay_106 ?_
            refine lv_iload hC.1 hC.2.1 dX11_canPlay_107 (lv_at hl 0 rfl) ?_
            refine rg_i G (rg_runV (As := [.int a1, .int a2, .int (a3 + 1), .int (a4 ||| (1 <<< (v6 &&& 31)))]) (rest := []) hC hT G (c_K6_X11_canPlay l D cy lay Γ h _) (cwV 4 hC.2.2.2.2 gX11_canPlay_X11_canPlay rfl rfl rfl hdV_X11_canPlay ⟨Nat.le_of_ble_eq_true rfl, Nat.le_of_ble_eq_true rfl⟩) (rg_recv hT G (by decide) r_mo k_X11) rfl hl.1 rfl (Nat.le_of_ble_eq_true rfl) dX11_canPlay_109 ⟨Nat.le_of_ble_eq_true rfl, Nat.le_of_ble_eq_true rfl⟩) (fun r35 σ34 H locs h G => ?_)
            (try dsimp only at h)
            refine lv_if_eq (tgt := 117) hC.1 hC.2.1 dX11_canPlay_112 (by decide) (fun c36 => ?_) (fun c36 => ?_)
            · replace h := h.1 c36
              refine lv_iload hC.1 hC.2.1 dX11_canPlay_117 (lv_at hl 7 rfl) ?_
              refine lv_iconst (v := 1) hC.1 hC.2.1 dX11_canPlay_119 (by decide) ?_
              refine lv_iadd hC.1 hC.2.1 dX11_canPlay_120 ?_
              refine lv_istore (lv' := [(8, .int (v6 + 1)), (7, .int (a4 ||| (1 <<< (v6 &&& 31)))), (0, .ref (lay 0)), (1, .int a1), (2, .int a2), (3, .int a3), (4, .int a4), (5, .int v5), (6, .int v6)]) hC.1 hC.2.1 dX11_canPlay_121 hl (by decide) rfl (fun ls hl => ?_)
              obtain ⟨n1, h⟩ := h
              exact l_K5_X11_canPlay_123 a1 a2 a3 a4 (fun σ w0 w1 => u_K5_X11_canPlay_35 Γ post a1 a2 a3 a4 n σ w0 w1) hC hr hlocks hT ih n1 _ _ _ _ _ h _ _ _ G (lv_sub hl [2, 3, 4, 5, 6, 7, 8, 1, 0] rfl)
            · replace h := h.2 c36
              refine lv_iconst (v := 1) hC.1 hC.2.1 dX11_canPlay_115 (by decide) ?_
              exact rg_zret hC hr hlocks G rfl h dX11_canPlay_116
        · replace h := h.1 c16
          refine lv_goto (tgt := 204) hC.1 hC.2.1 dX11_canPlay_83 (by decide) ?_
          refine lv_iinc (v := v6 + 1) (lv' := [(6, .int (v6 + 1)), (0, .ref (lay 0)), (1, .int a1), (2, .int a2), (3, .int a3), (4, .int a4), (5, .int v5)]) hC.1 hC.2.1 dX11_canPlay_204 hl (k := 6) rfl rfl (by decide) rfl (fun ls hl => ?_)
          refine lv_goto (tgt := 35) hC.1 hC.2.1 dX11_canPlay_207 (by decide) ?_
          exact ih _ _ _ h _ _ _ G (lv_sub hl [1, 2, 3, 4, 5, 6, 0] rfl)
def w_K5_X11_canPlay (Γ : RG) (post : Int32 → MS → Prop) (σ : MS) (a1 : Int32) (a2 : Int32) (a3 : Int32) (a4 : Int32) : Prop := ((a3 = 6 → post 1 σ) ∧ (¬ a3 = 6 → w_X11_needed Γ (fun r3 σ2 => ((r3 = 0 → w_K6_X11_canPlay Γ (fun r38 σ37 => (narrow .boolean (.int r38) = .int r38 ∧ post r38 σ37)) σ2 a1 a2 (a3 + 1) a4) ∧ (¬ r3 = 0 → (∃ k, u_K5_X11_canPlay_35 Γ post a1 a2 a3 a4 k σ2 r3 0)))) σ a2 a3))
set_option maxHeartbeats 4000000 in
set_option maxRecDepth 100000 in
theorem c_K5_X11_canPlay (l : Launch) (D : va_G) (cy : Nat → ClassId) (lay : Nat → Nat) (Γ : RG) {σ : MS} {post : Int32 → MS → Prop} {a1 : Int32} {a2 : Int32} {a3 : Int32} {a4 : Int32} (h : w_K5_X11_canPlay Γ post σ a1 a2 a3 a4) (sz : Nat) : Met l yX11_canPlay wsX11_canPlay rm_K5_X11_canPlay (va_Pc [.ref (lay 0), .int a1, .int a2, .int a3, .int a4] (rI D cy lay Γ σ sz)) (va_Qi post (rO D cy lay Γ) (rA cy lay Γ sz)) 0 0 (rA cy lay Γ sz) := by
  refine rg_ofW (cc := cX11_canPlay) (maxL := 9) (ret := some .boolean) (own := RX11) (Qc := fun sz => va_Qi post (rO D cy lay Γ) (rA cy lay Γ sz)) (by decide) rfl (Nat.le_of_ble_eq_true rfl) rfl ?_
  intro p e s m args below meth c ls hC hr hlocks hT G hl
  unfold w_K5_X11_canPlay at h
  have hl : lv_has ls 9 [(0, .ref (lay 0)), (1, .int a1), (2, .int a2), (3, .int a3), (4, .int a4)] := hl
  refine lv_iload_n hC.1 hC.2.1 dX11_canPlay_0 rfl (lv_at hl 3 rfl) ?_
  refine lv_bipush (v := 6) hC.1 hC.2.1 dX11_canPlay_1 (by decide) ?_
  refine lv_icmp_ne (tgt := 8) hC.1 hC.2.1 dX11_canPlay_3 (by decide) (fun c1 => ?_) (fun c1 => ?_)
  · replace h := h.2 c1
    refine lv_iload_n hC.1 hC.2.1 dX11_canPlay_8 rfl (lv_at hl 2 rfl) ?_
    refine lv_iload_n hC.1 hC.2.1 dX11_canPlay_9 rfl (lv_at hl 3 rfl) ?_
    refine rg_i G (rg_runS (As := [.int a2, .int a3]) (rest := []) hC hT G (c_X11_needed l D cy lay Γ h _) (va_cwS 2 hC.2.2.2.2 gX11_canPlay_X11_needed rfl rfl rfl hdS_X11_needed ⟨Nat.le_of_ble_eq_true rfl, Nat.le_of_ble_eq_true rfl⟩) rfl hl.1 rfl (Nat.le_of_ble_eq_true rfl) dX11_canPlay_10 ⟨Nat.le_of_ble_eq_true rfl, Nat.le_of_ble_eq_true rfl⟩) (fun r3 σ2 H locs h G => ?_)
    (try dsimp only at h)
    refine lv_istore (lv' := [(5, .int r3), (0, .ref (lay 0)), (1, .int a1), (2, .int a2), (3, .int a3), (4, .int a4)]) hC.1 hC.2.1 dX11_canPlay_13 hl (by decide) rfl (fun ls hl => ?_)
    refine lv_iload hC.1 hC.2.1 dX11_canPlay_15 (lv_at hl 0 rfl) ?_
    refine lv_if_ne (tgt := 32) hC.1 hC.2.1 dX11_canPlay_17 (by decide) (fun c4 => ?_) (fun c4 => ?_)
    · replace h := h.2 c4
      refine lv_iconst (v := 0) hC.1 hC.2.1 dX11_canPlay_32 (by decide) ?_
      refine lv_istore (lv' := [(6, .int 0), (5, .int r3), (0, .ref (lay 0)), (1, .int a1), (2, .int a2), (3, .int a3), (4, .int a4)]) hC.1 hC.2.1 dX11_canPlay_33 hl (by decide) rfl (fun ls hl => ?_)
      obtain ⟨n1, h⟩ := h
      exact l_K5_X11_canPlay_35 a1 a2 a3 a4 hC hr hlocks hT n1 _ _ _ h _ _ _ G (lv_sub hl [2, 3, 4, 5, 6, 1, 0] rfl)
    · replace h := h.1 c4
      refine lv_aload_n hC.1 hC.2.1 dX11_canPlay_20 rfl (lv_at hl 1 rfl) ?_
      refine lv_iload_n hC.1 hC.2.1 dX11_canPlay_21 rfl (lv_at hl 2 rfl) ?_
      refine lv_iload_n hC.1 hC.2.1 dX11_canPlay_22 rfl (lv_at hl 3 rfl) ?_
      refine lv_iload_n hC.1 hC.2.1 dX11_canPlay_23 rfl (lv_at hl 4 rfl) ?_
      refine lv_iconst (v := 1) hC.1 hC.2.1 dX11_canPlay_24 (by decide) ?_
      refine lv_iadd hC.1 hC.2.1 dX11_canPlay_25 ?_
      refine lv_iload hC.1 hC.2.1 dX11_canPlay_26 (lv_at hl 5 rfl) ?_
      refine rg_i G (rg_runV (As := [.int a1, .int a2, .int (a3 + 1), .int a4]) (rest := []) hC hT G (c_K6_X11_canPlay l D cy lay Γ h _) (cwV 4 hC.2.2.2.2 gX11_canPlay_X11_canPlay rfl rfl rfl hdV_X11_canPlay ⟨Nat.le_of_ble_eq_true rfl, Nat.le_of_ble_eq_true rfl⟩) (rg_recv hT G (by decide) r_mo k_X11) rfl hl.1 rfl (Nat.le_of_ble_eq_true rfl) dX11_canPlay_28 ⟨Nat.le_of_ble_eq_true rfl, Nat.le_of_ble_eq_true rfl⟩) (fun r38 σ37 H locs h G => ?_)
      (try dsimp only at h)
      exact rg_zret hC hr hlocks G h.1 h.2 dX11_canPlay_31
  · replace h := h.1 c1
    refine lv_iconst (v := 1) hC.1 hC.2.1 dX11_canPlay_6 (by decide) ?_
    exact rg_zret hC hr hlocks G rfl h dX11_canPlay_7
abbrev rm_K4_X11_canPlay : Room := { frames := 5, cells := 0, slots := 0, locals := 120 }
theorem i_K4_X11_canPlay_X11 : ∀ w ∈ wsX110, w ∈ wsX11_canPlay := fun _ h => List.mem_cons_of_mem _ (List.mem_append_left _ (List.mem_append_left _ (List.mem_append_right _ h)))
theorem i_K4_X11_canPlay_X9 : ∀ w ∈ wsX90, w ∈ wsX11_canPlay := fun _ h => List.mem_cons_of_mem _ (List.mem_append_left _ (List.mem_append_right _ h))
def u_K4_X11_canPlay_123 (Γ : RG) (post : Int32 → MS → Prop) (a1 : Int32) (a2 : Int32) (a3 : Int32) (a4 : Int32) (K35 : MS → Int32 → Int32 → Prop) : Nat → MS → Int32 → Int32 → Int32 → Int32 → Prop
  | 0, _, _, _, _, _ => False
  | n + 1, σ, v5, v6, v7, v8 => w_lp_Jx4a65c_size_8abf5 Γ (fun r19 σ18 => ((r19 ≤ v8 → K35 σ18 v5 (v6 + 1)) ∧ (¬ r19 ≤ v8 → ((v5 = 2 → w_X11_isIn Γ (fun r23 σ22 => ((r23 = 0 → u_K4_X11_canPlay_123 Γ post a1 a2 a3 a4 K35 n σ22 v5 v6 v7 (v8 + 1)) ∧ (¬ r23 = 0 → w_lp_Jx4a65c_get_915e3 Γ (fun j26 σ25 => ((j26 < 10 ∧ j26 < Γ.1) ∧ w_X11_isIn Γ (fun r29 σ28 => ((r29 = 0 → u_K4_X11_canPlay_123 Γ post a1 a2 a3 a4 K35 n σ28 v5 v6 v7 (v8 + 1)) ∧ (¬ r29 = 0 → w_K5_X11_canPlay Γ (fun r32 σ31 => ((r32 = 0 → u_K4_X11_canPlay_123 Γ post a1 a2 a3 a4 K35 n σ31 v5 v6 v7 (v8 + 1)) ∧ (¬ r32 = 0 → post 1 σ31))) σ28 a1 a2 (a3 + 1) (v7 ||| (1 <<< (v8 &&& 31)))))) σ25 (σ25 (13 + j26) 0) a3)) σ22 v8))) σ18 (a1 &&& (v7 ^^^ (-1))) v8) ∧ (¬ v5 = 2 → K35 σ18 v5 (v6 + 1)))))) σ
set_option maxHeartbeats 4000000 in
set_option maxRecDepth 100000 in
theorem l_K4_X11_canPlay_123 {p : Program} {l : Launch} {e : Env} {s : State} {m : MethodId} {args : Array Value} {below : List Frame} {meth : Method} {c : Code} {D : va_G} {cy : Nat → ClassId} {lay : Nat → Nat} {Γ : RG} {post : Int32 → MS → Prop} (a1 : Int32) (a2 : Int32) (a3 : Int32) (a4 : Int32) (K35 : MS → Int32 → Int32 → Prop) (hC : CallFix p m c cX11_canPlay 9 s args wsX11_canPlay RX11) (hr : meth.sig.returnType = some .boolean) (hlocks : meth.locks = false) (hT : rT D cy lay Γ s) (hK35 : ∀ (σ : MS) (v5 : Int32) (v6 : Int32), K35 σ v5 v6 → ∀ (H : Heap) (locs : List Loc) (ls : Array Slot), rG D cy lay Γ tn σ (rA cy lay Γ s.heap.size) s.heap H locs → lv_has ls 9 [(0, .ref (lay 0)), (1, .int a1), (2, .int a2), (3, .int a3), (4, .int a4), (5, .int v5), (6, .int v6)] → W p l e rm_K4_X11_canPlay s m args below meth c H locs 0 0 (MQ below (va_Qi post (rO D cy lay Γ) (rA cy lay Γ s.heap.size)) args s 0 0 (rA cy lay Γ s.heap.size)) (F0 m 35 ls [])) : ∀ (n : Nat), ∀ (σ : MS) (v5 : Int32) (v6 : Int32) (v7 : Int32) (v8 : Int32), u_K4_X11_canPlay_123 Γ post a1 a2 a3 a4 K35 n σ v5 v6 v7 v8 → ∀ (H : Heap) (locs : List Loc) (ls : Array Slot), rG D cy lay Γ tn σ (rA cy lay Γ s.heap.size) s.heap H locs → lv_has ls 9 [(0, .ref (lay 0)), (1, .int a1), (2, .int a2), (3, .int a3), (4, .int a4), (5, .int v5), (6, .int v6), (7, .int v7), (8, .int v8)] → W p l e rm_K4_X11_canPlay s m args below meth c H locs 0 0 (MQ below (va_Qi post (rO D cy lay Γ) (rA cy lay Γ s.heap.size)) args s 0 0 (rA cy lay Γ s.heap.size)) (F0 m 123 ls []) := by
  intro n
  induction n with
  | zero =>
    intro σ v5 v6 v7 v8 h
    exact h.elim
  | succ n ih =>
    intro σ v5 v6 v7 v8 h H locs ls G hl
    rw [u_K4_X11_canPlay_123] at h
    refine lv_iload hC.1 hC.2.1 dX11_canPlay_123 (lv_at hl 8 rfl) ?_
    refine lv_aload_n hC.1 hC.2.1 dX11_canPlay_125 rfl (lv_at hl 0 rfl) ?_
    refine rg_get hC hT G (by decide) r_mo k_X11 i_K4_X11_canPlay_X11 3 (by decide) (wm 1 rfl) rfl dX11_canPlay_126 ?_
    refine rg_i G (rg_runV (As := []) (rest := [.int v8]) hC hT G (c_lp_Jx4a65c_size_8abf5 l D cy lay Γ h _) (cwV 0 hC.2.2.2.2 gX11_canPlay_Jx4a65c_size_8abf5 rfl rfl rfl hdV_Jx4a65c_size_8abf5 ⟨Nat.le_of_ble_eq_true rfl, Nat.le_of_ble_eq_true rfl⟩) (rg_recv hT G (by decide) r_lp k_AL) rfl hl.1 rfl (Nat.le_of_ble_eq_true rfl) dX11_canPlay_129 ⟨Nat.le_of_ble_eq_true rfl, Nat.le_of_ble_eq_true rfl⟩) (fun r19 σ18 H locs h G => ?_)
    (try dsimp only at h)
    refine lv_icmp_ge (tgt := 204) hC.1 hC.2.1 dX11_canPlay_132 (by decide) (fun c20 => ?_) (fun c20 => ?_)
    · replace h := h.1 c20
      refine lv_iinc (v := v6 + 1) (lv' := [(6, .int (v6 + 1)), (0, .ref (lay 0)), (1, .int a1), (2, .int a2), (3, .int a3), (4, .int a4), (5, .int v5), (7, .int v7), (8, .int v8)]) hC.1 hC.2.1 dX11_canPlay_204 hl (k := 6) rfl rfl (by decide) rfl (fun ls hl => ?_)
      refine lv_goto (tgt := 35) hC.1 hC.2.1 dX11_canPlay_207 (by decide) ?_
      exact hK35 _ _ _ h _ _ _ G (lv_sub hl [1, 2, 3, 4, 5, 6, 0] rfl)
    · replace h := h.2 c20
      refine lv_iload hC.1 hC.2.1 dX11_canPlay_135 (lv_at hl 5 rfl) ?_
      refine lv_iconst (v := 2) hC.1 hC.2.1 dX11_canPlay_137 (by decide) ?_
      refine lv_icmp_ne (tgt := 204) hC.1 hC.2.1 dX11_canPlay_138 (by decide) (fun c21 => ?_) (fun c21 => ?_)
      · replace h := h.2 c21
        refine lv_iinc (v := v6 + 1) (lv' := [(6, .int (v6 + 1)), (0, .ref (lay 0)), (1, .int a1), (2, .int a2), (3, .int a3), (4, .int a4), (5, .int v5), (7, .int v7), (8, .int v8)]) hC.1 hC.2.1 dX11_canPlay_204 hl (k := 6) rfl rfl (by decide) rfl (fun ls hl => ?_)
        refine lv_goto (tgt := 35) hC.1 hC.2.1 dX11_canPlay_207 (by decide) ?_
        exact hK35 _ _ _ h _ _ _ G (lv_sub hl [1, 2, 3, 4, 5, 6, 0] rfl)
      · replace h := h.1 c21
        refine lv_iload_n hC.1 hC.2.1 dX11_canPlay_141 rfl (lv_at hl 1 rfl) ?_
        refine lv_iload hC.1 hC.2.1 dX11_canPlay_142 (lv_at hl 7 rfl) ?_
        refine lv_iconst (v := (-1)) hC.1 hC.2.1 dX11_canPlay_144 (by decide) ?_
        refine lv_ixor hC.1 hC.2.1 dX11_canPlay_145 ?_
        refine lv_iand hC.1 hC.2.1 dX11_canPlay_146 ?_
        refine lv_iload hC.1 hC.2.1 dX11_canPlay_147 (lv_at hl 8 rfl) ?_
        refine rg_i G (rg_runS (As := [.int (a1 &&& (v7 ^^^ (-1))), .int v8]) (rest := []) hC hT G (c_X11_isIn l D cy lay Γ h _) (va_cwS 2 hC.2.2.2.2 gX11_canPlay_X11_isIn rfl rfl rfl hdS_X11_isIn ⟨Nat.le_of_ble_eq_true rfl, Nat.le_of_ble_eq_true rfl⟩) rfl hl.1 rfl (Nat.le_of_ble_eq_true rfl) dX11_canPlay_149 ⟨Nat.le_of_ble_eq_true rfl, Nat.le_of_ble_eq_true rfl⟩) (fun r23 σ22 H locs h G => ?_)
        (try dsimp only at h)
        refine lv_if_eq (tgt := 198) hC.1 hC.2.1 dX11_canPlay_152 (by decide) (fun c24 => ?_) (fun c24 => ?_)
        · replace h := h.1 c24
          refine lv_iinc (v := v8 + 1) (lv' := [(8, .int (v8 + 1)), (0, .ref (lay 0)), (1, .int a1), (2, .int a2), (3, .int a3), (4, .int a4), (5, .int v5), (6, .int v6), (7, .int v7)]) hC.1 hC.2.1 dX11_canPlay_198 hl (k := 8) rfl rfl (by decide) rfl (fun ls hl => ?_)
          refine lv_goto (tgt := 123) hC.1 hC.2.1 dX11_canPlay_201 (by decide) ?_
          exact ih _ _ _ _ _ h _ _ _ G (lv_sub hl [1, 2, 3, 4, 5, 6, 7, 8, 0] rfl)
        · replace h := h.2 c24
          refine lv_aload_n hC.1 hC.2.1 dX11_canPlay_155 rfl (lv_at hl 0 rfl) ?_
          refine rg_get hC hT G (by decide) r_mo k_X11 i_K4_X11_canPlay_X11 3 (by decide) (wm 1 rfl) rfl dX11_canPlay_156 ?_
          refine lv_iload hC.1 hC.2.1 dX11_canPlay_159 (lv_at hl 8 rfl) ?_
          refine rg_r (f := fun i => lay (13 + i)) G (rg_runV (As := [.int v8]) (rest := []) hC hT G (c_lp_Jx4a65c_get_915e3 l D cy lay Γ h _) (cwV 1 hC.2.2.2.2 gX11_canPlay_Jx4a65c_get_915e3 rfl rfl rfl hdV_Jx4a65c_get_915e3 ⟨Nat.le_of_ble_eq_true rfl, Nat.le_of_ble_eq_true rfl⟩) (rg_recv hT G (by decide) r_lp k_AL) rfl hl.1 rfl (Nat.le_of_ble_eq_true rfl) dX11_canPlay_161 ⟨Nat.le_of_ble_eq_true rfl, Nat.le_of_ble_eq_true rfl⟩) (fun j26 σ25 H locs h G => ?_)
          (try dsimp only at h)
          obtain ⟨hj27, h⟩ := h
          refine rg_cast hC hT k_X9 (wm 2 rfl) (rg_recv hT G (rk_pl hj27) (r_pl hj27) k_X9) dX11_canPlay_164 ?_
          refine rg_getN hC hT G (rk_pl hj27) (r_pl hj27) k_X9 i_K4_X11_canPlay_X9 0 (by decide) 2 rfl rfl dX11_canPlay_167 ?_
          refine lv_iload_n hC.1 hC.2.1 dX11_canPlay_170 rfl (lv_at hl 3 rfl) ?_
          refine rg_i G (rg_runS (As := [.int (σ25 (13 + j26) 0), .int a3]) (rest := []) hC hT G (c_X11_isIn l D cy lay Γ h _) (va_cwS 2 hC.2.2.2.2 gX11_canPlay_X11_isIn rfl rfl rfl hdS_X11_isIn ⟨Nat.le_of_ble_eq_true rfl, Nat.le_of_ble_eq_true rfl⟩) rfl hl.1 rfl (Nat.le_of_ble_eq_true rfl) dX11_canPlay_171 ⟨Nat.le_of_ble_eq_true rfl, Nat.le_of_ble_eq_true rfl⟩) (fun r29 σ28 H locs h G => ?_)
          (try dsimp only at h)
          refine lv_if_eq (tgt := 198) hC.1 hC.2.1 dX11_canPlay_174 (by decide) (fun c30 => ?_) (fun c30 => ?_)
          · replace h := h.1 c30
            refine lv_iinc (v := v8 + 1) (lv' := [(8, .int (v8 + 1)), (0, .ref (lay 0)), (1, .int a1), (2, .int a2), (3, .int a3), (4, .int a4), (5, .int v5), (6, .int v6), (7, .int v7)]) hC.1 hC.2.1 dX11_canPlay_198 hl (k := 8) rfl rfl (by decide) rfl (fun ls hl => ?_)
            refine lv_goto (tgt := 123) hC.1 hC.2.1 dX11_canPlay_201 (by decide) ?_
            exact ih _ _ _ _ _ h _ _ _ G (lv_sub hl [1, 2, 3, 4, 5, 6, 7, 8, 0] rfl)
          · replace h := h.2 c30
            refine lv_aload_n hC.1 hC.2.1 dX11_canPlay_177 rfl (lv_at hl 0 rfl) ?_
            refine lv_iload_n hC.1 hC.2.1 dX11_canPlay_178 rfl (lv_at hl 1 rfl) ?_
            refine lv_iload_n hC.1 hC.2.1 dX11_canPlay_179 rfl (lv_at hl 2 rfl) ?_
            refine lv_iload_n hC.1 hC.2.1 dX11_canPlay_180 rfl (lv_at hl 3 rfl) ?_
            refine lv_iconst (v := 1) hC.1 hC.2.1 dX11_canPlay_181 (by decide) ?_
            refine lv_iadd hC.1 hC.2.1 dX11_canPlay_182 ?_
            refine lv_iload hC.1 hC.2.1 dX11_canPlay_183 (lv_at hl 7 rfl) ?_
            refine lv_iconst (v := 1) hC.1 hC.2.1 dX11_canPlay_185 (by decide) ?_
            refine lv_iload hC.1 hC.2.1 dX11_canPlay_186 (lv_at hl 8 rfl) ?_
            refine lv_ishl hC.1 hC.2.1 dX11_canPlay_188 ?_
            refine lv_ior hC.1 hC.2.1 dX11_canPlay_189 ?_
            refine rg_i G (rg_runV (As := [.int a1, .int a2, .int (a3 + 1), .int (v7 ||| (1 <<< (v8 &&& 31)))]) (rest := []) hC hT G (c_K5_X11_canPlay l D cy lay Γ h _) (cwV 4 hC.2.2.2.2 gX11_canPlay_X11_canPlay rfl rfl rfl hdV_X11_canPlay ⟨Nat.le_of_ble_eq_true rfl, Nat.le_of_ble_eq_true rfl⟩) (rg_recv hT G (by decide) r_mo k_X11) rfl hl.1 rfl (Nat.le_of_ble_eq_true rfl) dX11_canPlay_190 ⟨Nat.le_of_ble_eq_true rfl, Nat.le_of_ble_eq_true rfl⟩) (fun r32 σ31 H locs h G => ?_)
            (try dsimp only at h)
            refine lv_if_eq (tgt := 198) hC.1 hC.2.1 dX11_canPlay_193 (by decide) (fun c33 => ?_) (fun c33 => ?_)
            · replace h := h.1 c33
              refine lv_iinc (v := v8 + 1) (lv' := [(8, .int (v8 + 1)), (0, .ref (lay 0)), (1, .int a1), (2, .int a2), (3, .int a3), (4, .int a4), (5, .int v5), (6, .int v6), (7, .int v7)]) hC.1 hC.2.1 dX11_canPlay_198 hl (k := 8) rfl rfl (by decide) rfl (fun ls hl => ?_)
              refine lv_goto (tgt := 123) hC.1 hC.2.1 dX11_canPlay_201 (by decide) ?_
              exact ih _ _ _ _ _ h _ _ _ G (lv_sub hl [1, 2, 3, 4, 5, 6, 7, 8, 0] rfl)
            · replace h := h.2 c33
              refine lv_iconst (v := 1) hC.1 hC.2.1 dX11_canPlay_196 (by decide) ?_
              exact rg_zret hC hr hlocks G rfl h dX11_canPlay_197
def u_K4_X11_canPlay_35 (Γ : RG) (post : Int32 → MS → Prop) (a1 : Int32) (a2 : Int32) (a3 : Int32) (a4 : Int32) : Nat → MS → Int32 → Int32 → Prop
  | 0, _, _, _ => False
  | n + 1, σ, v5, v6 => w_lp_Jx4a65c_size_8abf5 Γ (fun r6 σ5 => ((r6 ≤ v6 → post 0 σ5) ∧ (¬ r6 ≤ v6 → w_X11_isIn Γ (fun r9 σ8 => ((r9 = 0 → u_K4_X11_canPlay_35 Γ post a1 a2 a3 a4 n σ8 v5 (v6 + 1)) ∧ (¬ r9 = 0 → w_lp_Jx4a65c_get_915e3 Γ (fun j12 σ11 => ((j12 < 10 ∧ j12 < Γ.1) ∧ w_X11_isIn Γ (fun r15 σ14 => ((r15 = 0 → u_K4_X11_canPlay_35 Γ post a1 a2 a3 a4 n σ14 v5 (v6 + 1)) ∧ (¬ r15 = 0 → ((v5 = 1 → w_K5_X11_canPlay Γ (fun r35 σ34 => ((r35 = 0 → (∃ k, u_K4_X11_canPlay_123 Γ post a1 a2 a3 a4 (fun σ w0 w1 => u_K4_X11_canPlay_35 Γ post a1 a2 a3 a4 n σ w0 w1) k σ34 v5 v6 (a4 ||| (1 <<< (v6 &&& 31))) (v6 + 1))) ∧ (¬ r35 = 0 → post 1 σ34))) σ14 a1 a2 (a3 + 1) (a4 ||| (1 <<< (v6 &&& 31)))) ∧ (¬ v5 = 1 → (∃ k, u_K4_X11_canPlay_123 Γ post a1 a2 a3 a4 (fun σ w0 w1 => u_K4_X11_canPlay_35 Γ post a1 a2 a3 a4 n σ w0 w1) k σ14 v5 v6 (a4 ||| (1 <<< (v6 &&& 31))) (v6 + 1))))))) σ11 (σ11 (13 + j12) 0) a3)) σ8 v6))) σ5 (a1 &&& (a4 ^^^ (-1))) v6))) σ
set_option maxHeartbeats 4000000 in
set_option maxRecDepth 100000 in
theorem l_K4_X11_canPlay_35 {p : Program} {l : Launch} {e : Env} {s : State} {m : MethodId} {args : Array Value} {below : List Frame} {meth : Method} {c : Code} {D : va_G} {cy : Nat → ClassId} {lay : Nat → Nat} {Γ : RG} {post : Int32 → MS → Prop} (a1 : Int32) (a2 : Int32) (a3 : Int32) (a4 : Int32) (hC : CallFix p m c cX11_canPlay 9 s args wsX11_canPlay RX11) (hr : meth.sig.returnType = some .boolean) (hlocks : meth.locks = false) (hT : rT D cy lay Γ s) : ∀ (n : Nat), ∀ (σ : MS) (v5 : Int32) (v6 : Int32), u_K4_X11_canPlay_35 Γ post a1 a2 a3 a4 n σ v5 v6 → ∀ (H : Heap) (locs : List Loc) (ls : Array Slot), rG D cy lay Γ tn σ (rA cy lay Γ s.heap.size) s.heap H locs → lv_has ls 9 [(0, .ref (lay 0)), (1, .int a1), (2, .int a2), (3, .int a3), (4, .int a4), (5, .int v5), (6, .int v6)] → W p l e rm_K4_X11_canPlay s m args below meth c H locs 0 0 (MQ below (va_Qi post (rO D cy lay Γ) (rA cy lay Γ s.heap.size)) args s 0 0 (rA cy lay Γ s.heap.size)) (F0 m 35 ls []) := by
  intro n
  induction n with
  | zero =>
    intro σ v5 v6 h
    exact h.elim
  | succ n ih =>
    intro σ v5 v6 h H locs ls G hl
    rw [u_K4_X11_canPlay_35] at h
    refine lv_iload hC.1 hC.2.1 dX11_canPlay_35 (lv_at hl 6 rfl) ?_
    refine lv_aload_n hC.1 hC.2.1 dX11_canPlay_37 rfl (lv_at hl 0 rfl) ?_
    refine rg_get hC hT G (by decide) r_mo k_X11 i_K4_X11_canPlay_X11 3 (by decide) (wm 1 rfl) rfl dX11_canPlay_38 ?_
    refine rg_i G (rg_runV (As := []) (rest := [.int v6]) hC hT G (c_lp_Jx4a65c_size_8abf5 l D cy lay Γ h _) (cwV 0 hC.2.2.2.2 gX11_canPlay_Jx4a65c_size_8abf5 rfl rfl rfl hdV_Jx4a65c_size_8abf5 ⟨Nat.le_of_ble_eq_true rfl, Nat.le_of_ble_eq_true rfl⟩) (rg_recv hT G (by decide) r_lp k_AL) rfl hl.1 rfl (Nat.le_of_ble_eq_true rfl) dX11_canPlay_41 ⟨Nat.le_of_ble_eq_true rfl, Nat.le_of_ble_eq_true rfl⟩) (fun r6 σ5 H locs h G => ?_)
    (try dsimp only at h)
    refine lv_icmp_ge (tgt := 210) hC.1 hC.2.1 dX11_canPlay_44 (by decide) (fun c7 => ?_) (fun c7 => ?_)
    · replace h := h.1 c7
      refine lv_iconst (v := 0) hC.1 hC.2.1 dX11_canPlay_210 (by decide) ?_
      exact rg_zret hC hr hlocks G rfl h dX11_canPlay_211
    · replace h := h.2 c7
      refine lv_iload_n hC.1 hC.2.1 dX11_canPlay_47 rfl (lv_at hl 1 rfl) ?_
      refine lv_iload hC.1 hC.2.1 dX11_canPlay_48 (lv_at hl 4 rfl) ?_
      refine lv_iconst (v := (-1)) hC.1 hC.2.1 dX11_canPlay_50 (by decide) ?_
      refine lv_ixor hC.1 hC.2.1 dX11_canPlay_51 ?_
      refine lv_iand hC.1 hC.2.1 dX11_canPlay_52 ?_
      refine lv_iload hC.1 hC.2.1 dX11_canPlay_53 (lv_at hl 6 rfl) ?_
      refine rg_i G (rg_runS (As := [.int (a1 &&& (a4 ^^^ (-1))), .int v6]) (rest := []) hC hT G (c_X11_isIn l D cy lay Γ h _) (va_cwS 2 hC.2.2.2.2 gX11_canPlay_X11_isIn rfl rfl rfl hdS_X11_isIn ⟨Nat.le_of_ble_eq_true rfl, Nat.le_of_ble_eq_true rfl⟩) rfl hl.1 rfl (Nat.le_of_ble_eq_true rfl) dX11_canPlay_55 ⟨Nat.le_of_ble_eq_true rfl, Nat.le_of_ble_eq_true rfl⟩) (fun r9 σ8 H locs h G => ?_)
      (try dsimp only at h)
      refine lv_if_eq (tgt := 204) hC.1 hC.2.1 dX11_canPlay_58 (by decide) (fun c10 => ?_) (fun c10 => ?_)
      · replace h := h.1 c10
        refine lv_iinc (v := v6 + 1) (lv' := [(6, .int (v6 + 1)), (0, .ref (lay 0)), (1, .int a1), (2, .int a2), (3, .int a3), (4, .int a4), (5, .int v5)]) hC.1 hC.2.1 dX11_canPlay_204 hl (k := 6) rfl rfl (by decide) rfl (fun ls hl => ?_)
        refine lv_goto (tgt := 35) hC.1 hC.2.1 dX11_canPlay_207 (by decide) ?_
        exact ih _ _ _ h _ _ _ G (lv_sub hl [1, 2, 3, 4, 5, 6, 0] rfl)
      · replace h := h.2 c10
        refine lv_aload_n hC.1 hC.2.1 dX11_canPlay_61 rfl (lv_at hl 0 rfl) ?_
        refine rg_get hC hT G (by decide) r_mo k_X11 i_K4_X11_canPlay_X11 3 (by decide) (wm 1 rfl) rfl dX11_canPlay_62 ?_
        refine lv_iload hC.1 hC.2.1 dX11_canPlay_65 (lv_at hl 6 rfl) ?_
        refine rg_r (f := fun i => lay (13 + i)) G (rg_runV (As := [.int v6]) (rest := []) hC hT G (c_lp_Jx4a65c_get_915e3 l D cy lay Γ h _) (cwV 1 hC.2.2.2.2 gX11_canPlay_Jx4a65c_get_915e3 rfl rfl rfl hdV_Jx4a65c_get_915e3 ⟨Nat.le_of_ble_eq_true rfl, Nat.le_of_ble_eq_true rfl⟩) (rg_recv hT G (by decide) r_lp k_AL) rfl hl.1 rfl (Nat.le_of_ble_eq_true rfl) dX11_canPlay_67 ⟨Nat.le_of_ble_eq_true rfl, Nat.le_of_ble_eq_true rfl⟩) (fun j12 σ11 H locs h G => ?_)
        (try dsimp only at h)
        obtain ⟨hj13, h⟩ := h
        refine rg_cast hC hT k_X9 (wm 2 rfl) (rg_recv hT G (rk_pl hj13) (r_pl hj13) k_X9) dX11_canPlay_70 ?_
        refine rg_getN hC hT G (rk_pl hj13) (r_pl hj13) k_X9 i_K4_X11_canPlay_X9 0 (by decide) 2 rfl rfl dX11_canPlay_73 ?_
        refine lv_iload_n hC.1 hC.2.1 dX11_canPlay_76 rfl (lv_at hl 3 rfl) ?_
        refine rg_i G (rg_runS (As := [.int (σ11 (13 + j12) 0), .int a3]) (rest := []) hC hT G (c_X11_isIn l D cy lay Γ h _) (va_cwS 2 hC.2.2.2.2 gX11_canPlay_X11_isIn rfl rfl rfl hdS_X11_isIn ⟨Nat.le_of_ble_eq_true rfl, Nat.le_of_ble_eq_true rfl⟩) rfl hl.1 rfl (Nat.le_of_ble_eq_true rfl) dX11_canPlay_77 ⟨Nat.le_of_ble_eq_true rfl, Nat.le_of_ble_eq_true rfl⟩) (fun r15 σ14 H locs h G => ?_)
        (try dsimp only at h)
        refine lv_if_ne (tgt := 86) hC.1 hC.2.1 dX11_canPlay_80 (by decide) (fun c16 => ?_) (fun c16 => ?_)
        · replace h := h.2 c16
          refine lv_iload hC.1 hC.2.1 dX11_canPlay_86 (lv_at hl 4 rfl) ?_
          refine lv_iconst (v := 1) hC.1 hC.2.1 dX11_canPlay_88 (by decide) ?_
          refine lv_iload hC.1 hC.2.1 dX11_canPlay_89 (lv_at hl 6 rfl) ?_
          refine lv_ishl hC.1 hC.2.1 dX11_canPlay_91 ?_
          refine lv_ior hC.1 hC.2.1 dX11_canPlay_92 ?_
          refine lv_istore (lv' := [(7, .int (a4 ||| (1 <<< (v6 &&& 31)))), (0, .ref (lay 0)), (1, .int a1), (2, .int a2), (3, .int a3), (4, .int a4), (5, .int v5), (6, .int v6)]) hC.1 hC.2.1 dX11_canPlay_93 hl (by decide) rfl (fun ls hl => ?_)
          refine lv_iload hC.1 hC.2.1 dX11_canPlay_95 (lv_at hl 6 rfl) ?_
          refine lv_iconst (v := 1) hC.1 hC.2.1 dX11_canPlay_97 (by decide) ?_
          refine lv_icmp_ne (tgt := 117) hC.1 hC.2.1 dX11_canPlay_98 (by decide) (fun c17 => ?_) (fun c17 => ?_)
          · replace h := h.2 c17
            refine lv_iload hC.1 hC.2.1 dX11_canPlay_117 (lv_at hl 7 rfl) ?_
            refine lv_iconst (v := 1) hC.1 hC.2.1 dX11_canPlay_119 (by decide) ?_
            refine lv_iadd hC.1 hC.2.1 dX11_canPlay_120 ?_
            refine lv_istore (lv' := [(8, .int (v6 + 1)), (7, .int (a4 ||| (1 <<< (v6 &&& 31)))), (0, .ref (lay 0)), (1, .int a1), (2, .int a2), (3, .int a3), (4, .int a4), (5, .int v5), (6, .int v6)]) hC.1 hC.2.1 dX11_canPlay_121 hl (by decide) rfl (fun ls hl => ?_)
            obtain ⟨n1, h⟩ := h
            exact l_K4_X11_canPlay_123 a1 a2 a3 a4 (fun σ w0 w1 => u_K4_X11_canPlay_35 Γ post a1 a2 a3 a4 n σ w0 w1) hC hr hlocks hT ih n1 _ _ _ _ _ h _ _ _ G (lv_sub hl [2, 3, 4, 5, 6, 7, 8, 1, 0] rfl)
          · replace h := h.1 c17
            refine lv_aload_n hC.1 hC.2.1 dX11_canPlay_101 rfl (lv_at hl 1 rfl) ?_
            refine lv_iload_n hC.1 hC.2.1 dX11_canPlay_102 rfl (lv_at hl 2 rfl) ?_
            refine lv_iload_n hC.1 hC.2.1 dX11_canPlay_103 rfl (lv_at hl 3 rfl) ?_
            refine lv_iload_n hC.1 hC.2.1 dX11_canPlay_104 rfl (lv_at hl 4 rfl) ?_
            refine lv_iconst (v := 1) hC.1 hC.2.1 dX11_canPlay_105 (by decide) ?_
            refine lv_iadd hC.1 hC.2.1 dX11_canPlay_106 ?_
            refine lv_iload hC.1 hC.2.1 dX11_canPlay_107 (lv_at hl 0 rfl) ?_
            refine rg_i G (rg_runV (As := [.int a1, .int a2, .int (a3 + 1), .int (a4 ||| (1 <<< (v6 &&& 31)))]) (rest := []) hC hT G (c_K5_X11_canPlay l D cy lay Γ h _) (cwV 4 hC.2.2.2.2 gX11_canPlay_X11_canPlay rfl rfl rfl hdV_X11_canPlay ⟨Nat.le_of_ble_eq_true rfl, Nat.le_of_ble_eq_true rfl⟩) (rg_recv hT G (by decide) r_mo k_X11) rfl hl.1 rfl (Nat.le_of_ble_eq_true rfl) dX11_canPlay_109 ⟨Nat.le_of_ble_eq_true rfl, Nat.le_of_ble_eq_true rfl⟩) (fun r35 σ34 H locs h G => ?_)
            (try dsimp only at h)
            refine lv_if_eq (tgt := 117) hC.1 hC.2.1 dX11_canPlay_112 (by decide) (fun c36 => ?_) (fun c36 => ?_)
            · replace h := h.1 c36
              refine lv_iload hC.1 hC.2.1 dX11_canPlay_117 (lv_at hl 7 rfl) ?_
              refine lv_iconst (v := 1) hC.1 hC.2.1 dX11_canPlay_119 (by decide) ?_
              refine lv_iadd hC.1 hC.2.1 dX11_canPlay_120 ?_
              refine lv_istore (lv' := [(8, .int (v6 + 1)), (7, .int (a4 ||| (1 <<< (v6 &&& 31)))), (0, .ref (lay 0)), (1, .int a1), (2, .int a2), (3, .int a3), (4, .int a4), (5, .int v5), (6, .int v6)]) hC.1 hC.2.1 dX11_canPlay_121 hl (by decide) rfl (fun ls hl => ?_)
              obtain ⟨n1, h⟩ := h
              exact l_K4_X11_canPlay_123 a1 a2 a3 a4 (fun σ w0 w1 => u_K4_X11_canPlay_35 Γ post a1 a2 a3 a4 n σ w0 w1) hC hr hlocks hT ih n1 _ _ _ _ _ h _ _ _ G (lv_sub hl [2, 3, 4, 5, 6, 7, 8, 1, 0] rfl)
            · replace h := h.2 c36
              refine lv_iconst (v := 1) hC.1 hC.2.1 dX11_canPlay_115 (by decide) ?_
              exact rg_zret hC hr hlocks G rfl h dX11_canPlay_116
        · replace h := h.1 c16
          refine lv_goto (tgt := 204) hC.1 hC.2.1 dX11_canPlay_83 (by decide) ?_
          refine lv_iinc (v := v6 + 1) (lv' := [(6, .int (v6 + 1)), (0, .ref (lay 0)), (1, .int a1), (2, .int a2), (3, .int a3), (4, .int a4), (5, .int v5)]) hC.1 hC.2.1 dX11_canPlay_204 hl (k := 6) rfl rfl (by decide) rfl (fun ls hl => ?_)
          refine lv_goto (tgt := 35) hC.1 hC.2.1 dX11_canPlay_207 (by decide) ?_
          exact ih _ _ _ h _ _ _ G (lv_sub hl [1, 2, 3, 4, 5, 6, 0] rfl)
def w_K4_X11_canPlay (Γ : RG) (post : Int32 → MS → Prop) (σ : MS) (a1 : Int32) (a2 : Int32) (a3 : Int32) (a4 : Int32) : Prop := ((a3 = 6 → post 1 σ) ∧ (¬ a3 = 6 → w_X11_needed Γ (fun r3 σ2 => ((r3 = 0 → w_K5_X11_canPlay Γ (fun r38 σ37 => (narrow .boolean (.int r38) = .int r38 ∧ post r38 σ37)) σ2 a1 a2 (a3 + 1) a4) ∧ (¬ r3 = 0 → (∃ k, u_K4_X11_canPlay_35 Γ post a1 a2 a3 a4 k σ2 r3 0)))) σ a2 a3))
set_option maxHeartbeats 4000000 in
set_option maxRecDepth 100000 in
theorem c_K4_X11_canPlay (l : Launch) (D : va_G) (cy : Nat → ClassId) (lay : Nat → Nat) (Γ : RG) {σ : MS} {post : Int32 → MS → Prop} {a1 : Int32} {a2 : Int32} {a3 : Int32} {a4 : Int32} (h : w_K4_X11_canPlay Γ post σ a1 a2 a3 a4) (sz : Nat) : Met l yX11_canPlay wsX11_canPlay rm_K4_X11_canPlay (va_Pc [.ref (lay 0), .int a1, .int a2, .int a3, .int a4] (rI D cy lay Γ σ sz)) (va_Qi post (rO D cy lay Γ) (rA cy lay Γ sz)) 0 0 (rA cy lay Γ sz) := by
  refine rg_ofW (cc := cX11_canPlay) (maxL := 9) (ret := some .boolean) (own := RX11) (Qc := fun sz => va_Qi post (rO D cy lay Γ) (rA cy lay Γ sz)) (by decide) rfl (Nat.le_of_ble_eq_true rfl) rfl ?_
  intro p e s m args below meth c ls hC hr hlocks hT G hl
  unfold w_K4_X11_canPlay at h
  have hl : lv_has ls 9 [(0, .ref (lay 0)), (1, .int a1), (2, .int a2), (3, .int a3), (4, .int a4)] := hl
  refine lv_iload_n hC.1 hC.2.1 dX11_canPlay_0 rfl (lv_at hl 3 rfl) ?_
  refine lv_bipush (v := 6) hC.1 hC.2.1 dX11_canPlay_1 (by decide) ?_
  refine lv_icmp_ne (tgt := 8) hC.1 hC.2.1 dX11_canPlay_3 (by decide) (fun c1 => ?_) (fun c1 => ?_)
  · replace h := h.2 c1
    refine lv_iload_n hC.1 hC.2.1 dX11_canPlay_8 rfl (lv_at hl 2 rfl) ?_
    refine lv_iload_n hC.1 hC.2.1 dX11_canPlay_9 rfl (lv_at hl 3 rfl) ?_
    refine rg_i G (rg_runS (As := [.int a2, .int a3]) (rest := []) hC hT G (c_X11_needed l D cy lay Γ h _) (va_cwS 2 hC.2.2.2.2 gX11_canPlay_X11_needed rfl rfl rfl hdS_X11_needed ⟨Nat.le_of_ble_eq_true rfl, Nat.le_of_ble_eq_true rfl⟩) rfl hl.1 rfl (Nat.le_of_ble_eq_true rfl) dX11_canPlay_10 ⟨Nat.le_of_ble_eq_true rfl, Nat.le_of_ble_eq_true rfl⟩) (fun r3 σ2 H locs h G => ?_)
    (try dsimp only at h)
    refine lv_istore (lv' := [(5, .int r3), (0, .ref (lay 0)), (1, .int a1), (2, .int a2), (3, .int a3), (4, .int a4)]) hC.1 hC.2.1 dX11_canPlay_13 hl (by decide) rfl (fun ls hl => ?_)
    refine lv_iload hC.1 hC.2.1 dX11_canPlay_15 (lv_at hl 0 rfl) ?_
    refine lv_if_ne (tgt := 32) hC.1 hC.2.1 dX11_canPlay_17 (by decide) (fun c4 => ?_) (fun c4 => ?_)
    · replace h := h.2 c4
      refine lv_iconst (v := 0) hC.1 hC.2.1 dX11_canPlay_32 (by decide) ?_
      refine lv_istore (lv' := [(6, .int 0), (5, .int r3), (0, .ref (lay 0)), (1, .int a1), (2, .int a2), (3, .int a3), (4, .int a4)]) hC.1 hC.2.1 dX11_canPlay_33 hl (by decide) rfl (fun ls hl => ?_)
      obtain ⟨n1, h⟩ := h
      exact l_K4_X11_canPlay_35 a1 a2 a3 a4 hC hr hlocks hT n1 _ _ _ h _ _ _ G (lv_sub hl [2, 3, 4, 5, 6, 1, 0] rfl)
    · replace h := h.1 c4
      refine lv_aload_n hC.1 hC.2.1 dX11_canPlay_20 rfl (lv_at hl 1 rfl) ?_
      refine lv_iload_n hC.1 hC.2.1 dX11_canPlay_21 rfl (lv_at hl 2 rfl) ?_
      refine lv_iload_n hC.1 hC.2.1 dX11_canPlay_22 rfl (lv_at hl 3 rfl) ?_
      refine lv_iload_n hC.1 hC.2.1 dX11_canPlay_23 rfl (lv_at hl 4 rfl) ?_
      refine lv_iconst (v := 1) hC.1 hC.2.1 dX11_canPlay_24 (by decide) ?_
      refine lv_iadd hC.1 hC.2.1 dX11_canPlay_25 ?_
      refine lv_iload hC.1 hC.2.1 dX11_canPlay_26 (lv_at hl 5 rfl) ?_
      refine rg_i G (rg_runV (As := [.int a1, .int a2, .int (a3 + 1), .int a4]) (rest := []) hC hT G (c_K5_X11_canPlay l D cy lay Γ h _) (cwV 4 hC.2.2.2.2 gX11_canPlay_X11_canPlay rfl rfl rfl hdV_X11_canPlay ⟨Nat.le_of_ble_eq_true rfl, Nat.le_of_ble_eq_true rfl⟩) (rg_recv hT G (by decide) r_mo k_X11) rfl hl.1 rfl (Nat.le_of_ble_eq_true rfl) dX11_canPlay_28 ⟨Nat.le_of_ble_eq_true rfl, Nat.le_of_ble_eq_true rfl⟩) (fun r38 σ37 H locs h G => ?_)
      (try dsimp only at h)
      exact rg_zret hC hr hlocks G h.1 h.2 dX11_canPlay_31
  · replace h := h.1 c1
    refine lv_iconst (v := 1) hC.1 hC.2.1 dX11_canPlay_6 (by decide) ?_
    exact rg_zret hC hr hlocks G rfl h dX11_canPlay_7
abbrev rm_K3_X11_canPlay : Room := { frames := 6, cells := 0, slots := 0, locals := 148 }
theorem i_K3_X11_canPlay_X11 : ∀ w ∈ wsX110, w ∈ wsX11_canPlay := fun _ h => List.mem_cons_of_mem _ (List.mem_append_left _ (List.mem_append_left _ (List.mem_append_right _ h)))
theorem i_K3_X11_canPlay_X9 : ∀ w ∈ wsX90, w ∈ wsX11_canPlay := fun _ h => List.mem_cons_of_mem _ (List.mem_append_left _ (List.mem_append_right _ h))
def u_K3_X11_canPlay_123 (Γ : RG) (post : Int32 → MS → Prop) (a1 : Int32) (a2 : Int32) (a3 : Int32) (a4 : Int32) (K35 : MS → Int32 → Int32 → Prop) : Nat → MS → Int32 → Int32 → Int32 → Int32 → Prop
  | 0, _, _, _, _, _ => False
  | n + 1, σ, v5, v6, v7, v8 => w_lp_Jx4a65c_size_8abf5 Γ (fun r19 σ18 => ((r19 ≤ v8 → K35 σ18 v5 (v6 + 1)) ∧ (¬ r19 ≤ v8 → ((v5 = 2 → w_X11_isIn Γ (fun r23 σ22 => ((r23 = 0 → u_K3_X11_canPlay_123 Γ post a1 a2 a3 a4 K35 n σ22 v5 v6 v7 (v8 + 1)) ∧ (¬ r23 = 0 → w_lp_Jx4a65c_get_915e3 Γ (fun j26 σ25 => ((j26 < 10 ∧ j26 < Γ.1) ∧ w_X11_isIn Γ (fun r29 σ28 => ((r29 = 0 → u_K3_X11_canPlay_123 Γ post a1 a2 a3 a4 K35 n σ28 v5 v6 v7 (v8 + 1)) ∧ (¬ r29 = 0 → w_K4_X11_canPlay Γ (fun r32 σ31 => ((r32 = 0 → u_K3_X11_canPlay_123 Γ post a1 a2 a3 a4 K35 n σ31 v5 v6 v7 (v8 + 1)) ∧ (¬ r32 = 0 → post 1 σ31))) σ28 a1 a2 (a3 + 1) (v7 ||| (1 <<< (v8 &&& 31)))))) σ25 (σ25 (13 + j26) 0) a3)) σ22 v8))) σ18 (a1 &&& (v7 ^^^ (-1))) v8) ∧ (¬ v5 = 2 → K35 σ18 v5 (v6 + 1)))))) σ
set_option maxHeartbeats 4000000 in
set_option maxRecDepth 100000 in
theorem l_K3_X11_canPlay_123 {p : Program} {l : Launch} {e : Env} {s : State} {m : MethodId} {args : Array Value} {below : List Frame} {meth : Method} {c : Code} {D : va_G} {cy : Nat → ClassId} {lay : Nat → Nat} {Γ : RG} {post : Int32 → MS → Prop} (a1 : Int32) (a2 : Int32) (a3 : Int32) (a4 : Int32) (K35 : MS → Int32 → Int32 → Prop) (hC : CallFix p m c cX11_canPlay 9 s args wsX11_canPlay RX11) (hr : meth.sig.returnType = some .boolean) (hlocks : meth.locks = false) (hT : rT D cy lay Γ s) (hK35 : ∀ (σ : MS) (v5 : Int32) (v6 : Int32), K35 σ v5 v6 → ∀ (H : Heap) (locs : List Loc) (ls : Array Slot), rG D cy lay Γ tn σ (rA cy lay Γ s.heap.size) s.heap H locs → lv_has ls 9 [(0, .ref (lay 0)), (1, .int a1), (2, .int a2), (3, .int a3), (4, .int a4), (5, .int v5), (6, .int v6)] → W p l e rm_K3_X11_canPlay s m args below meth c H locs 0 0 (MQ below (va_Qi post (rO D cy lay Γ) (rA cy lay Γ s.heap.size)) args s 0 0 (rA cy lay Γ s.heap.size)) (F0 m 35 ls [])) : ∀ (n : Nat), ∀ (σ : MS) (v5 : Int32) (v6 : Int32) (v7 : Int32) (v8 : Int32), u_K3_X11_canPlay_123 Γ post a1 a2 a3 a4 K35 n σ v5 v6 v7 v8 → ∀ (H : Heap) (locs : List Loc) (ls : Array Slot), rG D cy lay Γ tn σ (rA cy lay Γ s.heap.size) s.heap H locs → lv_has ls 9 [(0, .ref (lay 0)), (1, .int a1), (2, .int a2), (3, .int a3), (4, .int a4), (5, .int v5), (6, .int v6), (7, .int v7), (8, .int v8)] → W p l e rm_K3_X11_canPlay s m args below meth c H locs 0 0 (MQ below (va_Qi post (rO D cy lay Γ) (rA cy lay Γ s.heap.size)) args s 0 0 (rA cy lay Γ s.heap.size)) (F0 m 123 ls []) := by
  intro n
  induction n with
  | zero =>
    intro σ v5 v6 v7 v8 h
    exact h.elim
  | succ n ih =>
    intro σ v5 v6 v7 v8 h H locs ls G hl
    rw [u_K3_X11_canPlay_123] at h
    refine lv_iload hC.1 hC.2.1 dX11_canPlay_123 (lv_at hl 8 rfl) ?_
    refine lv_aload_n hC.1 hC.2.1 dX11_canPlay_125 rfl (lv_at hl 0 rfl) ?_
    refine rg_get hC hT G (by decide) r_mo k_X11 i_K3_X11_canPlay_X11 3 (by decide) (wm 1 rfl) rfl dX11_canPlay_126 ?_
    refine rg_i G (rg_runV (As := []) (rest := [.int v8]) hC hT G (c_lp_Jx4a65c_size_8abf5 l D cy lay Γ h _) (cwV 0 hC.2.2.2.2 gX11_canPlay_Jx4a65c_size_8abf5 rfl rfl rfl hdV_Jx4a65c_size_8abf5 ⟨Nat.le_of_ble_eq_true rfl, Nat.le_of_ble_eq_true rfl⟩) (rg_recv hT G (by decide) r_lp k_AL) rfl hl.1 rfl (Nat.le_of_ble_eq_true rfl) dX11_canPlay_129 ⟨Nat.le_of_ble_eq_true rfl, Nat.le_of_ble_eq_true rfl⟩) (fun r19 σ18 H locs h G => ?_)
    (try dsimp only at h)
    refine lv_icmp_ge (tgt := 204) hC.1 hC.2.1 dX11_canPlay_132 (by decide) (fun c20 => ?_) (fun c20 => ?_)
    · replace h := h.1 c20
      refine lv_iinc (v := v6 + 1) (lv' := [(6, .int (v6 + 1)), (0, .ref (lay 0)), (1, .int a1), (2, .int a2), (3, .int a3), (4, .int a4), (5, .int v5), (7, .int v7), (8, .int v8)]) hC.1 hC.2.1 dX11_canPlay_204 hl (k := 6) rfl rfl (by decide) rfl (fun ls hl => ?_)
      refine lv_goto (tgt := 35) hC.1 hC.2.1 dX11_canPlay_207 (by decide) ?_
      exact hK35 _ _ _ h _ _ _ G (lv_sub hl [1, 2, 3, 4, 5, 6, 0] rfl)
    · replace h := h.2 c20
      refine lv_iload hC.1 hC.2.1 dX11_canPlay_135 (lv_at hl 5 rfl) ?_
      refine lv_iconst (v := 2) hC.1 hC.2.1 dX11_canPlay_137 (by decide) ?_
      refine lv_icmp_ne (tgt := 204) hC.1 hC.2.1 dX11_canPlay_138 (by decide) (fun c21 => ?_) (fun c21 => ?_)
      · replace h := h.2 c21
        refine lv_iinc (v := v6 + 1) (lv' := [(6, .int (v6 + 1)), (0, .ref (lay 0)), (1, .int a1), (2, .int a2), (3, .int a3), (4, .int a4), (5, .int v5), (7, .int v7), (8, .int v8)]) hC.1 hC.2.1 dX11_canPlay_204 hl (k := 6) rfl rfl (by decide) rfl (fun ls hl => ?_)
        refine lv_goto (tgt := 35) hC.1 hC.2.1 dX11_canPlay_207 (by decide) ?_
        exact hK35 _ _ _ h _ _ _ G (lv_sub hl [1, 2, 3, 4, 5, 6, 0] rfl)
      · replace h := h.1 c21
        refine lv_iload_n hC.1 hC.2.1 dX11_canPlay_141 rfl (lv_at hl 1 rfl) ?_
        refine lv_iload hC.1 hC.2.1 dX11_canPlay_142 (lv_at hl 7 rfl) ?_
        refine lv_iconst (v := (-1)) hC.1 hC.2.1 dX11_canPlay_144 (by decide) ?_
        refine lv_ixor hC.1 hC.2.1 dX11_canPlay_145 ?_
        refine lv_iand hC.1 hC.2.1 dX11_canPlay_146 ?_
        refine lv_iload hC.1 hC.2.1 dX11_canPlay_147 (lv_at hl 8 rfl) ?_
        refine rg_i G (rg_runS (As := [.int (a1 &&& (v7 ^^^ (-1))), .int v8]) (rest := []) hC hT G (c_X11_isIn l D cy lay Γ h _) (va_cwS 2 hC.2.2.2.2 gX11_canPlay_X11_isIn rfl rfl rfl hdS_X11_isIn ⟨Nat.le_of_ble_eq_true rfl, Nat.le_of_ble_eq_true rfl⟩) rfl hl.1 rfl (Nat.le_of_ble_eq_true rfl) dX11_canPlay_149 ⟨Nat.le_of_ble_eq_true rfl, Nat.le_of_ble_eq_true rfl⟩) (fun r23 σ22 H locs h G => ?_)
        (try dsimp only at h)
        refine lv_if_eq (tgt := 198) hC.1 hC.2.1 dX11_canPlay_152 (by decide) (fun c24 => ?_) (fun c24 => ?_)
        · replace h := h.1 c24
          refine lv_iinc (v := v8 + 1) (lv' := [(8, .int (v8 + 1)), (0, .ref (lay 0)), (1, .int a1), (2, .int a2), (3, .int a3), (4, .int a4), (5, .int v5), (6, .int v6), (7, .int v7)]) hC.1 hC.2.1 dX11_canPlay_198 hl (k := 8) rfl rfl (by decide) rfl (fun ls hl => ?_)
          refine lv_goto (tgt := 123) hC.1 hC.2.1 dX11_canPlay_201 (by decide) ?_
          exact ih _ _ _ _ _ h _ _ _ G (lv_sub hl [1, 2, 3, 4, 5, 6, 7, 8, 0] rfl)
        · replace h := h.2 c24
          refine lv_aload_n hC.1 hC.2.1 dX11_canPlay_155 rfl (lv_at hl 0 rfl) ?_
          refine rg_get hC hT G (by decide) r_mo k_X11 i_K3_X11_canPlay_X11 3 (by decide) (wm 1 rfl) rfl dX11_canPlay_156 ?_
          refine lv_iload hC.1 hC.2.1 dX11_canPlay_159 (lv_at hl 8 rfl) ?_
          refine rg_r (f := fun i => lay (13 + i)) G (rg_runV (As := [.int v8]) (rest := []) hC hT G (c_lp_Jx4a65c_get_915e3 l D cy lay Γ h _) (cwV 1 hC.2.2.2.2 gX11_canPlay_Jx4a65c_get_915e3 rfl rfl rfl hdV_Jx4a65c_get_915e3 ⟨Nat.le_of_ble_eq_true rfl, Nat.le_of_ble_eq_true rfl⟩) (rg_recv hT G (by decide) r_lp k_AL) rfl hl.1 rfl (Nat.le_of_ble_eq_true rfl) dX11_canPlay_161 ⟨Nat.le_of_ble_eq_true rfl, Nat.le_of_ble_eq_true rfl⟩) (fun j26 σ25 H locs h G => ?_)
          (try dsimp only at h)
          obtain ⟨hj27, h⟩ := h
          refine rg_cast hC hT k_X9 (wm 2 rfl) (rg_recv hT G (rk_pl hj27) (r_pl hj27) k_X9) dX11_canPlay_164 ?_
          refine rg_getN hC hT G (rk_pl hj27) (r_pl hj27) k_X9 i_K3_X11_canPlay_X9 0 (by decide) 2 rfl rfl dX11_canPlay_167 ?_
          refine lv_iload_n hC.1 hC.2.1 dX11_canPlay_170 rfl (lv_at hl 3 rfl) ?_
          refine rg_i G (rg_runS (As := [.int (σ25 (13 + j26) 0), .int a3]) (rest := []) hC hT G (c_X11_isIn l D cy lay Γ h _) (va_cwS 2 hC.2.2.2.2 gX11_canPlay_X11_isIn rfl rfl rfl hdS_X11_isIn ⟨Nat.le_of_ble_eq_true rfl, Nat.le_of_ble_eq_true rfl⟩) rfl hl.1 rfl (Nat.le_of_ble_eq_true rfl) dX11_canPlay_171 ⟨Nat.le_of_ble_eq_true rfl, Nat.le_of_ble_eq_true rfl⟩) (fun r29 σ28 H locs h G => ?_)
          (try dsimp only at h)
          refine lv_if_eq (tgt := 198) hC.1 hC.2.1 dX11_canPlay_174 (by decide) (fun c30 => ?_) (fun c30 => ?_)
          · replace h := h.1 c30
            refine lv_iinc (v := v8 + 1) (lv' := [(8, .int (v8 + 1)), (0, .ref (lay 0)), (1, .int a1), (2, .int a2), (3, .int a3), (4, .int a4), (5, .int v5), (6, .int v6), (7, .int v7)]) hC.1 hC.2.1 dX11_canPlay_198 hl (k := 8) rfl rfl (by decide) rfl (fun ls hl => ?_)
            refine lv_goto (tgt := 123) hC.1 hC.2.1 dX11_canPlay_201 (by decide) ?_
            exact ih _ _ _ _ _ h _ _ _ G (lv_sub hl [1, 2, 3, 4, 5, 6, 7, 8, 0] rfl)
          · replace h := h.2 c30
            refine lv_aload_n hC.1 hC.2.1 dX11_canPlay_177 rfl (lv_at hl 0 rfl) ?_
            refine lv_iload_n hC.1 hC.2.1 dX11_canPlay_178 rfl (lv_at hl 1 rfl) ?_
            refine lv_iload_n hC.1 hC.2.1 dX11_canPlay_179 rfl (lv_at hl 2 rfl) ?_
            refine lv_iload_n hC.1 hC.2.1 dX11_canPlay_180 rfl (lv_at hl 3 rfl) ?_
            refine lv_iconst (v := 1) hC.1 hC.2.1 dX11_canPlay_181 (by decide) ?_
            refine lv_iadd hC.1 hC.2.1 dX11_canPlay_182 ?_
            refine lv_iload hC.1 hC.2.1 dX11_canPlay_183 (lv_at hl 7 rfl) ?_
            refine lv_iconst (v := 1) hC.1 hC.2.1 dX11_canPlay_185 (by decide) ?_
            refine lv_iload hC.1 hC.2.1 dX11_canPlay_186 (lv_at hl 8 rfl) ?_
            refine lv_ishl hC.1 hC.2.1 dX11_canPlay_188 ?_
            refine lv_ior hC.1 hC.2.1 dX11_canPlay_189 ?_
            refine rg_i G (rg_runV (As := [.int a1, .int a2, .int (a3 + 1), .int (v7 ||| (1 <<< (v8 &&& 31)))]) (rest := []) hC hT G (c_K4_X11_canPlay l D cy lay Γ h _) (cwV 4 hC.2.2.2.2 gX11_canPlay_X11_canPlay rfl rfl rfl hdV_X11_canPlay ⟨Nat.le_of_ble_eq_true rfl, Nat.le_of_ble_eq_true rfl⟩) (rg_recv hT G (by decide) r_mo k_X11) rfl hl.1 rfl (Nat.le_of_ble_eq_true rfl) dX11_canPlay_190 ⟨Nat.le_of_ble_eq_true rfl, Nat.le_of_ble_eq_true rfl⟩) (fun r32 σ31 H locs h G => ?_)
            (try dsimp only at h)
            refine lv_if_eq (tgt := 198) hC.1 hC.2.1 dX11_canPlay_193 (by decide) (fun c33 => ?_) (fun c33 => ?_)
            · replace h := h.1 c33
              refine lv_iinc (v := v8 + 1) (lv' := [(8, .int (v8 + 1)), (0, .ref (lay 0)), (1, .int a1), (2, .int a2), (3, .int a3), (4, .int a4), (5, .int v5), (6, .int v6), (7, .int v7)]) hC.1 hC.2.1 dX11_canPlay_198 hl (k := 8) rfl rfl (by decide) rfl (fun ls hl => ?_)
              refine lv_goto (tgt := 123) hC.1 hC.2.1 dX11_canPlay_201 (by decide) ?_
              exact ih _ _ _ _ _ h _ _ _ G (lv_sub hl [1, 2, 3, 4, 5, 6, 7, 8, 0] rfl)
            · replace h := h.2 c33
              refine lv_iconst (v := 1) hC.1 hC.2.1 dX11_canPlay_196 (by decide) ?_
              exact rg_zret hC hr hlocks G rfl h dX11_canPlay_197
def u_K3_X11_canPlay_35 (Γ : RG) (post : Int32 → MS → Prop) (a1 : Int32) (a2 : Int32) (a3 : Int32) (a4 : Int32) : Nat → MS → Int32 → Int32 → Prop
  | 0, _, _, _ => False
  | n + 1, σ, v5, v6 => w_lp_Jx4a65c_size_8abf5 Γ (fun r6 σ5 => ((r6 ≤ v6 → post 0 σ5) ∧ (¬ r6 ≤ v6 → w_X11_isIn Γ (fun r9 σ8 => ((r9 = 0 → u_K3_X11_canPlay_35 Γ post a1 a2 a3 a4 n σ8 v5 (v6 + 1)) ∧ (¬ r9 = 0 → w_lp_Jx4a65c_get_915e3 Γ (fun j12 σ11 => ((j12 < 10 ∧ j12 < Γ.1) ∧ w_X11_isIn Γ (fun r15 σ14 => ((r15 = 0 → u_K3_X11_canPlay_35 Γ post a1 a2 a3 a4 n σ14 v5 (v6 + 1)) ∧ (¬ r15 = 0 → ((v5 = 1 → w_K4_X11_canPlay Γ (fun r35 σ34 => ((r35 = 0 → (∃ k, u_K3_X11_canPlay_123 Γ post a1 a2 a3 a4 (fun σ w0 w1 => u_K3_X11_canPlay_35 Γ post a1 a2 a3 a4 n σ w0 w1) k σ34 v5 v6 (a4 ||| (1 <<< (v6 &&& 31))) (v6 + 1))) ∧ (¬ r35 = 0 → post 1 σ34))) σ14 a1 a2 (a3 + 1) (a4 ||| (1 <<< (v6 &&& 31)))) ∧ (¬ v5 = 1 → (∃ k, u_K3_X11_canPlay_123 Γ post a1 a2 a3 a4 (fun σ w0 w1 => u_K3_X11_canPlay_35 Γ post a1 a2 a3 a4 n σ w0 w1) k σ14 v5 v6 (a4 ||| (1 <<< (v6 &&& 31))) (v6 + 1))))))) σ11 (σ11 (13 + j12) 0) a3)) σ8 v6))) σ5 (a1 &&& (a4 ^^^ (-1))) v6))) σ
set_option maxHeartbeats 4000000 in
set_option maxRecDepth 100000 in
theorem l_K3_X11_canPlay_35 {p : Program} {l : Launch} {e : Env} {s : State} {m : MethodId} {args : Array Value} {below : List Frame} {meth : Method} {c : Code} {D : va_G} {cy : Nat → ClassId} {lay : Nat → Nat} {Γ : RG} {post : Int32 → MS → Prop} (a1 : Int32) (a2 : Int32) (a3 : Int32) (a4 : Int32) (hC : CallFix p m c cX11_canPlay 9 s args wsX11_canPlay RX11) (hr : meth.sig.returnType = some .boolean) (hlocks : meth.locks = false) (hT : rT D cy lay Γ s) : ∀ (n : Nat), ∀ (σ : MS) (v5 : Int32) (v6 : Int32), u_K3_X11_canPlay_35 Γ post a1 a2 a3 a4 n σ v5 v6 → ∀ (H : Heap) (locs : List Loc) (ls : Array Slot), rG D cy lay Γ tn σ (rA cy lay Γ s.heap.size) s.heap H locs → lv_has ls 9 [(0, .ref (lay 0)), (1, .int a1), (2, .int a2), (3, .int a3), (4, .int a4), (5, .int v5), (6, .int v6)] → W p l e rm_K3_X11_canPlay s m args below meth c H locs 0 0 (MQ below (va_Qi post (rO D cy lay Γ) (rA cy lay Γ s.heap.size)) args s 0 0 (rA cy lay Γ s.heap.size)) (F0 m 35 ls []) := by
  intro n
  induction n with
  | zero =>
    intro σ v5 v6 h
    exact h.elim
  | succ n ih =>
    intro σ v5 v6 h H locs ls G hl
    rw [u_K3_X11_canPlay_35] at h
    refine lv_iload hC.1 hC.2.1 dX11_canPlay_35 (lv_at hl 6 rfl) ?_
    refine lv_aload_n hC.1 hC.2.1 dX11_canPlay_37 rfl (lv_at hl 0 rfl) ?_
    refine rg_get hC hT G (by decide) r_mo k_X11 i_K3_X11_canPlay_X11 3 (by decide) (wm 1 rfl) rfl dX11_canPlay_38 ?_
    refine rg_i G (rg_runV (As := []) (rest := [.int v6]) hC hT G (c_lp_Jx4a65c_size_8abf5 l D cy lay Γ h _) (cwV 0 hC.2.2.2.2 gX11_canPlay_Jx4a65c_size_8abf5 rfl rfl rfl hdV_Jx4a65c_size_8abf5 ⟨Nat.le_of_ble_eq_true rfl, Nat.le_of_ble_eq_true rfl⟩) (rg_recv hT G (by decide) r_lp k_AL) rfl hl.1 rfl (Nat.le_of_ble_eq_true rfl) dX11_canPlay_41 ⟨Nat.le_of_ble_eq_true rfl, Nat.le_of_ble_eq_true rfl⟩) (fun r6 σ5 H locs h G => ?_)
    (try dsimp only at h)
    refine lv_icmp_ge (tgt := 210) hC.1 hC.2.1 dX11_canPlay_44 (by decide) (fun c7 => ?_) (fun c7 => ?_)
    · replace h := h.1 c7
      refine lv_iconst (v := 0) hC.1 hC.2.1 dX11_canPlay_210 (by decide) ?_
      exact rg_zret hC hr hlocks G rfl h dX11_canPlay_211
    · replace h := h.2 c7
      refine lv_iload_n hC.1 hC.2.1 dX11_canPlay_47 rfl (lv_at hl 1 rfl) ?_
      refine lv_iload hC.1 hC.2.1 dX11_canPlay_48 (lv_at hl 4 rfl) ?_
      refine lv_iconst (v := (-1)) hC.1 hC.2.1 dX11_canPlay_50 (by decide) ?_
      refine lv_ixor hC.1 hC.2.1 dX11_canPlay_51 ?_
      refine lv_iand hC.1 hC.2.1 dX11_canPlay_52 ?_
      refine lv_iload hC.1 hC.2.1 dX11_canPlay_53 (lv_at hl 6 rfl) ?_
      refine rg_i G (rg_runS (As := [.int (a1 &&& (a4 ^^^ (-1))), .int v6]) (rest := []) hC hT G (c_X11_isIn l D cy lay Γ h _) (va_cwS 2 hC.2.2.2.2 gX11_canPlay_X11_isIn rfl rfl rfl hdS_X11_isIn ⟨Nat.le_of_ble_eq_true rfl, Nat.le_of_ble_eq_true rfl⟩) rfl hl.1 rfl (Nat.le_of_ble_eq_true rfl) dX11_canPlay_55 ⟨Nat.le_of_ble_eq_true rfl, Nat.le_of_ble_eq_true rfl⟩) (fun r9 σ8 H locs h G => ?_)
      (try dsimp only at h)
      refine lv_if_eq (tgt := 204) hC.1 hC.2.1 dX11_canPlay_58 (by decide) (fun c10 => ?_) (fun c10 => ?_)
      · replace h := h.1 c10
        refine lv_iinc (v := v6 + 1) (lv' := [(6, .int (v6 + 1)), (0, .ref (lay 0)), (1, .int a1), (2, .int a2), (3, .int a3), (4, .int a4), (5, .int v5)]) hC.1 hC.2.1 dX11_canPlay_204 hl (k := 6) rfl rfl (by decide) rfl (fun ls hl => ?_)
        refine lv_goto (tgt := 35) hC.1 hC.2.1 dX11_canPlay_207 (by decide) ?_
        exact ih _ _ _ h _ _ _ G (lv_sub hl [1, 2, 3, 4, 5, 6, 0] rfl)
      · replace h := h.2 c10
        refine lv_aload_n hC.1 hC.2.1 dX11_canPlay_61 rfl (lv_at hl 0 rfl) ?_
        refine rg_get hC hT G (by decide) r_mo k_X11 i_K3_X11_canPlay_X11 3 (by decide) (wm 1 rfl) rfl dX11_canPlay_62 ?_
        refine lv_iload hC.1 hC.2.1 dX11_canPlay_65 (lv_at hl 6 rfl) ?_
        refine rg_r (f := fun i => lay (13 + i)) G (rg_runV (As := [.int v6]) (rest := []) hC hT G (c_lp_Jx4a65c_get_915e3 l D cy lay Γ h _) (cwV 1 hC.2.2.2.2 gX11_canPlay_Jx4a65c_get_915e3 rfl rfl rfl hdV_Jx4a65c_get_915e3 ⟨Nat.le_of_ble_eq_true rfl, Nat.le_of_ble_eq_true rfl⟩) (rg_recv hT G (by decide) r_lp k_AL) rfl hl.1 rfl (Nat.le_of_ble_eq_true rfl) dX11_canPlay_67 ⟨Nat.le_of_ble_eq_true rfl, Nat.le_of_ble_eq_true rfl⟩) (fun j12 σ11 H locs h G => ?_)
        (try dsimp only at h)
        obtain ⟨hj13, h⟩ := h
        refine rg_cast hC hT k_X9 (wm 2 rfl) (rg_recv hT G (rk_pl hj13) (r_pl hj13) k_X9) dX11_canPlay_70 ?_
        refine rg_getN hC hT G (rk_pl hj13) (r_pl hj13) k_X9 i_K3_X11_canPlay_X9 0 (by decide) 2 rfl rfl dX11_canPlay_73 ?_
        refine lv_iload_n hC.1 hC.2.1 dX11_canPlay_76 rfl (lv_at hl 3 rfl) ?_
        refine rg_i G (rg_runS (As := [.int (σ11 (13 + j12) 0), .int a3]) (rest := []) hC hT G (c_X11_isIn l D cy lay Γ h _) (va_cwS 2 hC.2.2.2.2 gX11_canPlay_X11_isIn rfl rfl rfl hdS_X11_isIn ⟨Nat.le_of_ble_eq_true rfl, Nat.le_of_ble_eq_true rfl⟩) rfl hl.1 rfl (Nat.le_of_ble_eq_true rfl) dX11_canPlay_77 ⟨Nat.le_of_ble_eq_true rfl, Nat.le_of_ble_eq_true rfl⟩) (fun r15 σ14 H locs h G => ?_)
        (try dsimp only at h)
        refine lv_if_ne (tgt := 86) hC.1 hC.2.1 dX11_canPlay_80 (by decide) (fun c16 => ?_) (fun c16 => ?_)
        · replace h := h.2 c16
          refine lv_iload hC.1 hC.2.1 dX11_canPlay_86 (lv_at hl 4 rfl) ?_
          refine lv_iconst (v := 1) hC.1 hC.2.1 dX11_canPlay_88 (by decide) ?_
          refine lv_iload hC.1 hC.2.1 dX11_canPlay_89 (lv_at hl 6 rfl) ?_
          refine lv_ishl hC.1 hC.2.1 dX11_canPlay_91 ?_
          refine lv_ior hC.1 hC.2.1 dX11_canPlay_92 ?_
          refine lv_istore (lv' := [(7, .int (a4 ||| (1 <<< (v6 &&& 31)))), (0, .ref (lay 0)), (1, .int a1), (2, .int a2), (3, .int a3), (4, .int a4), (5, .int v5), (6, .int v6)]) hC.1 hC.2.1 dX11_canPlay_93 hl (by decide) rfl (fun ls hl => ?_)
          refine lv_iload hC.1 hC.2.1 dX11_canPlay_95 (lv_at hl 6 rfl) ?_
          refine lv_iconst (v := 1) hC.1 hC.2.1 dX11_canPlay_97 (by decide) ?_
          refine lv_icmp_ne (tgt := 117) hC.1 hC.2.1 dX11_canPlay_98 (by decide) (fun c17 => ?_) (fun c17 => ?_)
          · replace h := h.2 c17
            refine lv_iload hC.1 hC.2.1 dX11_canPlay_117 (lv_at hl 7 rfl) ?_
            refine lv_iconst (v := 1) hC.1 hC.2.1 dX11_canPlay_119 (by decide) ?_
            refine lv_iadd hC.1 hC.2.1 dX11_canPlay_120 ?_
            refine lv_istore (lv' := [(8, .int (v6 + 1)), (7, .int (a4 ||| (1 <<< (v6 &&& 31)))), (0, .ref (lay 0)), (1, .int a1), (2, .int a2), (3, .int a3), (4, .int a4), (5, .int v5), (6, .int v6)]) hC.1 hC.2.1 dX11_canPlay_121 hl (by decide) rfl (fun ls hl => ?_)
            obtain ⟨n1, h⟩ := h
            exact l_K3_X11_canPlay_123 a1 a2 a3 a4 (fun σ w0 w1 => u_K3_X11_canPlay_35 Γ post a1 a2 a3 a4 n σ w0 w1) hC hr hlocks hT ih n1 _ _ _ _ _ h _ _ _ G (lv_sub hl [2, 3, 4, 5, 6, 7, 8, 1, 0] rfl)
          · replace h := h.1 c17
            refine lv_aload_n hC.1 hC.2.1 dX11_canPlay_101 rfl (lv_at hl 1 rfl) ?_
            refine lv_iload_n hC.1 hC.2.1 dX11_canPlay_102 rfl (lv_at hl 2 rfl) ?_
            refine lv_iload_n hC.1 hC.2.1 dX11_canPlay_103 rfl (lv_at hl 3 rfl) ?_
            refine lv_iload_n hC.1 hC.2.1 dX11_canPlay_104 rfl (lv_at hl 4 rfl) ?_
            refine lv_iconst (v := 1) hC.1 hC.2.1 dX11_canPlay_105 (by decide) ?_
            refine lv_iadd hC.1 hC.2.1 dX11_canPlay_106 ?_
            refine lv_iload hC.1 hC.2.1 dX11_canPlay_107 (lv_at hl 0 rfl) ?_
            refine rg_i G (rg_runV (As := [.int a1, .int a2, .int (a3 + 1), .int (a4 ||| (1 <<< (v6 &&& 31)))]) (rest := []) hC hT G (c_K4_X11_canPlay l D cy lay Γ h _) (cwV 4 hC.2.2.2.2 gX11_canPlay_X11_canPlay rfl rfl rfl hdV_X11_canPlay ⟨Nat.le_of_ble_eq_true rfl, Nat.le_of_ble_eq_true rfl⟩) (rg_recv hT G (by decide) r_mo k_X11) rfl hl.1 rfl (Nat.le_of_ble_eq_true rfl) dX11_canPlay_109 ⟨Nat.le_of_ble_eq_true rfl, Nat.le_of_ble_eq_true rfl⟩) (fun r35 σ34 H locs h G => ?_)
            (try dsimp only at h)
            refine lv_if_eq (tgt := 117) hC.1 hC.2.1 dX11_canPlay_112 (by decide) (fun c36 => ?_) (fun c36 => ?_)
            · replace h := h.1 c36
              refine lv_iload hC.1 hC.2.1 dX11_canPlay_117 (lv_at hl 7 rfl) ?_
              refine lv_iconst (v := 1) hC.1 hC.2.1 dX11_canPlay_119 (by decide) ?_
              refine lv_iadd hC.1 hC.2.1 dX11_canPlay_120 ?_
              refine lv_istore (lv' := [(8, .int (v6 + 1)), (7, .int (a4 ||| (1 <<< (v6 &&& 31)))), (0, .ref (lay 0)), (1, .int a1), (2, .int a2), (3, .int a3), (4, .int a4), (5, .int v5), (6, .int v6)]) hC.1 hC.2.1 dX11_canPlay_121 hl (by decide) rfl (fun ls hl => ?_)
              obtain ⟨n1, h⟩ := h
              exact l_K3_X11_canPlay_123 a1 a2 a3 a4 (fun σ w0 w1 => u_K3_X11_canPlay_35 Γ post a1 a2 a3 a4 n σ w0 w1) hC hr hlocks hT ih n1 _ _ _ _ _ h _ _ _ G (lv_sub hl [2, 3, 4, 5, 6, 7, 8, 1, 0] rfl)
            · replace h := h.2 c36
              refine lv_iconst (v := 1) hC.1 hC.2.1 dX11_canPlay_115 (by decide) ?_
              exact rg_zret hC hr hlocks G rfl h dX11_canPlay_116
        · replace h := h.1 c16
          refine lv_goto (tgt := 204) hC.1 hC.2.1 dX11_canPlay_83 (by decide) ?_
          refine lv_iinc (v := v6 + 1) (lv' := [(6, .int (v6 + 1)), (0, .ref (lay 0)), (1, .int a1), (2, .int a2), (3, .int a3), (4, .int a4), (5, .int v5)]) hC.1 hC.2.1 dX11_canPlay_204 hl (k := 6) rfl rfl (by decide) rfl (fun ls hl => ?_)
          refine lv_goto (tgt := 35) hC.1 hC.2.1 dX11_canPlay_207 (by decide) ?_
          exact ih _ _ _ h _ _ _ G (lv_sub hl [1, 2, 3, 4, 5, 6, 0] rfl)
def w_K3_X11_canPlay (Γ : RG) (post : Int32 → MS → Prop) (σ : MS) (a1 : Int32) (a2 : Int32) (a3 : Int32) (a4 : Int32) : Prop := ((a3 = 6 → post 1 σ) ∧ (¬ a3 = 6 → w_X11_needed Γ (fun r3 σ2 => ((r3 = 0 → w_K4_X11_canPlay Γ (fun r38 σ37 => (narrow .boolean (.int r38) = .int r38 ∧ post r38 σ37)) σ2 a1 a2 (a3 + 1) a4) ∧ (¬ r3 = 0 → (∃ k, u_K3_X11_canPlay_35 Γ post a1 a2 a3 a4 k σ2 r3 0)))) σ a2 a3))
set_option maxHeartbeats 4000000 in
set_option maxRecDepth 100000 in
theorem c_K3_X11_canPlay (l : Launch) (D : va_G) (cy : Nat → ClassId) (lay : Nat → Nat) (Γ : RG) {σ : MS} {post : Int32 → MS → Prop} {a1 : Int32} {a2 : Int32} {a3 : Int32} {a4 : Int32} (h : w_K3_X11_canPlay Γ post σ a1 a2 a3 a4) (sz : Nat) : Met l yX11_canPlay wsX11_canPlay rm_K3_X11_canPlay (va_Pc [.ref (lay 0), .int a1, .int a2, .int a3, .int a4] (rI D cy lay Γ σ sz)) (va_Qi post (rO D cy lay Γ) (rA cy lay Γ sz)) 0 0 (rA cy lay Γ sz) := by
  refine rg_ofW (cc := cX11_canPlay) (maxL := 9) (ret := some .boolean) (own := RX11) (Qc := fun sz => va_Qi post (rO D cy lay Γ) (rA cy lay Γ sz)) (by decide) rfl (Nat.le_of_ble_eq_true rfl) rfl ?_
  intro p e s m args below meth c ls hC hr hlocks hT G hl
  unfold w_K3_X11_canPlay at h
  have hl : lv_has ls 9 [(0, .ref (lay 0)), (1, .int a1), (2, .int a2), (3, .int a3), (4, .int a4)] := hl
  refine lv_iload_n hC.1 hC.2.1 dX11_canPlay_0 rfl (lv_at hl 3 rfl) ?_
  refine lv_bipush (v := 6) hC.1 hC.2.1 dX11_canPlay_1 (by decide) ?_
  refine lv_icmp_ne (tgt := 8) hC.1 hC.2.1 dX11_canPlay_3 (by decide) (fun c1 => ?_) (fun c1 => ?_)
  · replace h := h.2 c1
    refine lv_iload_n hC.1 hC.2.1 dX11_canPlay_8 rfl (lv_at hl 2 rfl) ?_
    refine lv_iload_n hC.1 hC.2.1 dX11_canPlay_9 rfl (lv_at hl 3 rfl) ?_
    refine rg_i G (rg_runS (As := [.int a2, .int a3]) (rest := []) hC hT G (c_X11_needed l D cy lay Γ h _) (va_cwS 2 hC.2.2.2.2 gX11_canPlay_X11_needed rfl rfl rfl hdS_X11_needed ⟨Nat.le_of_ble_eq_true rfl, Nat.le_of_ble_eq_true rfl⟩) rfl hl.1 rfl (Nat.le_of_ble_eq_true rfl) dX11_canPlay_10 ⟨Nat.le_of_ble_eq_true rfl, Nat.le_of_ble_eq_true rfl⟩) (fun r3 σ2 H locs h G => ?_)
    (try dsimp only at h)
    refine lv_istore (lv' := [(5, .int r3), (0, .ref (lay 0)), (1, .int a1), (2, .int a2), (3, .int a3), (4, .int a4)]) hC.1 hC.2.1 dX11_canPlay_13 hl (by decide) rfl (fun ls hl => ?_)
    refine lv_iload hC.1 hC.2.1 dX11_canPlay_15 (lv_at hl 0 rfl) ?_
    refine lv_if_ne (tgt := 32) hC.1 hC.2.1 dX11_canPlay_17 (by decide) (fun c4 => ?_) (fun c4 => ?_)
    · replace h := h.2 c4
      refine lv_iconst (v := 0) hC.1 hC.2.1 dX11_canPlay_32 (by decide) ?_
      refine lv_istore (lv' := [(6, .int 0), (5, .int r3), (0, .ref (lay 0)), (1, .int a1), (2, .int a2), (3, .int a3), (4, .int a4)]) hC.1 hC.2.1 dX11_canPlay_33 hl (by decide) rfl (fun ls hl => ?_)
      obtain ⟨n1, h⟩ := h
      exact l_K3_X11_canPlay_35 a1 a2 a3 a4 hC hr hlocks hT n1 _ _ _ h _ _ _ G (lv_sub hl [2, 3, 4, 5, 6, 1, 0] rfl)
    · replace h := h.1 c4
      refine lv_aload_n hC.1 hC.2.1 dX11_canPlay_20 rfl (lv_at hl 1 rfl) ?_
      refine lv_iload_n hC.1 hC.2.1 dX11_canPlay_21 rfl (lv_at hl 2 rfl) ?_
      refine lv_iload_n hC.1 hC.2.1 dX11_canPlay_22 rfl (lv_at hl 3 rfl) ?_
      refine lv_iload_n hC.1 hC.2.1 dX11_canPlay_23 rfl (lv_at hl 4 rfl) ?_
      refine lv_iconst (v := 1) hC.1 hC.2.1 dX11_canPlay_24 (by decide) ?_
      refine lv_iadd hC.1 hC.2.1 dX11_canPlay_25 ?_
      refine lv_iload hC.1 hC.2.1 dX11_canPlay_26 (lv_at hl 5 rfl) ?_
      refine rg_i G (rg_runV (As := [.int a1, .int a2, .int (a3 + 1), .int a4]) (rest := []) hC hT G (c_K4_X11_canPlay l D cy lay Γ h _) (cwV 4 hC.2.2.2.2 gX11_canPlay_X11_canPlay rfl rfl rfl hdV_X11_canPlay ⟨Nat.le_of_ble_eq_true rfl, Nat.le_of_ble_eq_true rfl⟩) (rg_recv hT G (by decide) r_mo k_X11) rfl hl.1 rfl (Nat.le_of_ble_eq_true rfl) dX11_canPlay_28 ⟨Nat.le_of_ble_eq_true rfl, Nat.le_of_ble_eq_true rfl⟩) (fun r38 σ37 H locs h G => ?_)
      (try dsimp only at h)
      exact rg_zret hC hr hlocks G h.1 h.2 dX11_canPlay_31
  · replace h := h.1 c1
    refine lv_iconst (v := 1) hC.1 hC.2.1 dX11_canPlay_6 (by decide) ?_
    exact rg_zret hC hr hlocks G rfl h dX11_canPlay_7
