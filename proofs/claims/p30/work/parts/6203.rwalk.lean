abbrev rm_K2_X11_canPlay : Room := { frames := 7, cells := 0, slots := 0, locals := 176 }
theorem i_K2_X11_canPlay_X11 : ∀ w ∈ wsX110, w ∈ wsX11_canPlay := fun _ h => List.mem_cons_of_mem _ (List.mem_append_left _ (List.mem_append_left _ (List.mem_append_right _ h)))
theorem i_K2_X11_canPlay_X9 : ∀ w ∈ wsX90, w ∈ wsX11_canPlay := fun _ h => List.mem_cons_of_mem _ (List.mem_append_left _ (List.mem_append_right _ h))
def u_K2_X11_canPlay_123 (Γ : RG) (post : Int32 → MS → Prop) (a1 : Int32) (a2 : Int32) (a3 : Int32) (a4 : Int32) (K35 : MS → Int32 → Int32 → Prop) : Nat → MS → Int32 → Int32 → Int32 → Int32 → Prop
  | 0, _, _, _, _, _ => False
  | n + 1, σ, v5, v6, v7, v8 => w_lp_Jx4a65c_size_8abf5 Γ (fun r19 σ18 => ((r19 ≤ v8 → K35 σ18 v5 (v6 + 1)) ∧ (¬ r19 ≤ v8 → ((v5 = 2 → w_X11_isIn Γ (fun r23 σ22 => ((r23 = 0 → u_K2_X11_canPlay_123 Γ post a1 a2 a3 a4 K35 n σ22 v5 v6 v7 (v8 + 1)) ∧ (¬ r23 = 0 → w_lp_Jx4a65c_get_915e3 Γ (fun j26 σ25 => ((j26 < 10 ∧ j26 < Γ.1) ∧ w_X11_isIn Γ (fun r29 σ28 => ((r29 = 0 → u_K2_X11_canPlay_123 Γ post a1 a2 a3 a4 K35 n σ28 v5 v6 v7 (v8 + 1)) ∧ (¬ r29 = 0 → w_K3_X11_canPlay Γ (fun r32 σ31 => ((r32 = 0 → u_K2_X11_canPlay_123 Γ post a1 a2 a3 a4 K35 n σ31 v5 v6 v7 (v8 + 1)) ∧ (¬ r32 = 0 → post 1 σ31))) σ28 a1 a2 (a3 + 1) (v7 ||| (1 <<< (v8 &&& 31)))))) σ25 (σ25 (13 + j26) 0) a3)) σ22 v8))) σ18 (a1 &&& (v7 ^^^ (-1))) v8) ∧ (¬ v5 = 2 → K35 σ18 v5 (v6 + 1)))))) σ
set_option maxHeartbeats 4000000 in
set_option maxRecDepth 100000 in
theorem l_K2_X11_canPlay_123 {p : Program} {l : Launch} {e : Env} {s : State} {m : MethodId} {args : Array Value} {below : List Frame} {meth : Method} {c : Code} {D : va_G} {cy : Nat → ClassId} {lay : Nat → Nat} {Γ : RG} {post : Int32 → MS → Prop} (a1 : Int32) (a2 : Int32) (a3 : Int32) (a4 : Int32) (K35 : MS → Int32 → Int32 → Prop) (hC : CallFix p m c cX11_canPlay 9 s args wsX11_canPlay RX11) (hr : meth.sig.returnType = some .boolean) (hlocks : meth.locks = false) (hT : rT D cy lay Γ s) (hK35 : ∀ (σ : MS) (v5 : Int32) (v6 : Int32), K35 σ v5 v6 → ∀ (H : Heap) (locs : List Loc) (ls : Array Slot), rG D cy lay Γ tn σ (rA cy lay Γ s.heap.size) s.heap H locs → lv_has ls 9 [(0, .ref (lay 0)), (1, .int a1), (2, .int a2), (3, .int a3), (4, .int a4), (5, .int v5), (6, .int v6)] → W p l e rm_K2_X11_canPlay s m args below meth c H locs 0 0 (MQ below (va_Qi post (rO D cy lay Γ) (rA cy lay Γ s.heap.size)) args s 0 0 (rA cy lay Γ s.heap.size)) (F0 m 35 ls [])) : ∀ (n : Nat), ∀ (σ : MS) (v5 : Int32) (v6 : Int32) (v7 : Int32) (v8 : Int32), u_K2_X11_canPlay_123 Γ post a1 a2 a3 a4 K35 n σ v5 v6 v7 v8 → ∀ (H : Heap) (locs : List Loc) (ls : Array Slot), rG D cy lay Γ tn σ (rA cy lay Γ s.heap.size) s.heap H locs → lv_has ls 9 [(0, .ref (lay 0)), (1, .int a1), (2, .int a2), (3, .int a3), (4, .int a4), (5, .int v5), (6, .int v6), (7, .int v7), (8, .int v8)] → W p l e rm_K2_X11_canPlay s m args below meth c H locs 0 0 (MQ below (va_Qi post (rO D cy lay Γ) (rA cy lay Γ s.heap.size)) args s 0 0 (rA cy lay Γ s.heap.size)) (F0 m 123 ls []) := by
  intro n
  induction n with
  | zero =>
    intro σ v5 v6 v7 v8 h
    exact h.elim
  | succ n ih =>
    intro σ v5 v6 v7 v8 h H locs ls G hl
    rw [u_K2_X11_canPlay_123] at h
    refine lv_iload hC.1 hC.2.1 dX11_canPlay_123 (lv_at hl 8 rfl) ?_
    refine lv_aload_n hC.1 hC.2.1 dX11_canPlay_125 rfl (lv_at hl 0 rfl) ?_
    refine rg_get hC hT G (by decide) r_mo k_X11 i_K2_X11_canPlay_X11 3 (by decide) (wm 1 rfl) rfl dX11_canPlay_126 ?_
    refine rg_i G (rg_runV (As := []) (rest := [.int v8]) hC hT G (c_lp_Jx4a65c_size_8abf5 l D cy lay Γ h _) (cwV 0 hC.2.2.2.2 gX11_canPlay_Jx4a65c_size_8abf5 rfl rfl rfl hdV_Jx4a65c_size_8abf5 ⟨Nat.le_of_ble_eq_true rfl, Nat.le_of_ble_eq_true rfl⟩) (rg_recv hT G (by decide) r_lp k_AL) rfl hl.1 rfl (Nat.le_of_ble_eq_true rfl) dX11_canPlay_129 ⟨Nat.le_of_ble_eq_true rfl, Nat.le_of_ble_eq_true rfl⟩) (fun r19 σ18 H locs h G => ?_)
    (try dsimp only at h)
    refine lv_icmp_ge (tgt := 204) hC.1 hC.2.1 dX11_canPlay_132 (by decide) (fun c20 => ?_) (fun c20 => ?_)
    · replace h := h.1 c20
      refine lv_iinc (v := v6 + 1) (lv' := [(6, .int (v6 + 1)), (0, .ref (lay 0)), (1, .int a1), (2, .int a2), (3, .int a3), (4, .int a4), (5, .int v5), (7, .int v7), (8, .int v8)]) hC.1 hC.2.1 dX11_canPlay_204 hl (k := 6) rfl rfl (by decide) rfl (fun ls hl => ?_)
      refine lv_goto (tgt := 35) hC.1 hC.2.1 dX11_canPlay_207 (by decide) ?_
      exact hK35 _ _ _ h _ _ _ G (lv_sub hl [1, 2, 3, 4, 5, 6, 0] rfl)
    · replace h := h.2 c20
      refine lv_iload hC.1 hC.2.1 dX11_canPlay_135 (lv_at hl 5 rfl) ?_
      refine lv_iconst (v := 2) hC.1 hC.2.1 dX11_canPlay_137 (by decide) ?_
      refine lv_icmp_ne (tgt := 204) hC.1 hC.2.1 dX11_canPlay_138 (by decide) (fun c21 => ?_) (fun c21 => ?_)
      · replace h := h.2 c21
        refine lv_iinc (v := v6 + 1) (lv' := [(6, .int (v6 + 1)), (0, .ref (lay 0)), (1, .int a1), (2, .int a2), (3, .int a3), (4, .int a4), (5, .int v5), (7, .int v7), (8, .int v8)]) hC.1 hC.2.1 dX11_canPlay_204 hl (k := 6) rfl rfl (by decide) rfl (fun ls hl => ?_)
        refine lv_goto (tgt := 35) hC.1 hC.2.1 dX11_canPlay_207 (by decide) ?_
        exact hK35 _ _ _ h _ _ _ G (lv_sub hl [1, 2, 3, 4, 5, 6, 0] rfl)
      · replace h := h.1 c21
        refine lv_iload_n hC.1 hC.2.1 dX11_canPlay_141 rfl (lv_at hl 1 rfl) ?_
        refine lv_iload hC.1 hC.2.1 dX11_canPlay_142 (lv_at hl 7 rfl) ?_
        refine lv_iconst (v := (-1)) hC.1 hC.2.1 dX11_canPlay_144 (by decide) ?_
        refine lv_ixor hC.1 hC.2.1 dX11_canPlay_145 ?_
        refine lv_iand hC.1 hC.2.1 dX11_canPlay_146 ?_
        refine lv_iload hC.1 hC.2.1 dX11_canPlay_147 (lv_at hl 8 rfl) ?_
        refine rg_i G (rg_runS (As := [.int (a1 &&& (v7 ^^^ (-1))), .int v8]) (rest := []) hC hT G (c_X11_isIn l D cy lay Γ h _) (va_cwS 2 hC.2.2.2.2 gX11_canPlay_X11_isIn rfl rfl rfl hdS_X11_isIn ⟨Nat.le_of_ble_eq_true rfl, Nat.le_of_ble_eq_true rfl⟩) rfl hl.1 rfl (Nat.le_of_ble_eq_true rfl) dX11_canPlay_149 ⟨Nat.le_of_ble_eq_true rfl, Nat.le_of_ble_eq_true rfl⟩) (fun r23 σ22 H locs h G => ?_)
        (try dsimp only at h)
        refine lv_if_eq (tgt := 198) hC.1 hC.2.1 dX11_canPlay_152 (by decide) (fun c24 => ?_) (fun c24 => ?_)
        · replace h := h.1 c24
          refine lv_iinc (v := v8 + 1) (lv' := [(8, .int (v8 + 1)), (0, .ref (lay 0)), (1, .int a1), (2, .int a2), (3, .int a3), (4, .int a4), (5, .int v5), (6, .int v6), (7, .int v7)]) hC.1 hC.2.1 dX11_canPlay_198 hl (k := 8) rfl rfl (by decide) rfl (fun ls hl => ?_)
          refine lv_goto (tgt := 123) hC.1 hC.2.1 dX11_canPlay_201 (by decide) ?_
          exact ih _ _ _ _ _ h _ _ _ G (lv_sub hl [1, 2, 3, 4, 5, 6, 7, 8, 0] rfl)
        · replace h := h.2 c24
          refine lv_aload_n hC.1 hC.2.1 dX11_canPlay_155 rfl (lv_at hl 0 rfl) ?_
          refine rg_get hC hT G (by decide) r_mo k_X11 i_K2_X11_canPlay_X11 3 (by decide) (wm 1 rfl) rfl dX11_canPlay_156 ?_
          refine lv_iload hC.1 hC.2.1 dX11_canPlay_159 (lv_at hl 8 rfl) ?_
          refine rg_r (f := fun i => lay (13 + i)) G (rg_runV (As := [.int v8]) (rest := []) hC hT G (c_lp_Jx4a65c_get_915e3 l D cy lay Γ h _) (cwV 1 hC.2.2.2.2 gX11_canPlay_Jx4a65c_get_915e3 rfl rfl rfl hdV_Jx4a65c_get_915e3 ⟨Nat.le_of_ble_eq_true rfl, Nat.le_of_ble_eq_true rfl⟩) (rg_recv hT G (by decide) r_lp k_AL) rfl hl.1 rfl (Nat.le_of_ble_eq_true rfl) dX11_canPlay_161 ⟨Nat.le_of_ble_eq_true rfl, Nat.le_of_ble_eq_true rfl⟩) (fun j26 σ25 H locs h G => ?_)
          (try dsimp only at h)
          obtain ⟨hj27, h⟩ := h
          refine rg_cast hC hT k_X9 (wm 2 rfl) (rg_recv hT G (rk_pl hj27) (r_pl hj27) k_X9) dX11_canPlay_164 ?_
          refine rg_getN hC hT G (rk_pl hj27) (r_pl hj27) k_X9 i_K2_X11_canPlay_X9 0 (by decide) 2 rfl rfl dX11_canPlay_167 ?_
          refine lv_iload_n hC.1 hC.2.1 dX11_canPlay_170 rfl (lv_at hl 3 rfl) ?_
          refine rg_i G (rg_runS (As := [.int (σ25 (13 + j26) 0), .int a3]) (rest := []) hC hT G (c_X11_isIn l D cy lay Γ h _) (va_cwS 2 hC.2.2.2.2 gX11_canPlay_X11_isIn rfl rfl rfl hdS_X11_isIn ⟨Nat.le_of_ble_eq_true rfl, Nat.le_of_ble_eq_true rfl⟩) rfl hl.1 rfl (Nat.le_of_ble_eq_true rfl) dX11_canPlay_171 ⟨Nat.le_of_ble_eq_true rfl, Nat.le_of_ble_eq_true rfl⟩) (fun r29 σ28 H locs h G => ?_)
          (try dsimp only at h)
          refine lv_if_eq (tgt := 198) hC.1 hC.2.1 dX11_canPlay_174 (by decide) (fun c30 => ?_) (fun c30 => ?_)
          · replace h := h.1 c30
            refine lv_iinc (v := v8 + 1) (lv' := [(8, .int (v8 + 1)), (0, .ref (lay 0)), (1, .int a1), (2, .int a2), (3, .int a3), (4, .int a4), (5, .int v5), (6, .int v6), (7, .int v7)]) hC.1 hC.2.1 dX11_canPlay_198 hl (k := 8) rfl rfl (by decide) rfl (fun ls hl => ?_)
            refine lv_goto (tgt := 123) hC.1 hC.2.1 dX11_canPlay_201 (by decide) ?_
            exact ih _ _ _ _ _ h _ _ _ G (lv_sub hl [1, 2, 3, 4, 5, 6, 7, 8, 0] rfl)
          · replace h := h.2 c30
            refine lv_aload_n hC.1 hC.2.1 dX11_canPlay_177 rfl (lv_at hl 0 rfl) ?_
            refine lv_iload_n hC.1 hC.2.1 dX11_canPlay_178 rfl (lv_at hl 1 rfl) ?_
            refine lv_iload_n hC.1 hC.2.1 dX11_canPlay_179 rfl (lv_at hl 2 rfl) ?_
            refine lv_iload_n hC.1 hC.2.1 dX11_canPlay_180 rfl (lv_at hl 3 rfl) ?_
            refine lv_iconst (v := 1) hC.1 hC.2.1 dX11_canPlay_181 (by decide) ?_
            refine lv_iadd hC.1 hC.2.1 dX11_canPlay_182 ?_
            refine lv_iload hC.1 hC.2.1 dX11_canPlay_183 (lv_at hl 7 rfl) ?_
            refine lv_iconst (v := 1) hC.1 hC.2.1 dX11_canPlay_185 (by decide) ?_
            refine lv_iload hC.1 hC.2.1 dX11_canPlay_186 (lv_at hl 8 rfl) ?_
            refine lv_ishl hC.1 hC.2.1 dX11_canPlay_188 ?_
            refine lv_ior hC.1 hC.2.1 dX11_canPlay_189 ?_
            refine rg_i G (rg_runV (As := [.int a1, .int a2, .int (a3 + 1), .int (v7 ||| (1 <<< (v8 &&& 31)))]) (rest := []) hC hT G (c_K3_X11_canPlay l D cy lay Γ h _) (cwV 4 hC.2.2.2.2 gX11_canPlay_X11_canPlay rfl rfl rfl hdV_X11_canPlay ⟨Nat.le_of_ble_eq_true rfl, Nat.le_of_ble_eq_true rfl⟩) (rg_recv hT G (by decide) r_mo k_X11) rfl hl.1 rfl (Nat.le_of_ble_eq_true rfl) dX11_canPlay_190 ⟨Nat.le_of_ble_eq_true rfl, Nat.le_of_ble_eq_true rfl⟩) (fun r32 σ31 H locs h G => ?_)
            (try dsimp only at h)
            refine lv_if_eq (tgt := 198) hC.1 hC.2.1 dX11_canPlay_193 (by decide) (fun c33 => ?_) (fun c33 => ?_)
            · replace h := h.1 c33
              refine lv_iinc (v := v8 + 1) (lv' := [(8, .int (v8 + 1)), (0, .ref (lay 0)), (1, .int a1), (2, .int a2), (3, .int a3), (4, .int a4), (5, .int v5), (6, .int v6), (7, .int v7)]) hC.1 hC.2.1 dX11_canPlay_198 hl (k := 8) rfl rfl (by decide) rfl (fun ls hl => ?_)
              refine lv_goto (tgt := 123) hC.1 hC.2.1 dX11_canPlay_201 (by decide) ?_
              exact ih _ _ _ _ _ h _ _ _ G (lv_sub hl [1, 2, 3, 4, 5, 6, 7, 8, 0] rfl)
            · replace h := h.2 c33
              refine lv_iconst (v := 1) hC.1 hC.2.1 dX11_canPlay_196 (by decide) ?_
              exact rg_zret hC hr hlocks G rfl h dX11_canPlay_197
def u_K2_X11_canPlay_35 (Γ : RG) (post : Int32 → MS → Prop) (a1 : Int32) (a2 : Int32) (a3 : Int32) (a4 : Int32) : Nat → MS → Int32 → Int32 → Prop
  | 0, _, _, _ => False
  | n + 1, σ, v5, v6 => w_lp_Jx4a65c_size_8abf5 Γ (fun r6 σ5 => ((r6 ≤ v6 → post 0 σ5) ∧ (¬ r6 ≤ v6 → w_X11_isIn Γ (fun r9 σ8 => ((r9 = 0 → u_K2_X11_canPlay_35 Γ post a1 a2 a3 a4 n σ8 v5 (v6 + 1)) ∧ (¬ r9 = 0 → w_lp_Jx4a65c_get_915e3 Γ (fun j12 σ11 => ((j12 < 10 ∧ j12 < Γ.1) ∧ w_X11_isIn Γ (fun r15 σ14 => ((r15 = 0 → u_K2_X11_canPlay_35 Γ post a1 a2 a3 a4 n σ14 v5 (v6 + 1)) ∧ (¬ r15 = 0 → ((v5 = 1 → w_K3_X11_canPlay Γ (fun r35 σ34 => ((r35 = 0 → (∃ k, u_K2_X11_canPlay_123 Γ post a1 a2 a3 a4 (fun σ w0 w1 => u_K2_X11_canPlay_35 Γ post a1 a2 a3 a4 n σ w0 w1) k σ34 v5 v6 (a4 ||| (1 <<< (v6 &&& 31))) (v6 + 1))) ∧ (¬ r35 = 0 → post 1 σ34))) σ14 a1 a2 (a3 + 1) (a4 ||| (1 <<< (v6 &&& 31)))) ∧ (¬ v5 = 1 → (∃ k, u_K2_X11_canPlay_123 Γ post a1 a2 a3 a4 (fun σ w0 w1 => u_K2_X11_canPlay_35 Γ post a1 a2 a3 a4 n σ w0 w1) k σ14 v5 v6 (a4 ||| (1 <<< (v6 &&& 31))) (v6 + 1))))))) σ11 (σ11 (13 + j12) 0) a3)) σ8 v6))) σ5 (a1 &&& (a4 ^^^ (-1))) v6))) σ
set_option maxHeartbeats 4000000 in
set_option maxRecDepth 100000 in
theorem l_K2_X11_canPlay_35 {p : Program} {l : Launch} {e : Env} {s : State} {m : MethodId} {args : Array Value} {below : List Frame} {meth : Method} {c : Code} {D : va_G} {cy : Nat → ClassId} {lay : Nat → Nat} {Γ : RG} {post : Int32 → MS → Prop} (a1 : Int32) (a2 : Int32) (a3 : Int32) (a4 : Int32) (hC : CallFix p m c cX11_canPlay 9 s args wsX11_canPlay RX11) (hr : meth.sig.returnType = some .boolean) (hlocks : meth.locks = false) (hT : rT D cy lay Γ s) : ∀ (n : Nat), ∀ (σ : MS) (v5 : Int32) (v6 : Int32), u_K2_X11_canPlay_35 Γ post a1 a2 a3 a4 n σ v5 v6 → ∀ (H : Heap) (locs : List Loc) (ls : Array Slot), rG D cy lay Γ tn σ (rA cy lay Γ s.heap.size) s.heap H locs → lv_has ls 9 [(0, .ref (lay 0)), (1, .int a1), (2, .int a2), (3, .int a3), (4, .int a4), (5, .int v5), (6, .int v6)] → W p l e rm_K2_X11_canPlay s m args below meth c H locs 0 0 (MQ below (va_Qi post (rO D cy lay Γ) (rA cy lay Γ s.heap.size)) args s 0 0 (rA cy lay Γ s.heap.size)) (F0 m 35 ls []) := by
  intro n
  induction n with
  | zero =>
    intro σ v5 v6 h
    exact h.elim
  | succ n ih =>
    intro σ v5 v6 h H locs ls G hl
    rw [u_K2_X11_canPlay_35] at h
    refine lv_iload hC.1 hC.2.1 dX11_canPlay_35 (lv_at hl 6 rfl) ?_
    refine lv_aload_n hC.1 hC.2.1 dX11_canPlay_37 rfl (lv_at hl 0 rfl) ?_
    refine rg_get hC hT G (by decide) r_mo k_X11 i_K2_X11_canPlay_X11 3 (by decide) (wm 1 rfl) rfl dX11_canPlay_38 ?_
    refine rg_i G (rg_runV (As := []) (rest := [.int v6]) hC hT G (c_lp_Jx4a65c_size_8abf5 l D cy lay Γ h _) (cwV 0 hC.2.2.2.2 gX11_canPlay_Jx4a65c_size_8abf5 rfl rfl rfl hdV_Jx4a65c_size_8abf5 ⟨Nat.le_of_ble_eq_true rfl, Nat.le_of_ble_eq_true rfl⟩) (rg_recv hT G (by decide) r_lp k_AL) rfl hl.1 rfl (Nat.le_of_ble_eq_true rfl) dX11_canPlay_41 ⟨Nat.le_of_ble_eq_true rfl, Nat.le_of_ble_eq_true rfl⟩) (fun r6 σ5 H locs h G => ?_)
    (try dsimp only at h)
    refine lv_icmp_ge (tgt := 210) hC.1 hC.2.1 dX11_canPlay_44 (by decide) (fun c7 => ?_) (fun c7 => ?_)
    · replace h := h.1 c7
      refine lv_iconst (v := 0) hC.1 hC.2.1 dX11_canPlay_210 (by decide) ?_
      exact rg_zret hC hr hlocks G rfl h dX11_canPlay_211
    · replace h := h.2 c7
      refine lv_iload_n hC.1 hC.2.1 dX11_canPlay_47 rfl (lv_at hl 1 rfl) ?_
      refine lv_iload hC.1 hC.2.1 dX11_canPlay_48 (lv_at hl 4 rfl) ?_
      refine lv_iconst (v := (-1)) hC.1 hC.2.1 dX11_canPlay_50 (by decide) ?_
      refine lv_ixor hC.1 hC.2.1 dX11_canPlay_51 ?_
      refine lv_iand hC.1 hC.2.1 dX11_canPlay_52 ?_
      refine lv_iload hC.1 hC.2.1 dX11_canPlay_53 (lv_at hl 6 rfl) ?_
      refine rg_i G (rg_runS (As := [.int (a1 &&& (a4 ^^^ (-1))), .int v6]) (rest := []) hC hT G (c_X11_isIn l D cy lay Γ h _) (va_cwS 2 hC.2.2.2.2 gX11_canPlay_X11_isIn rfl rfl rfl hdS_X11_isIn ⟨Nat.le_of_ble_eq_true rfl, Nat.le_of_ble_eq_true rfl⟩) rfl hl.1 rfl (Nat.le_of_ble_eq_true rfl) dX11_canPlay_55 ⟨Nat.le_of_ble_eq_true rfl, Nat.le_of_ble_eq_true rfl⟩) (fun r9 σ8 H locs h G => ?_)
      (try dsimp only at h)
      refine lv_if_eq (tgt := 204) hC.1 hC.2.1 dX11_canPlay_58 (by decide) (fun c10 => ?_) (fun c10 => ?_)
      · replace h := h.1 c10
        refine lv_iinc (v := v6 + 1) (lv' := [(6, .int (v6 + 1)), (0, .ref (lay 0)), (1, .int a1), (2, .int a2), (3, .int a3), (4, .int a4), (5, .int v5)]) hC.1 hC.2.1 dX11_canPlay_204 hl (k := 6) rfl rfl (by decide) rfl (fun ls hl => ?_)
        refine lv_goto (tgt := 35) hC.1 hC.2.1 dX11_canPlay_207 (by decide) ?_
        exact ih _ _ _ h _ _ _ G (lv_sub hl [1, 2, 3, 4, 5, 6, 0] rfl)
      · replace h := h.2 c10
        refine lv_aload_n hC.1 hC.2.1 dX11_canPlay_61 rfl (lv_at hl 0 rfl) ?_
        refine rg_get hC hT G (by decide) r_mo k_X11 i_K2_X11_canPlay_X11 3 (by decide) (wm 1 rfl) rfl dX11_canPlay_62 ?_
        refine lv_iload hC.1 hC.2.1 dX11_canPlay_65 (lv_at hl 6 rfl) ?_
        refine rg_r (f := fun i => lay (13 + i)) G (rg_runV (As := [.int v6]) (rest := []) hC hT G (c_lp_Jx4a65c_get_915e3 l D cy lay Γ h _) (cwV 1 hC.2.2.2.2 gX11_canPlay_Jx4a65c_get_915e3 rfl rfl rfl hdV_Jx4a65c_get_915e3 ⟨Nat.le_of_ble_eq_true rfl, Nat.le_of_ble_eq_true rfl⟩) (rg_recv hT G (by decide) r_lp k_AL) rfl hl.1 rfl (Nat.le_of_ble_eq_true rfl) dX11_canPlay_67 ⟨Nat.le_of_ble_eq_true rfl, Nat.le_of_ble_eq_true rfl⟩) (fun j12 σ11 H locs h G => ?_)
        (try dsimp only at h)
        obtain ⟨hj13, h⟩ := h
        refine rg_cast hC hT k_X9 (wm 2 rfl) (rg_recv hT G (rk_pl hj13) (r_pl hj13) k_X9) dX11_canPlay_70 ?_
        refine rg_getN hC hT G (rk_pl hj13) (r_pl hj13) k_X9 i_K2_X11_canPlay_X9 0 (by decide) 2 rfl rfl dX11_canPlay_73 ?_
        refine lv_iload_n hC.1 hC.2.1 dX11_canPlay_76 rfl (lv_at hl 3 rfl) ?_
        refine rg_i G (rg_runS (As := [.int (σ11 (13 + j12) 0), .int a3]) (rest := []) hC hT G (c_X11_isIn l D cy lay Γ h _) (va_cwS 2 hC.2.2.2.2 gX11_canPlay_X11_isIn rfl rfl rfl hdS_X11_isIn ⟨Nat.le_of_ble_eq_true rfl, Nat.le_of_ble_eq_true rfl⟩) rfl hl.1 rfl (Nat.le_of_ble_eq_true rfl) dX11_canPlay_77 ⟨Nat.le_of_ble_eq_true rfl, Nat.le_of_ble_eq_true rfl⟩) (fun r15 σ14 H locs h G => ?_)
        (try dsimp only at h)
        refine lv_if_ne (tgt := 86) hC.1 hC.2.1 dX11_canPlay_80 (by decide) (fun c16 => ?_) (fun c16 => ?_)
        · replace h := h.2 c16
          refine lv_iload hC.1 hC.2.1 dX11_canPlay_86 (lv_at hl 4 rfl) ?_
          refine lv_iconst (v := 1) hC.1 hC.2.1 dX11_canPlay_88 (by decide) ?_
          refine lv_iload hC.1 hC.2.1 dX11_canPlay_89 (lv_at hl 6 rfl) ?_
          refine lv_ishl hC.1 hC.2.1 dX11_canPlay_91 ?_
          refine lv_ior hC.1 hC.2.1 dX11_canPlay_92 ?_
          refine lv_istore (lv' := [(7, .int (a4 ||| (1 <<< (v6 &&& 31)))), (0, .ref (lay 0)), (1, .int a1), (2, .int a2), (3, .int a3), (4, .int a4), (5, .int v5), (6, .int v6)]) hC.1 hC.2.1 dX11_canPlay_93 hl (by decide) rfl (fun ls hl => ?_)
          refine lv_iload hC.1 hC.2.1 dX11_canPlay_95 (lv_at hl 6 rfl) ?_
          refine lv_iconst (v := 1) hC.1 hC.2.1 dX11_canPlay_97 (by decide) ?_
          refine lv_icmp_ne (tgt := 117) hC.1 hC.2.1 dX11_canPlay_98 (by decide) (fun c17 => ?_) (fun c17 => ?_)
          · replace h := h.2 c17
            refine lv_iload hC.1 hC.2.1 dX11_canPlay_117 (lv_at hl 7 rfl) ?_
            refine lv_iconst (v := 1) hC.1 hC.2.1 dX11_canPlay_119 (by decide) ?_
            refine lv_iadd hC.1 hC.2.1 dX11_canPlay_120 ?_
            refine lv_istore (lv' := [(8, .int (v6 + 1)), (7, .int (a4 ||| (1 <<< (v6 &&& 31)))), (0, .ref (lay 0)), (1, .int a1), (2, .int a2), (3, .int a3), (4, .int a4), (5, .int v5), (6, .int v6)]) hC.1 hC.2.1 dX11_canPlay_121 hl (by decide) rfl (fun ls hl => ?_)
            obtain ⟨n1, h⟩ := h
            exact l_K2_X11_canPlay_123 a1 a2 a3 a4 (fun σ w0 w1 => u_K2_X11_canPlay_35 Γ post a1 a2 a3 a4 n σ w0 w1) hC hr hlocks hT ih n1 _ _ _ _ _ h _ _ _ G (lv_sub hl [2, 3, 4, 5, 6, 7, 8, 1, 0] rfl)
          · replace h := h.1 c17
            refine lv_aload_n hC.1 hC.2.1 dX11_canPlay_101 rfl (lv_at hl 1 rfl) ?_
            refine lv_iload_n hC.1 hC.2.1 dX11_canPlay_102 rfl (lv_at hl 2 rfl) ?_
            refine lv_iload_n hC.1 hC.2.1 dX11_canPlay_103 rfl (lv_at hl 3 rfl) ?_
            refine lv_iload_n hC.1 hC.2.1 dX11_canPlay_104 rfl (lv_at hl 4 rfl) ?_
            refine lv_iconst (v := 1) hC.1 hC.2.1 dX11_canPlay_105 (by decide) ?_
            refine lv_iadd hC.1 hC.2.1 dX11_canPlay_106 ?_
            refine lv_iload hC.1 hC.2.1 dX11_canPlay_107 (lv_at hl 0 rfl) ?_
            refine rg_i G (rg_runV (As := [.int a1, .int a2, .int (a3 + 1), .int (a4 ||| (1 <<< (v6 &&& 31)))]) (rest := []) hC hT G (c_K3_X11_canPlay l D cy lay Γ h _) (cwV 4 hC.2.2.2.2 gX11_canPlay_X11_canPlay rfl rfl rfl hdV_X11_canPlay ⟨Nat.le_of_ble_eq_true rfl, Nat.le_of_ble_eq_true rfl⟩) (rg_recv hT G (by decide) r_mo k_X11) rfl hl.1 rfl (Nat.le_of_ble_eq_true rfl) dX11_canPlay_109 ⟨Nat.le_of_ble_eq_true rfl, Nat.le_of_ble_eq_true rfl⟩) (fun r35 σ34 H locs h G => ?_)
            (try dsimp only at h)
            refine lv_if_eq (tgt := 117) hC.1 hC.2.1 dX11_canPlay_112 (by decide) (fun c36 => ?_) (fun c36 => ?_)
            · replace h := h.1 c36
              refine lv_iload hC.1 hC.2.1 dX11_canPlay_117 (lv_at hl 7 rfl) ?_
              refine lv_iconst (v := 1) hC.1 hC.2.1 dX11_canPlay_119 (by decide) ?_
              refine lv_iadd hC.1 hC.2.1 dX11_canPlay_120 ?_
              refine lv_istore (lv' := [(8, .int (v6 + 1)), (7, .int (a4 ||| (1 <<< (v6 &&& 31)))), (0, .ref (lay 0)), (1, .int a1), (2, .int a2), (3, .int a3), (4, .int a4), (5, .int v5), (6, .int v6)]) hC.1 hC.2.1 dX11_canPlay_121 hl (by decide) rfl (fun ls hl => ?_)
              obtain ⟨n1, h⟩ := h
              exact l_K2_X11_canPlay_123 a1 a2 a3 a4 (fun σ w0 w1 => u_K2_X11_canPlay_35 Γ post a1 a2 a3 a4 n σ w0 w1) hC hr hlocks hT ih n1 _ _ _ _ _ h _ _ _ G (lv_sub hl [2, 3, 4, 5, 6, 7, 8, 1, 0] rfl)
            · replace h := h.2 c36
              refine lv_iconst (v := 1) hC.1 hC.2.1 dX11_canPlay_115 (by decide) ?_
              exact rg_zret hC hr hlocks G rfl h dX11_canPlay_116
        · replace h := h.1 c16
          refine lv_goto (tgt := 204) hC.1 hC.2.1 dX11_canPlay_83 (by decide) ?_
          refine lv_iinc (v := v6 + 1) (lv' := [(6, .int (v6 + 1)), (0, .ref (lay 0)), (1, .int a1), (2, .int a2), (3, .int a3), (4, .int a4), (5, .int v5)]) hC.1 hC.2.1 dX11_canPlay_204 hl (k := 6) rfl rfl (by decide) rfl (fun ls hl => ?_)
          refine lv_goto (tgt := 35) hC.1 hC.2.1 dX11_canPlay_207 (by decide) ?_
          exact ih _ _ _ h _ _ _ G (lv_sub hl [1, 2, 3, 4, 5, 6, 0] rfl)
def w_K2_X11_canPlay (Γ : RG) (post : Int32 → MS → Prop) (σ : MS) (a1 : Int32) (a2 : Int32) (a3 : Int32) (a4 : Int32) : Prop := ((a3 = 6 → post 1 σ) ∧ (¬ a3 = 6 → w_X11_needed Γ (fun r3 σ2 => ((r3 = 0 → w_K3_X11_canPlay Γ (fun r38 σ37 => (narrow .boolean (.int r38) = .int r38 ∧ post r38 σ37)) σ2 a1 a2 (a3 + 1) a4) ∧ (¬ r3 = 0 → (∃ k, u_K2_X11_canPlay_35 Γ post a1 a2 a3 a4 k σ2 r3 0)))) σ a2 a3))
set_option maxHeartbeats 4000000 in
set_option maxRecDepth 100000 in
theorem c_K2_X11_canPlay (l : Launch) (D : va_G) (cy : Nat → ClassId) (lay : Nat → Nat) (Γ : RG) {σ : MS} {post : Int32 → MS → Prop} {a1 : Int32} {a2 : Int32} {a3 : Int32} {a4 : Int32} (h : w_K2_X11_canPlay Γ post σ a1 a2 a3 a4) (sz : Nat) : Met l yX11_canPlay wsX11_canPlay rm_K2_X11_canPlay (va_Pc [.ref (lay 0), .int a1, .int a2, .int a3, .int a4] (rI D cy lay Γ σ sz)) (va_Qi post (rO D cy lay Γ) (rA cy lay Γ sz)) 0 0 (rA cy lay Γ sz) := by
  refine rg_ofW (cc := cX11_canPlay) (maxL := 9) (ret := some .boolean) (own := RX11) (Qc := fun sz => va_Qi post (rO D cy lay Γ) (rA cy lay Γ sz)) (by decide) rfl (Nat.le_of_ble_eq_true rfl) rfl ?_
  intro p e s m args below meth c ls hC hr hlocks hT G hl
  unfold w_K2_X11_canPlay at h
  have hl : lv_has ls 9 [(0, .ref (lay 0)), (1, .int a1), (2, .int a2), (3, .int a3), (4, .int a4)] := hl
  refine lv_iload_n hC.1 hC.2.1 dX11_canPlay_0 rfl (lv_at hl 3 rfl) ?_
  refine lv_bipush (v := 6) hC.1 hC.2.1 dX11_canPlay_1 (by decide) ?_
  refine lv_icmp_ne (tgt := 8) hC.1 hC.2.1 dX11_canPlay_3 (by decide) (fun c1 => ?_) (fun c1 => ?_)
  · replace h := h.2 c1
    refine lv_iload_n hC.1 hC.2.1 dX11_canPlay_8 rfl (lv_at hl 2 rfl) ?_
    refine lv_iload_n hC.1 hC.2.1 dX11_canPlay_9 rfl (lv_at hl 3 rfl) ?_
    refine rg_i G (rg_runS (As := [.int a2, .int a3]) (rest := []) hC hT G (c_X11_needed l D cy lay Γ h _) (va_cwS 2 hC.2.2.2.2 gX11_canPlay_X11_needed rfl rfl rfl hdS_X11_needed ⟨Nat.le_of_ble_eq_true rfl, Nat.le_of_ble_eq_true rfl⟩) rfl hl.1 rfl (Nat.le_of_ble_eq_true rfl) dX11_canPlay_10 ⟨Nat.le_of_ble_eq_true rfl, Nat.le_of_ble_eq_true rfl⟩) (fun r3 σ2 H locs h G => ?_)
    (try dsimp only at h)
    refine lv_istore (lv' := [(5, .int r3), (0, .ref (lay 0)), (1, .int a1), (2, .int a2), (3, .int a3), (4, .int a4)]) hC.1 hC.2.1 dX11_canPlay_13 hl (by decide) rfl (fun ls hl => ?_)
    refine lv_iload hC.1 hC.2.1 dX11_canPlay_15 (lv_at hl 0 rfl) ?_
    refine lv_if_ne (tgt := 32) hC.1 hC.2.1 dX11_canPlay_17 (by decide) (fun c4 => ?_) (fun c4 => ?_)
    · replace h := h.2 c4
      refine lv_iconst (v := 0) hC.1 hC.2.1 dX11_canPlay_32 (by decide) ?_
      refine lv_istore (lv' := [(6, .int 0), (5, .int r3), (0, .ref (lay 0)), (1, .int a1), (2, .int a2), (3, .int a3), (4, .int a4)]) hC.1 hC.2.1 dX11_canPlay_33 hl (by decide) rfl (fun ls hl => ?_)
      obtain ⟨n1, h⟩ := h
      exact l_K2_X11_canPlay_35 a1 a2 a3 a4 hC hr hlocks hT n1 _ _ _ h _ _ _ G (lv_sub hl [2, 3, 4, 5, 6, 1, 0] rfl)
    · replace h := h.1 c4
      refine lv_aload_n hC.1 hC.2.1 dX11_canPlay_20 rfl (lv_at hl 1 rfl) ?_
      refine lv_iload_n hC.1 hC.2.1 dX11_canPlay_21 rfl (lv_at hl 2 rfl) ?_
      refine lv_iload_n hC.1 hC.2.1 dX11_canPlay_22 rfl (lv_at hl 3 rfl) ?_
      refine lv_iload_n hC.1 hC.2.1 dX11_canPlay_23 rfl (lv_at hl 4 rfl) ?_
      refine lv_iconst (v := 1) hC.1 hC.2.1 dX11_canPlay_24 (by decide) ?_
      refine lv_iadd hC.1 hC.2.1 dX11_canPlay_25 ?_
      refine lv_iload hC.1 hC.2.1 dX11_canPlay_26 (lv_at hl 5 rfl) ?_
      refine rg_i G (rg_runV (As := [.int a1, .int a2, .int (a3 + 1), .int a4]) (rest := []) hC hT G (c_K3_X11_canPlay l D cy lay Γ h _) (cwV 4 hC.2.2.2.2 gX11_canPlay_X11_canPlay rfl rfl rfl hdV_X11_canPlay ⟨Nat.le_of_ble_eq_true rfl, Nat.le_of_ble_eq_true rfl⟩) (rg_recv hT G (by decide) r_mo k_X11) rfl hl.1 rfl (Nat.le_of_ble_eq_true rfl) dX11_canPlay_28 ⟨Nat.le_of_ble_eq_true rfl, Nat.le_of_ble_eq_true rfl⟩) (fun r38 σ37 H locs h G => ?_)
      (try dsimp only at h)
      exact rg_zret hC hr hlocks G h.1 h.2 dX11_canPlay_31
  · replace h := h.1 c1
    refine lv_iconst (v := 1) hC.1 hC.2.1 dX11_canPlay_6 (by decide) ?_
    exact rg_zret hC hr hlocks G rfl h dX11_canPlay_7
abbrev rm_K1_X11_canPlay : Room := { frames := 8, cells := 0, slots := 0, locals := 204 }
theorem i_K1_X11_canPlay_X11 : ∀ w ∈ wsX110, w ∈ wsX11_canPlay := fun _ h => List.mem_cons_of_mem _ (List.mem_append_left _ (List.mem_append_left _ (List.mem_append_right _ h)))
theorem i_K1_X11_canPlay_X9 : ∀ w ∈ wsX90, w ∈ wsX11_canPlay := fun _ h => List.mem_cons_of_mem _ (List.mem_append_left _ (List.mem_append_right _ h))
def u_K1_X11_canPlay_123 (Γ : RG) (post : Int32 → MS → Prop) (a1 : Int32) (a2 : Int32) (a3 : Int32) (a4 : Int32) (K35 : MS → Int32 → Int32 → Prop) : Nat → MS → Int32 → Int32 → Int32 → Int32 → Prop
  | 0, _, _, _, _, _ => False
  | n + 1, σ, v5, v6, v7, v8 => w_lp_Jx4a65c_size_8abf5 Γ (fun r19 σ18 => ((r19 ≤ v8 → K35 σ18 v5 (v6 + 1)) ∧ (¬ r19 ≤ v8 → ((v5 = 2 → w_X11_isIn Γ (fun r23 σ22 => ((r23 = 0 → u_K1_X11_canPlay_123 Γ post a1 a2 a3 a4 K35 n σ22 v5 v6 v7 (v8 + 1)) ∧ (¬ r23 = 0 → w_lp_Jx4a65c_get_915e3 Γ (fun j26 σ25 => ((j26 < 10 ∧ j26 < Γ.1) ∧ w_X11_isIn Γ (fun r29 σ28 => ((r29 = 0 → u_K1_X11_canPlay_123 Γ post a1 a2 a3 a4 K35 n σ28 v5 v6 v7 (v8 + 1)) ∧ (¬ r29 = 0 → w_K2_X11_canPlay Γ (fun r32 σ31 => ((r32 = 0 → u_K1_X11_canPlay_123 Γ post a1 a2 a3 a4 K35 n σ31 v5 v6 v7 (v8 + 1)) ∧ (¬ r32 = 0 → post 1 σ31))) σ28 a1 a2 (a3 + 1) (v7 ||| (1 <<< (v8 &&& 31)))))) σ25 (σ25 (13 + j26) 0) a3)) σ22 v8))) σ18 (a1 &&& (v7 ^^^ (-1))) v8) ∧ (¬ v5 = 2 → K35 σ18 v5 (v6 + 1)))))) σ
set_option maxHeartbeats 4000000 in
set_option maxRecDepth 100000 in
theorem l_K1_X11_canPlay_123 {p : Program} {l : Launch} {e : Env} {s : State} {m : MethodId} {args : Array Value} {below : List Frame} {meth : Method} {c : Code} {D : va_G} {cy : Nat → ClassId} {lay : Nat → Nat} {Γ : RG} {post : Int32 → MS → Prop} (a1 : Int32) (a2 : Int32) (a3 : Int32) (a4 : Int32) (K35 : MS → Int32 → Int32 → Prop) (hC : CallFix p m c cX11_canPlay 9 s args wsX11_canPlay RX11) (hr : meth.sig.returnType = some .boolean) (hlocks : meth.locks = false) (hT : rT D cy lay Γ s) (hK35 : ∀ (σ : MS) (v5 : Int32) (v6 : Int32), K35 σ v5 v6 → ∀ (H : Heap) (locs : List Loc) (ls : Array Slot), rG D cy lay Γ tn σ (rA cy lay Γ s.heap.size) s.heap H locs → lv_has ls 9 [(0, .ref (lay 0)), (1, .int a1), (2, .int a2), (3, .int a3), (4, .int a4), (5, .int v5), (6, .int v6)] → W p l e rm_K1_X11_canPlay s m args below meth c H locs 0 0 (MQ below (va_Qi post (rO D cy lay Γ) (rA cy lay Γ s.heap.size)) args s 0 0 (rA cy lay Γ s.heap.size)) (F0 m 35 ls [])) : ∀ (n : Nat), ∀ (σ : MS) (v5 : Int32) (v6 : Int32) (v7 : Int32) (v8 : Int32), u_K1_X11_canPlay_123 Γ post a1 a2 a3 a4 K35 n σ v5 v6 v7 v8 → ∀ (H : Heap) (locs : List Loc) (ls : Array Slot), rG D cy lay Γ tn σ (rA cy lay Γ s.heap.size) s.heap H locs → lv_has ls 9 [(0, .ref (lay 0)), (1, .int a1), (2, .int a2), (3, .int a3), (4, .int a4), (5, .int v5), (6, .int v6), (7, .int v7), (8, .int v8)] → W p l e rm_K1_X11_canPlay s m args below meth c H locs 0 0 (MQ below (va_Qi post (rO D cy lay Γ) (rA cy lay Γ s.heap.size)) args s 0 0 (rA cy lay Γ s.heap.size)) (F0 m 123 ls []) := by
  intro n
  induction n with
  | zero =>
    intro σ v5 v6 v7 v8 h
    exact h.elim
  | succ n ih =>
    intro σ v5 v6 v7 v8 h H locs ls G hl
    rw [u_K1_X11_canPlay_123] at h
    refine lv_iload hC.1 hC.2.1 dX11_canPlay_123 (lv_at hl 8 rfl) ?_
    refine lv_aload_n hC.1 hC.2.1 dX11_canPlay_125 rfl (lv_at hl 0 rfl) ?_
    refine rg_get hC hT G (by decide) r_mo k_X11 i_K1_X11_canPlay_X11 3 (by decide) (wm 1 rfl) rfl dX11_canPlay_126 ?_
    refine rg_i G (rg_runV (As := []) (rest := [.int v8]) hC hT G (c_lp_Jx4a65c_size_8abf5 l D cy lay Γ h _) (cwV 0 hC.2.2.2.2 gX11_canPlay_Jx4a65c_size_8abf5 rfl rfl rfl hdV_Jx4a65c_size_8abf5 ⟨Nat.le_of_ble_eq_true rfl, Nat.le_of_ble_eq_true rfl⟩) (rg_recv hT G (by decide) r_lp k_AL) rfl hl.1 rfl (Nat.le_of_ble_eq_true rfl) dX11_canPlay_129 ⟨Nat.le_of_ble_eq_true rfl, Nat.le_of_ble_eq_true rfl⟩) (fun r19 σ18 H locs h G => ?_)
    (try dsimp only at h)
    refine lv_icmp_ge (tgt := 204) hC.1 hC.2.1 dX11_canPlay_132 (by decide) (fun c20 => ?_) (fun c20 => ?_)
    · replace h := h.1 c20
      refine lv_iinc (v := v6 + 1) (lv' := [(6, .int (v6 + 1)), (0, .ref (lay 0)), (1, .int a1), (2, .int a2), (3, .int a3), (4, .int a4), (5, .int v5), (7, .int v7), (8, .int v8)]) hC.1 hC.2.1 dX11_canPlay_204 hl (k := 6) rfl rfl (by decide) rfl (fun ls hl => ?_)
      refine lv_goto (tgt := 35) hC.1 hC.2.1 dX11_canPlay_207 (by decide) ?_
      exact hK35 _ _ _ h _ _ _ G (lv_sub hl [1, 2, 3, 4, 5, 6, 0] rfl)
    · replace h := h.2 c20
      refine lv_iload hC.1 hC.2.1 dX11_canPlay_135 (lv_at hl 5 rfl) ?_
      refine lv_iconst (v := 2) hC.1 hC.2.1 dX11_canPlay_137 (by decide) ?_
      refine lv_icmp_ne (tgt := 204) hC.1 hC.2.1 dX11_canPlay_138 (by decide) (fun c21 => ?_) (fun c21 => ?_)
      · replace h := h.2 c21
        refine lv_iinc (v := v6 + 1) (lv' := [(6, .int (v6 + 1)), (0, .ref (lay 0)), (1, .int a1), (2, .int a2), (3, .int a3), (4, .int a4), (5, .int v5), (7, .int v7), (8, .int v8)]) hC.1 hC.2.1 dX11_canPlay_204 hl (k := 6) rfl rfl (by decide) rfl (fun ls hl => ?_)
        refine lv_goto (tgt := 35) hC.1 hC.2.1 dX11_canPlay_207 (by decide) ?_
        exact hK35 _ _ _ h _ _ _ G (lv_sub hl [1, 2, 3, 4, 5, 6, 0] rfl)
      · replace h := h.1 c21
        refine lv_iload_n hC.1 hC.2.1 dX11_canPlay_141 rfl (lv_at hl 1 rfl) ?_
        refine lv_iload hC.1 hC.2.1 dX11_canPlay_142 (lv_at hl 7 rfl) ?_
        refine lv_iconst (v := (-1)) hC.1 hC.2.1 dX11_canPlay_144 (by decide) ?_
        refine lv_ixor hC.1 hC.2.1 dX11_canPlay_145 ?_
        refine lv_iand hC.1 hC.2.1 dX11_canPlay_146 ?_
        refine lv_iload hC.1 hC.2.1 dX11_canPlay_147 (lv_at hl 8 rfl) ?_
        refine rg_i G (rg_runS (As := [.int (a1 &&& (v7 ^^^ (-1))), .int v8]) (rest := []) hC hT G (c_X11_isIn l D cy lay Γ h _) (va_cwS 2 hC.2.2.2.2 gX11_canPlay_X11_isIn rfl rfl rfl hdS_X11_isIn ⟨Nat.le_of_ble_eq_true rfl, Nat.le_of_ble_eq_true rfl⟩) rfl hl.1 rfl (Nat.le_of_ble_eq_true rfl) dX11_canPlay_149 ⟨Nat.le_of_ble_eq_true rfl, Nat.le_of_ble_eq_true rfl⟩) (fun r23 σ22 H locs h G => ?_)
        (try dsimp only at h)
        refine lv_if_eq (tgt := 198) hC.1 hC.2.1 dX11_canPlay_152 (by decide) (fun c24 => ?_) (fun c24 => ?_)
        · replace h := h.1 c24
          refine lv_iinc (v := v8 + 1) (lv' := [(8, .int (v8 + 1)), (0, .ref (lay 0)), (1, .int a1), (2, .int a2), (3, .int a3), (4, .int a4), (5, .int v5), (6, .int v6), (7, .int v7)]) hC.1 hC.2.1 dX11_canPlay_198 hl (k := 8) rfl rfl (by decide) rfl (fun ls hl => ?_)
          refine lv_goto (tgt := 123) hC.1 hC.2.1 dX11_canPlay_201 (by decide) ?_
          exact ih _ _ _ _ _ h _ _ _ G (lv_sub hl [1, 2, 3, 4, 5, 6, 7, 8, 0] rfl)
        · replace h := h.2 c24
          refine lv_aload_n hC.1 hC.2.1 dX11_canPlay_155 rfl (lv_at hl 0 rfl) ?_
          refine rg_get hC hT G (by decide) r_mo k_X11 i_K1_X11_canPlay_X11 3 (by decide) (wm 1 rfl) rfl dX11_canPlay_156 ?_
          refine lv_iload hC.1 hC.2.1 dX11_canPlay_159 (lv_at hl 8 rfl) ?_
          refine rg_r (f := fun i => lay (13 + i)) G (rg_runV (As := [.int v8]) (rest := []) hC hT G (c_lp_Jx4a65c_get_915e3 l D cy lay Γ h _) (cwV 1 hC.2.2.2.2 gX11_canPlay_Jx4a65c_get_915e3 rfl rfl rfl hdV_Jx4a65c_get_915e3 ⟨Nat.le_of_ble_eq_true rfl, Nat.le_of_ble_eq_true rfl⟩) (rg_recv hT G (by decide) r_lp k_AL) rfl hl.1 rfl (Nat.le_of_ble_eq_true rfl) dX11_canPlay_161 ⟨Nat.le_of_ble_eq_true rfl, Nat.le_of_ble_eq_true rfl⟩) (fun j26 σ25 H locs h G => ?_)
          (try dsimp only at h)
          obtain ⟨hj27, h⟩ := h
          refine rg_cast hC hT k_X9 (wm 2 rfl) (rg_recv hT G (rk_pl hj27) (r_pl hj27) k_X9) dX11_canPlay_164 ?_
          refine rg_getN hC hT G (rk_pl hj27) (r_pl hj27) k_X9 i_K1_X11_canPlay_X9 0 (by decide) 2 rfl rfl dX11_canPlay_167 ?_
          refine lv_iload_n hC.1 hC.2.1 dX11_canPlay_170 rfl (lv_at hl 3 rfl) ?_
          refine rg_i G (rg_runS (As := [.int (σ25 (13 + j26) 0), .int a3]) (rest := []) hC hT G (c_X11_isIn l D cy lay Γ h _) (va_cwS 2 hC.2.2.2.2 gX11_canPlay_X11_isIn rfl rfl rfl hdS_X11_isIn ⟨Nat.le_of_ble_eq_true rfl, Nat.le_of_ble_eq_true rfl⟩) rfl hl.1 rfl (Nat.le_of_ble_eq_true rfl) dX11_canPlay_171 ⟨Nat.le_of_ble_eq_true rfl, Nat.le_of_ble_eq_true rfl⟩) (fun r29 σ28 H locs h G => ?_)
          (try dsimp only at h)
          refine lv_if_eq (tgt := 198) hC.1 hC.2.1 dX11_canPlay_174 (by decide) (fun c30 => ?_) (fun c30 => ?_)
          · replace h := h.1 c30
            refine lv_iinc (v := v8 + 1) (lv' := [(8, .int (v8 + 1)), (0, .ref (lay 0)), (1, .int a1), (2, .int a2), (3, .int a3), (4, .int a4), (5, .int v5), (6, .int v6), (7, .int v7)]) hC.1 hC.2.1 dX11_canPlay_198 hl (k := 8) rfl rfl (by decide) rfl (fun ls hl => ?_)
            refine lv_goto (tgt := 123) hC.1 hC.2.1 dX11_canPlay_201 (by decide) ?_
            exact ih _ _ _ _ _ h _ _ _ G (lv_sub hl [1, 2, 3, 4, 5, 6, 7, 8, 0] rfl)
          · replace h := h.2 c30
            refine lv_aload_n hC.1 hC.2.1 dX11_canPlay_177 rfl (lv_at hl 0 rfl) ?_
            refine lv_iload_n hC.1 hC.2.1 dX11_canPlay_178 rfl (lv_at hl 1 rfl) ?_
            refine lv_iload_n hC.1 hC.2.1 dX11_canPlay_179 rfl (lv_at hl 2 rfl) ?_
            refine lv_iload_n hC.1 hC.2.1 dX11_canPlay_180 rfl (lv_at hl 3 rfl) ?_
            refine lv_iconst (v := 1) hC.1 hC.2.1 dX11_canPlay_181 (by decide) ?_
            refine lv_iadd hC.1 hC.2.1 dX11_canPlay_182 ?_
            refine lv_iload hC.1 hC.2.1 dX11_canPlay_183 (lv_at hl 7 rfl) ?_
            refine lv_iconst (v := 1) hC.1 hC.2.1 dX11_canPlay_185 (by decide) ?_
            refine lv_iload hC.1 hC.2.1 dX11_canPlay_186 (lv_at hl 8 rfl) ?_
            refine lv_ishl hC.1 hC.2.1 dX11_canPlay_188 ?_
            refine lv_ior hC.1 hC.2.1 dX11_canPlay_189 ?_
            refine rg_i G (rg_runV (As := [.int a1, .int a2, .int (a3 + 1), .int (v7 ||| (1 <<< (v8 &&& 31)))]) (rest := []) hC hT G (c_K2_X11_canPlay l D cy lay Γ h _) (cwV 4 hC.2.2.2.2 gX11_canPlay_X11_canPlay rfl rfl rfl hdV_X11_canPlay ⟨Nat.le_of_ble_eq_true rfl, Nat.le_of_ble_eq_true rfl⟩) (rg_recv hT G (by decide) r_mo k_X11) rfl hl.1 rfl (Nat.le_of_ble_eq_true rfl) dX11_canPlay_190 ⟨Nat.le_of_ble_eq_true rfl, Nat.le_of_ble_eq_true rfl⟩) (fun r32 σ31 H locs h G => ?_)
            (try dsimp only at h)
            refine lv_if_eq (tgt := 198) hC.1 hC.2.1 dX11_canPlay_193 (by decide) (fun c33 => ?_) (fun c33 => ?_)
            · replace h := h.1 c33
              refine lv_iinc (v := v8 + 1) (lv' := [(8, .int (v8 + 1)), (0, .ref (lay 0)), (1, .int a1), (2, .int a2), (3, .int a3), (4, .int a4), (5, .int v5), (6, .int v6), (7, .int v7)]) hC.1 hC.2.1 dX11_canPlay_198 hl (k := 8) rfl rfl (by decide) rfl (fun ls hl => ?_)
              refine lv_goto (tgt := 123) hC.1 hC.2.1 dX11_canPlay_201 (by decide) ?_
              exact ih _ _ _ _ _ h _ _ _ G (lv_sub hl [1, 2, 3, 4, 5, 6, 7, 8, 0] rfl)
            · replace h := h.2 c33
              refine lv_iconst (v := 1) hC.1 hC.2.1 dX11_canPlay_196 (by decide) ?_
              exact rg_zret hC hr hlocks G rfl h dX11_canPlay_197
def u_K1_X11_canPlay_35 (Γ : RG) (post : Int32 → MS → Prop) (a1 : Int32) (a2 : Int32) (a3 : Int32) (a4 : Int32) : Nat → MS → Int32 → Int32 → Prop
  | 0, _, _, _ => False
  | n + 1, σ, v5, v6 => w_lp_Jx4a65c_size_8abf5 Γ (fun r6 σ5 => ((r6 ≤ v6 → post 0 σ5) ∧ (¬ r6 ≤ v6 → w_X11_isIn Γ (fun r9 σ8 => ((r9 = 0 → u_K1_X11_canPlay_35 Γ post a1 a2 a3 a4 n σ8 v5 (v6 + 1)) ∧ (¬ r9 = 0 → w_lp_Jx4a65c_get_915e3 Γ (fun j12 σ11 => ((j12 < 10 ∧ j12 < Γ.1) ∧ w_X11_isIn Γ (fun r15 σ14 => ((r15 = 0 → u_K1_X11_canPlay_35 Γ post a1 a2 a3 a4 n σ14 v5 (v6 + 1)) ∧ (¬ r15 = 0 → ((v5 = 1 → w_K2_X11_canPlay Γ (fun r35 σ34 => ((r35 = 0 → (∃ k, u_K1_X11_canPlay_123 Γ post a1 a2 a3 a4 (fun σ w0 w1 => u_K1_X11_canPlay_35 Γ post a1 a2 a3 a4 n σ w0 w1) k σ34 v5 v6 (a4 ||| (1 <<< (v6 &&& 31))) (v6 + 1))) ∧ (¬ r35 = 0 → post 1 σ34))) σ14 a1 a2 (a3 + 1) (a4 ||| (1 <<< (v6 &&& 31)))) ∧ (¬ v5 = 1 → (∃ k, u_K1_X11_canPlay_123 Γ post a1 a2 a3 a4 (fun σ w0 w1 => u_K1_X11_canPlay_35 Γ post a1 a2 a3 a4 n σ w0 w1) k σ14 v5 v6 (a4 ||| (1 <<< (v6 &&& 31))) (v6 + 1))))))) σ11 (σ11 (13 + j12) 0) a3)) σ8 v6))) σ5 (a1 &&& (a4 ^^^ (-1))) v6))) σ
set_option maxHeartbeats 4000000 in
set_option maxRecDepth 100000 in
theorem l_K1_X11_canPlay_35 {p : Program} {l : Launch} {e : Env} {s : State} {m : MethodId} {args : Array Value} {below : List Frame} {meth : Method} {c : Code} {D : va_G} {cy : Nat → ClassId} {lay : Nat → Nat} {Γ : RG} {post : Int32 → MS → Prop} (a1 : Int32) (a2 : Int32) (a3 : Int32) (a4 : Int32) (hC : CallFix p m c cX11_canPlay 9 s args wsX11_canPlay RX11) (hr : meth.sig.returnType = some .boolean) (hlocks : meth.locks = false) (hT : rT D cy lay Γ s) : ∀ (n : Nat), ∀ (σ : MS) (v5 : Int32) (v6 : Int32), u_K1_X11_canPlay_35 Γ post a1 a2 a3 a4 n σ v5 v6 → ∀ (H : Heap) (locs : List Loc) (ls : Array Slot), rG D cy lay Γ tn σ (rA cy lay Γ s.heap.size) s.heap H locs → lv_has ls 9 [(0, .ref (lay 0)), (1, .int a1), (2, .int a2), (3, .int a3), (4, .int a4), (5, .int v5), (6, .int v6)] → W p l e rm_K1_X11_canPlay s m args below meth c H locs 0 0 (MQ below (va_Qi post (rO D cy lay Γ) (rA cy lay Γ s.heap.size)) args s 0 0 (rA cy lay Γ s.heap.size)) (F0 m 35 ls []) := by
  intro n
  induction n with
  | zero =>
    intro σ v5 v6 h
    exact h.elim
  | succ n ih =>
    intro σ v5 v6 h H locs ls G hl
    rw [u_K1_X11_canPlay_35] at h
    refine lv_iload hC.1 hC.2.1 dX11_canPlay_35 (lv_at hl 6 rfl) ?_
    refine lv_aload_n hC.1 hC.2.1 dX11_canPlay_37 rfl (lv_at hl 0 rfl) ?_
    refine rg_get hC hT G (by decide) r_mo k_X11 i_K1_X11_canPlay_X11 3 (by decide) (wm 1 rfl) rfl dX11_canPlay_38 ?_
    refine rg_i G (rg_runV (As := []) (rest := [.int v6]) hC hT G (c_lp_Jx4a65c_size_8abf5 l D cy lay Γ h _) (cwV 0 hC.2.2.2.2 gX11_canPlay_Jx4a65c_size_8abf5 rfl rfl rfl hdV_Jx4a65c_size_8abf5 ⟨Nat.le_of_ble_eq_true rfl, Nat.le_of_ble_eq_true rfl⟩) (rg_recv hT G (by decide) r_lp k_AL) rfl hl.1 rfl (Nat.le_of_ble_eq_true rfl) dX11_canPlay_41 ⟨Nat.le_of_ble_eq_true rfl, Nat.le_of_ble_eq_true rfl⟩) (fun r6 σ5 H locs h G => ?_)
    (try dsimp only at h)
    refine lv_icmp_ge (tgt := 210) hC.1 hC.2.1 dX11_canPlay_44 (by decide) (fun c7 => ?_) (fun c7 => ?_)
    · replace h := h.1 c7
      refine lv_iconst (v := 0) hC.1 hC.2.1 dX11_canPlay_210 (by decide) ?_
      exact rg_zret hC hr hlocks G rfl h dX11_canPlay_211
    · replace h := h.2 c7
      refine lv_iload_n hC.1 hC.2.1 dX11_canPlay_47 rfl (lv_at hl 1 rfl) ?_
      refine lv_iload hC.1 hC.2.1 dX11_canPlay_48 (lv_at hl 4 rfl) ?_
      refine lv_iconst (v := (-1)) hC.1 hC.2.1 dX11_canPlay_50 (by decide) ?_
      refine lv_ixor hC.1 hC.2.1 dX11_canPlay_51 ?_
      refine lv_iand hC.1 hC.2.1 dX11_canPlay_52 ?_
      refine lv_iload hC.1 hC.2.1 dX11_canPlay_53 (lv_at hl 6 rfl) ?_
      refine rg_i G (rg_runS (As := [.int (a1 &&& (a4 ^^^ (-1))), .int v6]) (rest := []) hC hT G (c_X11_isIn l D cy lay Γ h _) (va_cwS 2 hC.2.2.2.2 gX11_canPlay_X11_isIn rfl rfl rfl hdS_X11_isIn ⟨Nat.le_of_ble_eq_true rfl, Nat.le_of_ble_eq_true rfl⟩) rfl hl.1 rfl (Nat.le_of_ble_eq_true rfl) dX11_canPlay_55 ⟨Nat.le_of_ble_eq_true rfl, Nat.le_of_ble_eq_true rfl⟩) (fun r9 σ8 H locs h G => ?_)
      (try dsimp only at h)
      refine lv_if_eq (tgt := 204) hC.1 hC.2.1 dX11_canPlay_58 (by decide) (fun c10 => ?_) (fun c10 => ?_)
      · replace h := h.1 c10
        refine lv_iinc (v := v6 + 1) (lv' := [(6, .int (v6 + 1)), (0, .ref (lay 0)), (1, .int a1), (2, .int a2), (3, .int a3), (4, .int a4), (5, .int v5)]) hC.1 hC.2.1 dX11_canPlay_204 hl (k := 6) rfl rfl (by decide) rfl (fun ls hl => ?_)
        refine lv_goto (tgt := 35) hC.1 hC.2.1 dX11_canPlay_207 (by decide) ?_
        exact ih _ _ _ h _ _ _ G (lv_sub hl [1, 2, 3, 4, 5, 6, 0] rfl)
      · replace h := h.2 c10
        refine lv_aload_n hC.1 hC.2.1 dX11_canPlay_61 rfl (lv_at hl 0 rfl) ?_
        refine rg_get hC hT G (by decide) r_mo k_X11 i_K1_X11_canPlay_X11 3 (by decide) (wm 1 rfl) rfl dX11_canPlay_62 ?_
        refine lv_iload hC.1 hC.2.1 dX11_canPlay_65 (lv_at hl 6 rfl) ?_
        refine rg_r (f := fun i => lay (13 + i)) G (rg_runV (As := [.int v6]) (rest := []) hC hT G (c_lp_Jx4a65c_get_915e3 l D cy lay Γ h _) (cwV 1 hC.2.2.2.2 gX11_canPlay_Jx4a65c_get_915e3 rfl rfl rfl hdV_Jx4a65c_get_915e3 ⟨Nat.le_of_ble_eq_true rfl, Nat.le_of_ble_eq_true rfl⟩) (rg_recv hT G (by decide) r_lp k_AL) rfl hl.1 rfl (Nat.le_of_ble_eq_true rfl) dX11_canPlay_67 ⟨Nat.le_of_ble_eq_true rfl, Nat.le_of_ble_eq_true rfl⟩) (fun j12 σ11 H locs h G => ?_)
        (try dsimp only at h)
        obtain ⟨hj13, h⟩ := h
        refine rg_cast hC hT k_X9 (wm 2 rfl) (rg_recv hT G (rk_pl hj13) (r_pl hj13) k_X9) dX11_canPlay_70 ?_
        refine rg_getN hC hT G (rk_pl hj13) (r_pl hj13) k_X9 i_K1_X11_canPlay_X9 0 (by decide) 2 rfl rfl dX11_canPlay_73 ?_
        refine lv_iload_n hC.1 hC.2.1 dX11_canPlay_76 rfl (lv_at hl 3 rfl) ?_
        refine rg_i G (rg_runS (As := [.int (σ11 (13 + j12) 0), .int a3]) (rest := []) hC hT G (c_X11_isIn l D cy lay Γ h _) (va_cwS 2 hC.2.2.2.2 gX11_canPlay_X11_isIn rfl rfl rfl hdS_X11_isIn ⟨Nat.le_of_ble_eq_true rfl, Nat.le_of_ble_eq_true rfl⟩) rfl hl.1 rfl (Nat.le_of_ble_eq_true rfl) dX11_canPlay_77 ⟨Nat.le_of_ble_eq_true rfl, Nat.le_of_ble_eq_true rfl⟩) (fun r15 σ14 H locs h G => ?_)
        (try dsimp only at h)
        refine lv_if_ne (tgt := 86) hC.1 hC.2.1 dX11_canPlay_80 (by decide) (fun c16 => ?_) (fun c16 => ?_)
        · replace h := h.2 c16
          refine lv_iload hC.1 hC.2.1 dX11_canPlay_86 (lv_at hl 4 rfl) ?_
          refine lv_iconst (v := 1) hC.1 hC.2.1 dX11_canPlay_88 (by decide) ?_
          refine lv_iload hC.1 hC.2.1 dX11_canPlay_89 (lv_at hl 6 rfl) ?_
          refine lv_ishl hC.1 hC.2.1 dX11_canPlay_91 ?_
          refine lv_ior hC.1 hC.2.1 dX11_canPlay_92 ?_
          refine lv_istore (lv' := [(7, .int (a4 ||| (1 <<< (v6 &&& 31)))), (0, .ref (lay 0)), (1, .int a1), (2, .int a2), (3, .int a3), (4, .int a4), (5, .int v5), (6, .int v6)]) hC.1 hC.2.1 dX11_canPlay_93 hl (by decide) rfl (fun ls hl => ?_)
          refine lv_iload hC.1 hC.2.1 dX11_canPlay_95 (lv_at hl 6 rfl) ?_
          refine lv_iconst (v := 1) hC.1 hC.2.1 dX11_canPlay_97 (by decide) ?_
          refine lv_icmp_ne (tgt := 117) hC.1 hC.2.1 dX11_canPlay_98 (by decide) (fun c17 => ?_) (fun c17 => ?_)
          · replace h := h.2 c17
            refine lv_iload hC.1 hC.2.1 dX11_canPlay_117 (lv_at hl 7 rfl) ?_
            refine lv_iconst (v := 1) hC.1 hC.2.1 dX11_canPlay_119 (by decide) ?_
            refine lv_iadd hC.1 hC.2.1 dX11_canPlay_120 ?_
            refine lv_istore (lv' := [(8, .int (v6 + 1)), (7, .int (a4 ||| (1 <<< (v6 &&& 31)))), (0, .ref (lay 0)), (1, .int a1), (2, .int a2), (3, .int a3), (4, .int a4), (5, .int v5), (6, .int v6)]) hC.1 hC.2.1 dX11_canPlay_121 hl (by decide) rfl (fun ls hl => ?_)
            obtain ⟨n1, h⟩ := h
            exact l_K1_X11_canPlay_123 a1 a2 a3 a4 (fun σ w0 w1 => u_K1_X11_canPlay_35 Γ post a1 a2 a3 a4 n σ w0 w1) hC hr hlocks hT ih n1 _ _ _ _ _ h _ _ _ G (lv_sub hl [2, 3, 4, 5, 6, 7, 8, 1, 0] rfl)
          · replace h := h.1 c17
            refine lv_aload_n hC.1 hC.2.1 dX11_canPlay_101 rfl (lv_at hl 1 rfl) ?_
            refine lv_iload_n hC.1 hC.2.1 dX11_canPlay_102 rfl (lv_at hl 2 rfl) ?_
            refine lv_iload_n hC.1 hC.2.1 dX11_canPlay_103 rfl (lv_at hl 3 rfl) ?_
            refine lv_iload_n hC.1 hC.2.1 dX11_canPlay_104 rfl (lv_at hl 4 rfl) ?_
            refine lv_iconst (v := 1) hC.1 hC.2.1 dX11_canPlay_105 (by decide) ?_
            refine lv_iadd hC.1 hC.2.1 dX11_canPlay_106 ?_
            refine lv_iload hC.1 hC.2.1 dX11_canPlay_107 (lv_at hl 0 rfl) ?_
            refine rg_i G (rg_runV (As := [.int a1, .int a2, .int (a3 + 1), .int (a4 ||| (1 <<< (v6 &&& 31)))]) (rest := []) hC hT G (c_K2_X11_canPlay l D cy lay Γ h _) (cwV 4 hC.2.2.2.2 gX11_canPlay_X11_canPlay rfl rfl rfl hdV_X11_canPlay ⟨Nat.le_of_ble_eq_true rfl, Nat.le_of_ble_eq_true rfl⟩) (rg_recv hT G (by decide) r_mo k_X11) rfl hl.1 rfl (Nat.le_of_ble_eq_true rfl) dX11_canPlay_109 ⟨Nat.le_of_ble_eq_true rfl, Nat.le_of_ble_eq_true rfl⟩) (fun r35 σ34 H locs h G => ?_)
            (try dsimp only at h)
            refine lv_if_eq (tgt := 117) hC.1 hC.2.1 dX11_canPlay_112 (by decide) (fun c36 => ?_) (fun c36 => ?_)
            · replace h := h.1 c36
              refine lv_iload hC.1 hC.2.1 dX11_canPlay_117 (lv_at hl 7 rfl) ?_
              refine lv_iconst (v := 1) hC.1 hC.2.1 dX11_canPlay_119 (by decide) ?_
              refine lv_iadd hC.1 hC.2.1 dX11_canPlay_120 ?_
              refine lv_istore (lv' := [(8, .int (v6 + 1)), (7, .int (a4 ||| (1 <<< (v6 &&& 31)))), (0, .ref (lay 0)), (1, .int a1), (2, .int a2), (3, .int a3), (4, .int a4), (5, .int v5), (6, .int v6)]) hC.1 hC.2.1 dX11_canPlay_121 hl (by decide) rfl (fun ls hl => ?_)
              obtain ⟨n1, h⟩ := h
              exact l_K1_X11_canPlay_123 a1 a2 a3 a4 (fun σ w0 w1 => u_K1_X11_canPlay_35 Γ post a1 a2 a3 a4 n σ w0 w1) hC hr hlocks hT ih n1 _ _ _ _ _ h _ _ _ G (lv_sub hl [2, 3, 4, 5, 6, 7, 8, 1, 0] rfl)
            · replace h := h.2 c36
              refine lv_iconst (v := 1) hC.1 hC.2.1 dX11_canPlay_115 (by decide) ?_
              exact rg_zret hC hr hlocks G rfl h dX11_canPlay_116
        · replace h := h.1 c16
          refine lv_goto (tgt := 204) hC.1 hC.2.1 dX11_canPlay_83 (by decide) ?_
          refine lv_iinc (v := v6 + 1) (lv' := [(6, .int (v6 + 1)), (0, .ref (lay 0)), (1, .int a1), (2, .int a2), (3, .int a3), (4, .int a4), (5, .int v5)]) hC.1 hC.2.1 dX11_canPlay_204 hl (k := 6) rfl rfl (by decide) rfl (fun ls hl => ?_)
          refine lv_goto (tgt := 35) hC.1 hC.2.1 dX11_canPlay_207 (by decide) ?_
          exact ih _ _ _ h _ _ _ G (lv_sub hl [1, 2, 3, 4, 5, 6, 0] rfl)
def w_K1_X11_canPlay (Γ : RG) (post : Int32 → MS → Prop) (σ : MS) (a1 : Int32) (a2 : Int32) (a3 : Int32) (a4 : Int32) : Prop := ((a3 = 6 → post 1 σ) ∧ (¬ a3 = 6 → w_X11_needed Γ (fun r3 σ2 => ((r3 = 0 → w_K2_X11_canPlay Γ (fun r38 σ37 => (narrow .boolean (.int r38) = .int r38 ∧ post r38 σ37)) σ2 a1 a2 (a3 + 1) a4) ∧ (¬ r3 = 0 → (∃ k, u_K1_X11_canPlay_35 Γ post a1 a2 a3 a4 k σ2 r3 0)))) σ a2 a3))
set_option maxHeartbeats 4000000 in
set_option maxRecDepth 100000 in
theorem c_K1_X11_canPlay (l : Launch) (D : va_G) (cy : Nat → ClassId) (lay : Nat → Nat) (Γ : RG) {σ : MS} {post : Int32 → MS → Prop} {a1 : Int32} {a2 : Int32} {a3 : Int32} {a4 : Int32} (h : w_K1_X11_canPlay Γ post σ a1 a2 a3 a4) (sz : Nat) : Met l yX11_canPlay wsX11_canPlay rm_K1_X11_canPlay (va_Pc [.ref (lay 0), .int a1, .int a2, .int a3, .int a4] (rI D cy lay Γ σ sz)) (va_Qi post (rO D cy lay Γ) (rA cy lay Γ sz)) 0 0 (rA cy lay Γ sz) := by
  refine rg_ofW (cc := cX11_canPlay) (maxL := 9) (ret := some .boolean) (own := RX11) (Qc := fun sz => va_Qi post (rO D cy lay Γ) (rA cy lay Γ sz)) (by decide) rfl (Nat.le_of_ble_eq_true rfl) rfl ?_
  intro p e s m args below meth c ls hC hr hlocks hT G hl
  unfold w_K1_X11_canPlay at h
  have hl : lv_has ls 9 [(0, .ref (lay 0)), (1, .int a1), (2, .int a2), (3, .int a3), (4, .int a4)] := hl
  refine lv_iload_n hC.1 hC.2.1 dX11_canPlay_0 rfl (lv_at hl 3 rfl) ?_
  refine lv_bipush (v := 6) hC.1 hC.2.1 dX11_canPlay_1 (by decide) ?_
  refine lv_icmp_ne (tgt := 8) hC.1 hC.2.1 dX11_canPlay_3 (by decide) (fun c1 => ?_) (fun c1 => ?_)
  · replace h := h.2 c1
    refine lv_iload_n hC.1 hC.2.1 dX11_canPlay_8 rfl (lv_at hl 2 rfl) ?_
    refine lv_iload_n hC.1 hC.2.1 dX11_canPlay_9 rfl (lv_at hl 3 rfl) ?_
    refine rg_i G (rg_runS (As := [.int a2, .int a3]) (rest := []) hC hT G (c_X11_needed l D cy lay Γ h _) (va_cwS 2 hC.2.2.2.2 gX11_canPlay_X11_needed rfl rfl rfl hdS_X11_needed ⟨Nat.le_of_ble_eq_true rfl, Nat.le_of_ble_eq_true rfl⟩) rfl hl.1 rfl (Nat.le_of_ble_eq_true rfl) dX11_canPlay_10 ⟨Nat.le_of_ble_eq_true rfl, Nat.le_of_ble_eq_true rfl⟩) (fun r3 σ2 H locs h G => ?_)
    (try dsimp only at h)
    refine lv_istore (lv' := [(5, .int r3), (0, .ref (lay 0)), (1, .int a1), (2, .int a2), (3, .int a3), (4, .int a4)]) hC.1 hC.2.1 dX11_canPlay_13 hl (by decide) rfl (fun ls hl => ?_)
    refine lv_iload hC.1 hC.2.1 dX11_canPlay_15 (lv_at hl 0 rfl) ?_
    refine lv_if_ne (tgt := 32) hC.1 hC.2.1 dX11_canPlay_17 (by decide) (fun c4 => ?_) (fun c4 => ?_)
    · replace h := h.2 c4
      refine lv_iconst (v := 0) hC.1 hC.2.1 dX11_canPlay_32 (by decide) ?_
      refine lv_istore (lv' := [(6, .int 0), (5, .int r3), (0, .ref (lay 0)), (1, .int a1), (2, .int a2), (3, .int a3), (4, .int a4)]) hC.1 hC.2.1 dX11_canPlay_33 hl (by decide) rfl (fun ls hl => ?_)
      obtain ⟨n1, h⟩ := h
      exact l_K1_X11_canPlay_35 a1 a2 a3 a4 hC hr hlocks hT n1 _ _ _ h _ _ _ G (lv_sub hl [2, 3, 4, 5, 6, 1, 0] rfl)
    · replace h := h.1 c4
      refine lv_aload_n hC.1 hC.2.1 dX11_canPlay_20 rfl (lv_at hl 1 rfl) ?_
      refine lv_iload_n hC.1 hC.2.1 dX11_canPlay_21 rfl (lv_at hl 2 rfl) ?_
      refine lv_iload_n hC.1 hC.2.1 dX11_canPlay_22 rfl (lv_at hl 3 rfl) ?_
      refine lv_iload_n hC.1 hC.2.1 dX11_canPlay_23 rfl (lv_at hl 4 rfl) ?_
      refine lv_iconst (v := 1) hC.1 hC.2.1 dX11_canPlay_24 (by decide) ?_
      refine lv_iadd hC.1 hC.2.1 dX11_canPlay_25 ?_
      refine lv_iload hC.1 hC.2.1 dX11_canPlay_26 (lv_at hl 5 rfl) ?_
      refine rg_i G (rg_runV (As := [.int a1, .int a2, .int (a3 + 1), .int a4]) (rest := []) hC hT G (c_K2_X11_canPlay l D cy lay Γ h _) (cwV 4 hC.2.2.2.2 gX11_canPlay_X11_canPlay rfl rfl rfl hdV_X11_canPlay ⟨Nat.le_of_ble_eq_true rfl, Nat.le_of_ble_eq_true rfl⟩) (rg_recv hT G (by decide) r_mo k_X11) rfl hl.1 rfl (Nat.le_of_ble_eq_true rfl) dX11_canPlay_28 ⟨Nat.le_of_ble_eq_true rfl, Nat.le_of_ble_eq_true rfl⟩) (fun r38 σ37 H locs h G => ?_)
      (try dsimp only at h)
      exact rg_zret hC hr hlocks G h.1 h.2 dX11_canPlay_31
  · replace h := h.1 c1
    refine lv_iconst (v := 1) hC.1 hC.2.1 dX11_canPlay_6 (by decide) ?_
    exact rg_zret hC hr hlocks G rfl h dX11_canPlay_7
abbrev rm_K0_X11_canPlay : Room := { frames := 9, cells := 0, slots := 0, locals := 232 }
theorem i_K0_X11_canPlay_X11 : ∀ w ∈ wsX110, w ∈ wsX11_canPlay := fun _ h => List.mem_cons_of_mem _ (List.mem_append_left _ (List.mem_append_left _ (List.mem_append_right _ h)))
theorem i_K0_X11_canPlay_X9 : ∀ w ∈ wsX90, w ∈ wsX11_canPlay := fun _ h => List.mem_cons_of_mem _ (List.mem_append_left _ (List.mem_append_right _ h))
def u_K0_X11_canPlay_123 (Γ : RG) (post : Int32 → MS → Prop) (a1 : Int32) (a2 : Int32) (a3 : Int32) (a4 : Int32) (K35 : MS → Int32 → Int32 → Prop) : Nat → MS → Int32 → Int32 → Int32 → Int32 → Prop
  | 0, _, _, _, _, _ => False
  | n + 1, σ, v5, v6, v7, v8 => w_lp_Jx4a65c_size_8abf5 Γ (fun r19 σ18 => ((r19 ≤ v8 → K35 σ18 v5 (v6 + 1)) ∧ (¬ r19 ≤ v8 → ((v5 = 2 → w_X11_isIn Γ (fun r23 σ22 => ((r23 = 0 → u_K0_X11_canPlay_123 Γ post a1 a2 a3 a4 K35 n σ22 v5 v6 v7 (v8 + 1)) ∧ (¬ r23 = 0 → w_lp_Jx4a65c_get_915e3 Γ (fun j26 σ25 => ((j26 < 10 ∧ j26 < Γ.1) ∧ w_X11_isIn Γ (fun r29 σ28 => ((r29 = 0 → u_K0_X11_canPlay_123 Γ post a1 a2 a3 a4 K35 n σ28 v5 v6 v7 (v8 + 1)) ∧ (¬ r29 = 0 → w_K1_X11_canPlay Γ (fun r32 σ31 => ((r32 = 0 → u_K0_X11_canPlay_123 Γ post a1 a2 a3 a4 K35 n σ31 v5 v6 v7 (v8 + 1)) ∧ (¬ r32 = 0 → post 1 σ31))) σ28 a1 a2 (a3 + 1) (v7 ||| (1 <<< (v8 &&& 31)))))) σ25 (σ25 (13 + j26) 0) a3)) σ22 v8))) σ18 (a1 &&& (v7 ^^^ (-1))) v8) ∧ (¬ v5 = 2 → K35 σ18 v5 (v6 + 1)))))) σ
set_option maxHeartbeats 4000000 in
set_option maxRecDepth 100000 in
theorem l_K0_X11_canPlay_123 {p : Program} {l : Launch} {e : Env} {s : State} {m : MethodId} {args : Array Value} {below : List Frame} {meth : Method} {c : Code} {D : va_G} {cy : Nat → ClassId} {lay : Nat → Nat} {Γ : RG} {post : Int32 → MS → Prop} (a1 : Int32) (a2 : Int32) (a3 : Int32) (a4 : Int32) (K35 : MS → Int32 → Int32 → Prop) (hC : CallFix p m c cX11_canPlay 9 s args wsX11_canPlay RX11) (hr : meth.sig.returnType = some .boolean) (hlocks : meth.locks = false) (hT : rT D cy lay Γ s) (hK35 : ∀ (σ : MS) (v5 : Int32) (v6 : Int32), K35 σ v5 v6 → ∀ (H : Heap) (locs : List Loc) (ls : Array Slot), rG D cy lay Γ tn σ (rA cy lay Γ s.heap.size) s.heap H locs → lv_has ls 9 [(0, .ref (lay 0)), (1, .int a1), (2, .int a2), (3, .int a3), (4, .int a4), (5, .int v5), (6, .int v6)] → W p l e rm_K0_X11_canPlay s m args below meth c H locs 0 0 (MQ below (va_Qi post (rO D cy lay Γ) (rA cy lay Γ s.heap.size)) args s 0 0 (rA cy lay Γ s.heap.size)) (F0 m 35 ls [])) : ∀ (n : Nat), ∀ (σ : MS) (v5 : Int32) (v6 : Int32) (v7 : Int32) (v8 : Int32), u_K0_X11_canPlay_123 Γ post a1 a2 a3 a4 K35 n σ v5 v6 v7 v8 → ∀ (H : Heap) (locs : List Loc) (ls : Array Slot), rG D cy lay Γ tn σ (rA cy lay Γ s.heap.size) s.heap H locs → lv_has ls 9 [(0, .ref (lay 0)), (1, .int a1), (2, .int a2), (3, .int a3), (4, .int a4), (5, .int v5), (6, .int v6), (7, .int v7), (8, .int v8)] → W p l e rm_K0_X11_canPlay s m args below meth c H locs 0 0 (MQ below (va_Qi post (rO D cy lay Γ) (rA cy lay Γ s.heap.size)) args s 0 0 (rA cy lay Γ s.heap.size)) (F0 m 123 ls []) := by
  intro n
  induction n with
  | zero =>
    intro σ v5 v6 v7 v8 h
    exact h.elim
  | succ n ih =>
    intro σ v5 v6 v7 v8 h H locs ls G hl
    rw [u_K0_X11_canPlay_123] at h
    refine lv_iload hC.1 hC.2.1 dX11_canPlay_123 (lv_at hl 8 rfl) ?_
    refine lv_aload_n hC.1 hC.2.1 dX11_canPlay_125 rfl (lv_at hl 0 rfl) ?_
    refine rg_get hC hT G (by decide) r_mo k_X11 i_K0_X11_canPlay_X11 3 (by decide) (wm 1 rfl) rfl dX11_canPlay_126 ?_
    refine rg_i G (rg_runV (As := []) (rest := [.int v8]) hC hT G (c_lp_Jx4a65c_size_8abf5 l D cy lay Γ h _) (cwV 0 hC.2.2.2.2 gX11_canPlay_Jx4a65c_size_8abf5 rfl rfl rfl hdV_Jx4a65c_size_8abf5 ⟨Nat.le_of_ble_eq_true rfl, Nat.le_of_ble_eq_true rfl⟩) (rg_recv hT G (by decide) r_lp k_AL) rfl hl.1 rfl (Nat.le_of_ble_eq_true rfl) dX11_canPlay_129 ⟨Nat.le_of_ble_eq_true rfl, Nat.le_of_ble_eq_true rfl⟩) (fun r19 σ18 H locs h G => ?_)
    (try dsimp only at h)
    refine lv_icmp_ge (tgt := 204) hC.1 hC.2.1 dX11_canPlay_132 (by decide) (fun c20 => ?_) (fun c20 => ?_)
    · replace h := h.1 c20
      refine lv_iinc (v := v6 + 1) (lv' := [(6, .int (v6 + 1)), (0, .ref (lay 0)), (1, .int a1), (2, .int a2), (3, .int a3), (4, .int a4), (5, .int v5), (7, .int v7), (8, .int v8)]) hC.1 hC.2.1 dX11_canPlay_204 hl (k := 6) rfl rfl (by decide) rfl (fun ls hl => ?_)
      refine lv_goto (tgt := 35) hC.1 hC.2.1 dX11_canPlay_207 (by decide) ?_
      exact hK35 _ _ _ h _ _ _ G (lv_sub hl [1, 2, 3, 4, 5, 6, 0] rfl)
    · replace h := h.2 c20
      refine lv_iload hC.1 hC.2.1 dX11_canPlay_135 (lv_at hl 5 rfl) ?_
      refine lv_iconst (v := 2) hC.1 hC.2.1 dX11_canPlay_137 (by decide) ?_
      refine lv_icmp_ne (tgt := 204) hC.1 hC.2.1 dX11_canPlay_138 (by decide) (fun c21 => ?_) (fun c21 => ?_)
      · replace h := h.2 c21
        refine lv_iinc (v := v6 + 1) (lv' := [(6, .int (v6 + 1)), (0, .ref (lay 0)), (1, .int a1), (2, .int a2), (3, .int a3), (4, .int a4), (5, .int v5), (7, .int v7), (8, .int v8)]) hC.1 hC.2.1 dX11_canPlay_204 hl (k := 6) rfl rfl (by decide) rfl (fun ls hl => ?_)
        refine lv_goto (tgt := 35) hC.1 hC.2.1 dX11_canPlay_207 (by decide) ?_
        exact hK35 _ _ _ h _ _ _ G (lv_sub hl [1, 2, 3, 4, 5, 6, 0] rfl)
      · replace h := h.1 c21
        refine lv_iload_n hC.1 hC.2.1 dX11_canPlay_141 rfl (lv_at hl 1 rfl) ?_
        refine lv_iload hC.1 hC.2.1 dX11_canPlay_142 (lv_at hl 7 rfl) ?_
        refine lv_iconst (v := (-1)) hC.1 hC.2.1 dX11_canPlay_144 (by decide) ?_
        refine lv_ixor hC.1 hC.2.1 dX11_canPlay_145 ?_
        refine lv_iand hC.1 hC.2.1 dX11_canPlay_146 ?_
        refine lv_iload hC.1 hC.2.1 dX11_canPlay_147 (lv_at hl 8 rfl) ?_
        refine rg_i G (rg_runS (As := [.int (a1 &&& (v7 ^^^ (-1))), .int v8]) (rest := []) hC hT G (c_X11_isIn l D cy lay Γ h _) (va_cwS 2 hC.2.2.2.2 gX11_canPlay_X11_isIn rfl rfl rfl hdS_X11_isIn ⟨Nat.le_of_ble_eq_true rfl, Nat.le_of_ble_eq_true rfl⟩) rfl hl.1 rfl (Nat.le_of_ble_eq_true rfl) dX11_canPlay_149 ⟨Nat.le_of_ble_eq_true rfl, Nat.le_of_ble_eq_true rfl⟩) (fun r23 σ22 H locs h G => ?_)
        (try dsimp only at h)
        refine lv_if_eq (tgt := 198) hC.1 hC.2.1 dX11_canPlay_152 (by decide) (fun c24 => ?_) (fun c24 => ?_)
        · replace h := h.1 c24
          refine lv_iinc (v := v8 + 1) (lv' := [(8, .int (v8 + 1)), (0, .ref (lay 0)), (1, .int a1), (2, .int a2), (3, .int a3), (4, .int a4), (5, .int v5), (6, .int v6), (7, .int v7)]) hC.1 hC.2.1 dX11_canPlay_198 hl (k := 8) rfl rfl (by decide) rfl (fun ls hl => ?_)
          refine lv_goto (tgt := 123) hC.1 hC.2.1 dX11_canPlay_201 (by decide) ?_
          exact ih _ _ _ _ _ h _ _ _ G (lv_sub hl [1, 2, 3, 4, 5, 6, 7, 8, 0] rfl)
        · replace h := h.2 c24
          refine lv_aload_n hC.1 hC.2.1 dX11_canPlay_155 rfl (lv_at hl 0 rfl) ?_
          refine rg_get hC hT G (by decide) r_mo k_X11 i_K0_X11_canPlay_X11 3 (by decide) (wm 1 rfl) rfl dX11_canPlay_156 ?_
          refine lv_iload hC.1 hC.2.1 dX11_canPlay_159 (lv_at hl 8 rfl) ?_
          refine rg_r (f := fun i => lay (13 + i)) G (rg_runV (As := [.int v8]) (rest := []) hC hT G (c_lp_Jx4a65c_get_915e3 l D cy lay Γ h _) (cwV 1 hC.2.2.2.2 gX11_canPlay_Jx4a65c_get_915e3 rfl rfl rfl hdV_Jx4a65c_get_915e3 ⟨Nat.le_of_ble_eq_true rfl, Nat.le_of_ble_eq_true rfl⟩) (rg_recv hT G (by decide) r_lp k_AL) rfl hl.1 rfl (Nat.le_of_ble_eq_true rfl) dX11_canPlay_161 ⟨Nat.le_of_ble_eq_true rfl, Nat.le_of_ble_eq_true rfl⟩) (fun j26 σ25 H locs h G => ?_)
          (try dsimp only at h)
          obtain ⟨hj27, h⟩ := h
          refine rg_cast hC hT k_X9 (wm 2 rfl) (rg_recv hT G (rk_pl hj27) (r_pl hj27) k_X9) dX11_canPlay_164 ?_
          refine rg_getN hC hT G (rk_pl hj27) (r_pl hj27) k_X9 i_K0_X11_canPlay_X9 0 (by decide) 2 rfl rfl dX11_canPlay_167 ?_
          refine lv_iload_n hC.1 hC.2.1 dX11_canPlay_170 rfl (lv_at hl 3 rfl) ?_
          refine rg_i G (rg_runS (As := [.int (σ25 (13 + j26) 0), .int a3]) (rest := []) hC hT G (c_X11_isIn l D cy lay Γ h _) (va_cwS 2 hC.2.2.2.2 gX11_canPlay_X11_isIn rfl rfl rfl hdS_X11_isIn ⟨Nat.le_of_ble_eq_true rfl, Nat.le_of_ble_eq_true rfl⟩) rfl hl.1 rfl (Nat.le_of_ble_eq_true rfl) dX11_canPlay_171 ⟨Nat.le_of_ble_eq_true rfl, Nat.le_of_ble_eq_true rfl⟩) (fun r29 σ28 H locs h G => ?_)
          (try dsimp only at h)
          refine lv_if_eq (tgt := 198) hC.1 hC.2.1 dX11_canPlay_174 (by decide) (fun c30 => ?_) (fun c30 => ?_)
          · replace h := h.1 c30
            refine lv_iinc (v := v8 + 1) (lv' := [(8, .int (v8 + 1)), (0, .ref (lay 0)), (1, .int a1), (2, .int a2), (3, .int a3), (4, .int a4), (5, .int v5), (6, .int v6), (7, .int v7)]) hC.1 hC.2.1 dX11_canPlay_198 hl (k := 8) rfl rfl (by decide) rfl (fun ls hl => ?_)
            refine lv_goto (tgt := 123) hC.1 hC.2.1 dX11_canPlay_201 (by decide) ?_
            exact ih _ _ _ _ _ h _ _ _ G (lv_sub hl [1, 2, 3, 4, 5, 6, 7, 8, 0] rfl)
          · replace h := h.2 c30
            refine lv_aload_n hC.1 hC.2.1 dX11_canPlay_177 rfl (lv_at hl 0 rfl) ?_
            refine lv_iload_n hC.1 hC.2.1 dX11_canPlay_178 rfl (lv_at hl 1 rfl) ?_
            refine lv_iload_n hC.1 hC.2.1 dX11_canPlay_179 rfl (lv_at hl 2 rfl) ?_
            refine lv_iload_n hC.1 hC.2.1 dX11_canPlay_180 rfl (lv_at hl 3 rfl) ?_
            refine lv_iconst (v := 1) hC.1 hC.2.1 dX11_canPlay_181 (by decide) ?_
            refine lv_iadd hC.1 hC.2.1 dX11_canPlay_182 ?_
            refine lv_iload hC.1 hC.2.1 dX11_canPlay_183 (lv_at hl 7 rfl) ?_
            refine lv_iconst (v := 1) hC.1 hC.2.1 dX11_canPlay_185 (by decide) ?_
            refine lv_iload hC.1 hC.2.1 dX11_canPlay_186 (lv_at hl 8 rfl) ?_
            refine lv_ishl hC.1 hC.2.1 dX11_canPlay_188 ?_
            refine lv_ior hC.1 hC.2.1 dX11_canPlay_189 ?_
            refine rg_i G (rg_runV (As := [.int a1, .int a2, .int (a3 + 1), .int (v7 ||| (1 <<< (v8 &&& 31)))]) (rest := []) hC hT G (c_K1_X11_canPlay l D cy lay Γ h _) (cwV 4 hC.2.2.2.2 gX11_canPlay_X11_canPlay rfl rfl rfl hdV_X11_canPlay ⟨Nat.le_of_ble_eq_true rfl, Nat.le_of_ble_eq_true rfl⟩) (rg_recv hT G (by decide) r_mo k_X11) rfl hl.1 rfl (Nat.le_of_ble_eq_true rfl) dX11_canPlay_190 ⟨Nat.le_of_ble_eq_true rfl, Nat.le_of_ble_eq_true rfl⟩) (fun r32 σ31 H locs h G => ?_)
            (try dsimp only at h)
            refine lv_if_eq (tgt := 198) hC.1 hC.2.1 dX11_canPlay_193 (by decide) (fun c33 => ?_) (fun c33 => ?_)
            · replace h := h.1 c33
              refine lv_iinc (v := v8 + 1) (lv' := [(8, .int (v8 + 1)), (0, .ref (lay 0)), (1, .int a1), (2, .int a2), (3, .int a3), (4, .int a4), (5, .int v5), (6, .int v6), (7, .int v7)]) hC.1 hC.2.1 dX11_canPlay_198 hl (k := 8) rfl rfl (by decide) rfl (fun ls hl => ?_)
              refine lv_goto (tgt := 123) hC.1 hC.2.1 dX11_canPlay_201 (by decide) ?_
              exact ih _ _ _ _ _ h _ _ _ G (lv_sub hl [1, 2, 3, 4, 5, 6, 7, 8, 0] rfl)
            · replace h := h.2 c33
              refine lv_iconst (v := 1) hC.1 hC.2.1 dX11_canPlay_196 (by decide) ?_
              exact rg_zret hC hr hlocks G rfl h dX11_canPlay_197
def u_K0_X11_canPlay_35 (Γ : RG) (post : Int32 → MS → Prop) (a1 : Int32) (a2 : Int32) (a3 : Int32) (a4 : Int32) : Nat → MS → Int32 → Int32 → Prop
  | 0, _, _, _ => False
  | n + 1, σ, v5, v6 => w_lp_Jx4a65c_size_8abf5 Γ (fun r6 σ5 => ((r6 ≤ v6 → post 0 σ5) ∧ (¬ r6 ≤ v6 → w_X11_isIn Γ (fun r9 σ8 => ((r9 = 0 → u_K0_X11_canPlay_35 Γ post a1 a2 a3 a4 n σ8 v5 (v6 + 1)) ∧ (¬ r9 = 0 → w_lp_Jx4a65c_get_915e3 Γ (fun j12 σ11 => ((j12 < 10 ∧ j12 < Γ.1) ∧ w_X11_isIn Γ (fun r15 σ14 => ((r15 = 0 → u_K0_X11_canPlay_35 Γ post a1 a2 a3 a4 n σ14 v5 (v6 + 1)) ∧ (¬ r15 = 0 → ((v5 = 1 → w_K1_X11_canPlay Γ (fun r35 σ34 => ((r35 = 0 → (∃ k, u_K0_X11_canPlay_123 Γ post a1 a2 a3 a4 (fun σ w0 w1 => u_K0_X11_canPlay_35 Γ post a1 a2 a3 a4 n σ w0 w1) k σ34 v5 v6 (a4 ||| (1 <<< (v6 &&& 31))) (v6 + 1))) ∧ (¬ r35 = 0 → post 1 σ34))) σ14 a1 a2 (a3 + 1) (a4 ||| (1 <<< (v6 &&& 31)))) ∧ (¬ v5 = 1 → (∃ k, u_K0_X11_canPlay_123 Γ post a1 a2 a3 a4 (fun σ w0 w1 => u_K0_X11_canPlay_35 Γ post a1 a2 a3 a4 n σ w0 w1) k σ14 v5 v6 (a4 ||| (1 <<< (v6 &&& 31))) (v6 + 1))))))) σ11 (σ11 (13 + j12) 0) a3)) σ8 v6))) σ5 (a1 &&& (a4 ^^^ (-1))) v6))) σ
set_option maxHeartbeats 4000000 in
set_option maxRecDepth 100000 in
theorem l_K0_X11_canPlay_35 {p : Program} {l : Launch} {e : Env} {s : State} {m : MethodId} {args : Array Value} {below : List Frame} {meth : Method} {c : Code} {D : va_G} {cy : Nat → ClassId} {lay : Nat → Nat} {Γ : RG} {post : Int32 → MS → Prop} (a1 : Int32) (a2 : Int32) (a3 : Int32) (a4 : Int32) (hC : CallFix p m c cX11_canPlay 9 s args wsX11_canPlay RX11) (hr : meth.sig.returnType = some .boolean) (hlocks : meth.locks = false) (hT : rT D cy lay Γ s) : ∀ (n : Nat), ∀ (σ : MS) (v5 : Int32) (v6 : Int32), u_K0_X11_canPlay_35 Γ post a1 a2 a3 a4 n σ v5 v6 → ∀ (H : Heap) (locs : List Loc) (ls : Array Slot), rG D cy lay Γ tn σ (rA cy lay Γ s.heap.size) s.heap H locs → lv_has ls 9 [(0, .ref (lay 0)), (1, .int a1), (2, .int a2), (3, .int a3), (4, .int a4), (5, .int v5), (6, .int v6)] → W p l e rm_K0_X11_canPlay s m args below meth c H locs 0 0 (MQ below (va_Qi post (rO D cy lay Γ) (rA cy lay Γ s.heap.size)) args s 0 0 (rA cy lay Γ s.heap.size)) (F0 m 35 ls []) := by
  intro n
  induction n with
  | zero =>
    intro σ v5 v6 h
    exact h.elim
  | succ n ih =>
    intro σ v5 v6 h H locs ls G hl
    rw [u_K0_X11_canPlay_35] at h
    refine lv_iload hC.1 hC.2.1 dX11_canPlay_35 (lv_at hl 6 rfl) ?_
    refine lv_aload_n hC.1 hC.2.1 dX11_canPlay_37 rfl (lv_at hl 0 rfl) ?_
    refine rg_get hC hT G (by decide) r_mo k_X11 i_K0_X11_canPlay_X11 3 (by decide) (wm 1 rfl) rfl dX11_canPlay_38 ?_
    refine rg_i G (rg_runV (As := []) (rest := [.int v6]) hC hT G (c_lp_Jx4a65c_size_8abf5 l D cy lay Γ h _) (cwV 0 hC.2.2.2.2 gX11_canPlay_Jx4a65c_size_8abf5 rfl rfl rfl hdV_Jx4a65c_size_8abf5 ⟨Nat.le_of_ble_eq_true rfl, Nat.le_of_ble_eq_true rfl⟩) (rg_recv hT G (by decide) r_lp k_AL) rfl hl.1 rfl (Nat.le_of_ble_eq_true rfl) dX11_canPlay_41 ⟨Nat.le_of_ble_eq_true rfl, Nat.le_of_ble_eq_true rfl⟩) (fun r6 σ5 H locs h G => ?_)
    (try dsimp only at h)
    refine lv_icmp_ge (tgt := 210) hC.1 hC.2.1 dX11_canPlay_44 (by decide) (fun c7 => ?_) (fun c7 => ?_)
    · replace h := h.1 c7
      refine lv_iconst (v := 0) hC.1 hC.2.1 dX11_canPlay_210 (by decide) ?_
      exact rg_zret hC hr hlocks G rfl h dX11_canPlay_211
    · replace h := h.2 c7
      refine lv_iload_n hC.1 hC.2.1 dX11_canPlay_47 rfl (lv_at hl 1 rfl) ?_
      refine lv_iload hC.1 hC.2.1 dX11_canPlay_48 (lv_at hl 4 rfl) ?_
      refine lv_iconst (v := (-1)) hC.1 hC.2.1 dX11_canPlay_50 (by decide) ?_
      refine lv_ixor hC.1 hC.2.1 dX11_canPlay_51 ?_
      refine lv_iand hC.1 hC.2.1 dX11_canPlay_52 ?_
      refine lv_iload hC.1 hC.2.1 dX11_canPlay_53 (lv_at hl 6 rfl) ?_
      refine rg_i G (rg_runS (As := [.int (a1 &&& (a4 ^^^ (-1))), .int v6]) (rest := []) hC hT G (c_X11_isIn l D cy lay Γ h _) (va_cwS 2 hC.2.2.2.2 gX11_canPlay_X11_isIn rfl rfl rfl hdS_X11_isIn ⟨Nat.le_of_ble_eq_true rfl, Nat.le_of_ble_eq_true rfl⟩) rfl hl.1 rfl (Nat.le_of_ble_eq_true rfl) dX11_canPlay_55 ⟨Nat.le_of_ble_eq_true rfl, Nat.le_of_ble_eq_true rfl⟩) (fun r9 σ8 H locs h G => ?_)
      (try dsimp only at h)
      refine lv_if_eq (tgt := 204) hC.1 hC.2.1 dX11_canPlay_58 (by decide) (fun c10 => ?_) (fun c10 => ?_)
      · replace h := h.1 c10
        refine lv_iinc (v := v6 + 1) (lv' := [(6, .int (v6 + 1)), (0, .ref (lay 0)), (1, .int a1), (2, .int a2), (3, .int a3), (4, .int a4), (5, .int v5)]) hC.1 hC.2.1 dX11_canPlay_204 hl (k := 6) rfl rfl (by decide) rfl (fun ls hl => ?_)
        refine lv_goto (tgt := 35) hC.1 hC.2.1 dX11_canPlay_207 (by decide) ?_
        exact ih _ _ _ h _ _ _ G (lv_sub hl [1, 2, 3, 4, 5, 6, 0] rfl)
      · replace h := h.2 c10
        refine lv_aload_n hC.1 hC.2.1 dX11_canPlay_61 rfl (lv_at hl 0 rfl) ?_
        refine rg_get hC hT G (by decide) r_mo k_X11 i_K0_X11_canPlay_X11 3 (by decide) (wm 1 rfl) rfl dX11_canPlay_62 ?_
        refine lv_iload hC.1 hC.2.1 dX11_canPlay_65 (lv_at hl 6 rfl) ?_
        refine rg_r (f := fun i => lay (13 + i)) G (rg_runV (As := [.int v6]) (rest := []) hC hT G (c_lp_Jx4a65c_get_915e3 l D cy lay Γ h _) (cwV 1 hC.2.2.2.2 gX11_canPlay_Jx4a65c_get_915e3 rfl rfl rfl hdV_Jx4a65c_get_915e3 ⟨Nat.le_of_ble_eq_true rfl, Nat.le_of_ble_eq_true rfl⟩) (rg_recv hT G (by decide) r_lp k_AL) rfl hl.1 rfl (Nat.le_of_ble_eq_true rfl) dX11_canPlay_67 ⟨Nat.le_of_ble_eq_true rfl, Nat.le_of_ble_eq_true rfl⟩) (fun j12 σ11 H locs h G => ?_)
        (try dsimp only at h)
        obtain ⟨hj13, h⟩ := h
        refine rg_cast hC hT k_X9 (wm 2 rfl) (rg_recv hT G (rk_pl hj13) (r_pl hj13) k_X9) dX11_canPlay_70 ?_
        refine rg_getN hC hT G (rk_pl hj13) (r_pl hj13) k_X9 i_K0_X11_canPlay_X9 0 (by decide) 2 rfl rfl dX11_canPlay_73 ?_
        refine lv_iload_n hC.1 hC.2.1 dX11_canPlay_76 rfl (lv_at hl 3 rfl) ?_
        refine rg_i G (rg_runS (As := [.int (σ11 (13 + j12) 0), .int a3]) (rest := []) hC hT G (c_X11_isIn l D cy lay Γ h _) (va_cwS 2 hC.2.2.2.2 gX11_canPlay_X11_isIn rfl rfl rfl hdS_X11_isIn ⟨Nat.le_of_ble_eq_true rfl, Nat.le_of_ble_eq_true rfl⟩) rfl hl.1 rfl (Nat.le_of_ble_eq_true rfl) dX11_canPlay_77 ⟨Nat.le_of_ble_eq_true rfl, Nat.le_of_ble_eq_true rfl⟩) (fun r15 σ14 H locs h G => ?_)
        (try dsimp only at h)
        refine lv_if_ne (tgt := 86) hC.1 hC.2.1 dX11_canPlay_80 (by decide) (fun c16 => ?_) (fun c16 => ?_)
        · replace h := h.2 c16
          refine lv_iload hC.1 hC.2.1 dX11_canPlay_86 (lv_at hl 4 rfl) ?_
          refine lv_iconst (v := 1) hC.1 hC.2.1 dX11_canPlay_88 (by decide) ?_
          refine lv_iload hC.1 hC.2.1 dX11_canPlay_89 (lv_at hl 6 rfl) ?_
          refine lv_ishl hC.1 hC.2.1 dX11_canPlay_91 ?_
          refine lv_ior hC.1 hC.2.1 dX11_canPlay_92 ?_
          refine lv_istore (lv' := [(7, .int (a4 ||| (1 <<< (v6 &&& 31)))), (0, .ref (lay 0)), (1, .int a1), (2, .int a2), (3, .int a3), (4, .int a4), (5, .int v5), (6, .int v6)]) hC.1 hC.2.1 dX11_canPlay_93 hl (by decide) rfl (fun ls hl => ?_)
          refine lv_iload hC.1 hC.2.1 dX11_canPlay_95 (lv_at hl 6 rfl) ?_
          refine lv_iconst (v := 1) hC.1 hC.2.1 dX11_canPlay_97 (by decide) ?_
          refine lv_icmp_ne (tgt := 117) hC.1 hC.2.1 dX11_canPlay_98 (by decide) (fun c17 => ?_) (fun c17 => ?_)
          · replace h := h.2 c17
            refine lv_iload hC.1 hC.2.1 dX11_canPlay_117 (lv_at hl 7 rfl) ?_
            refine lv_iconst (v := 1) hC.1 hC.2.1 dX11_canPlay_119 (by decide) ?_
            refine lv_iadd hC.1 hC.2.1 dX11_canPlay_120 ?_
            refine lv_istore (lv' := [(8, .int (v6 + 1)), (7, .int (a4 ||| (1 <<< (v6 &&& 31)))), (0, .ref (lay 0)), (1, .int a1), (2, .int a2), (3, .int a3), (4, .int a4), (5, .int v5), (6, .int v6)]) hC.1 hC.2.1 dX11_canPlay_121 hl (by decide) rfl (fun ls hl => ?_)
            obtain ⟨n1, h⟩ := h
            exact l_K0_X11_canPlay_123 a1 a2 a3 a4 (fun σ w0 w1 => u_K0_X11_canPlay_35 Γ post a1 a2 a3 a4 n σ w0 w1) hC hr hlocks hT ih n1 _ _ _ _ _ h _ _ _ G (lv_sub hl [2, 3, 4, 5, 6, 7, 8, 1, 0] rfl)
          · replace h := h.1 c17
            refine lv_aload_n hC.1 hC.2.1 dX11_canPlay_101 rfl (lv_at hl 1 rfl) ?_
            refine lv_iload_n hC.1 hC.2.1 dX11_canPlay_102 rfl (lv_at hl 2 rfl) ?_
            refine lv_iload_n hC.1 hC.2.1 dX11_canPlay_103 rfl (lv_at hl 3 rfl) ?_
            refine lv_iload_n hC.1 hC.2.1 dX11_canPlay_104 rfl (lv_at hl 4 rfl) ?_
            refine lv_iconst (v := 1) hC.1 hC.2.1 dX11_canPlay_105 (by decide) ?_
            refine lv_iadd hC.1 hC.2.1 dX11_canPlay_106 ?_
            refine lv_iload hC.1 hC.2.1 dX11_canPlay_107 (lv_at hl 0 rfl) ?_
            refine rg_i G (rg_runV (As := [.int a1, .int a2, .int (a3 + 1), .int (a4 ||| (1 <<< (v6 &&& 31)))]) (rest := []) hC hT G (c_K1_X11_canPlay l D cy lay Γ h _) (cwV 4 hC.2.2.2.2 gX11_canPlay_X11_canPlay rfl rfl rfl hdV_X11_canPlay ⟨Nat.le_of_ble_eq_true rfl, Nat.le_of_ble_eq_true rfl⟩) (rg_recv hT G (by decide) r_mo k_X11) rfl hl.1 rfl (Nat.le_of_ble_eq_true rfl) dX11_canPlay_109 ⟨Nat.le_of_ble_eq_true rfl, Nat.le_of_ble_eq_true rfl⟩) (fun r35 σ34 H locs h G => ?_)
            (try dsimp only at h)
            refine lv_if_eq (tgt := 117) hC.1 hC.2.1 dX11_canPlay_112 (by decide) (fun c36 => ?_) (fun c36 => ?_)
            · replace h := h.1 c36
              refine lv_iload hC.1 hC.2.1 dX11_canPlay_117 (lv_at hl 7 rfl) ?_
              refine lv_iconst (v := 1) hC.1 hC.2.1 dX11_canPlay_119 (by decide) ?_
              refine lv_iadd hC.1 hC.2.1 dX11_canPlay_120 ?_
              refine lv_istore (lv' := [(8, .int (v6 + 1)), (7, .int (a4 ||| (1 <<< (v6 &&& 31)))), (0, .ref (lay 0)), (1, .int a1), (2, .int a2), (3, .int a3), (4, .int a4), (5, .int v5), (6, .int v6)]) hC.1 hC.2.1 dX11_canPlay_121 hl (by decide) rfl (fun ls hl => ?_)
              obtain ⟨n1, h⟩ := h
              exact l_K0_X11_canPlay_123 a1 a2 a3 a4 (fun σ w0 w1 => u_K0_X11_canPlay_35 Γ post a1 a2 a3 a4 n σ w0 w1) hC hr hlocks hT ih n1 _ _ _ _ _ h _ _ _ G (lv_sub hl [2, 3, 4, 5, 6, 7, 8, 1, 0] rfl)
            · replace h := h.2 c36
              refine lv_iconst (v := 1) hC.1 hC.2.1 dX11_canPlay_115 (by decide) ?_
              exact rg_zret hC hr hlocks G rfl h dX11_canPlay_116
        · replace h := h.1 c16
          refine lv_goto (tgt := 204) hC.1 hC.2.1 dX11_canPlay_83 (by decide) ?_
          refine lv_iinc (v := v6 + 1) (lv' := [(6, .int (v6 + 1)), (0, .ref (lay 0)), (1, .int a1), (2, .int a2), (3, .int a3), (4, .int a4), (5, .int v5)]) hC.1 hC.2.1 dX11_canPlay_204 hl (k := 6) rfl rfl (by decide) rfl (fun ls hl => ?_)
          refine lv_goto (tgt := 35) hC.1 hC.2.1 dX11_canPlay_207 (by decide) ?_
          exact ih _ _ _ h _ _ _ G (lv_sub hl [1, 2, 3, 4, 5, 6, 0] rfl)
def w_K0_X11_canPlay (Γ : RG) (post : Int32 → MS → Prop) (σ : MS) (a1 : Int32) (a2 : Int32) (a3 : Int32) (a4 : Int32) : Prop := ((a3 = 6 → post 1 σ) ∧ (¬ a3 = 6 → w_X11_needed Γ (fun r3 σ2 => ((r3 = 0 → w_K1_X11_canPlay Γ (fun r38 σ37 => (narrow .boolean (.int r38) = .int r38 ∧ post r38 σ37)) σ2 a1 a2 (a3 + 1) a4) ∧ (¬ r3 = 0 → (∃ k, u_K0_X11_canPlay_35 Γ post a1 a2 a3 a4 k σ2 r3 0)))) σ a2 a3))
set_option maxHeartbeats 4000000 in
set_option maxRecDepth 100000 in
theorem c_K0_X11_canPlay (l : Launch) (D : va_G) (cy : Nat → ClassId) (lay : Nat → Nat) (Γ : RG) {σ : MS} {post : Int32 → MS → Prop} {a1 : Int32} {a2 : Int32} {a3 : Int32} {a4 : Int32} (h : w_K0_X11_canPlay Γ post σ a1 a2 a3 a4) (sz : Nat) : Met l yX11_canPlay wsX11_canPlay rm_K0_X11_canPlay (va_Pc [.ref (lay 0), .int a1, .int a2, .int a3, .int a4] (rI D cy lay Γ σ sz)) (va_Qi post (rO D cy lay Γ) (rA cy lay Γ sz)) 0 0 (rA cy lay Γ sz) := by
  refine rg_ofW (cc := cX11_canPlay) (maxL := 9) (ret := some .boolean) (own := RX11) (Qc := fun sz => va_Qi post (rO D cy lay Γ) (rA cy lay Γ sz)) (by decide) rfl (Nat.le_of_ble_eq_true rfl) rfl ?_
  intro p e s m args below meth c ls hC hr hlocks hT G hl
  unfold w_K0_X11_canPlay at h
  have hl : lv_has ls 9 [(0, .ref (lay 0)), (1, .int a1), (2, .int a2), (3, .int a3), (4, .int a4)] := hl
  refine lv_iload_n hC.1 hC.2.1 dX11_canPlay_0 rfl (lv_at hl 3 rfl) ?_
  refine lv_bipush (v := 6) hC.1 hC.2.1 dX11_canPlay_1 (by decide) ?_
  refine lv_icmp_ne (tgt := 8) hC.1 hC.2.1 dX11_canPlay_3 (by decide) (fun c1 => ?_) (fun c1 => ?_)
  · replace h := h.2 c1
    refine lv_iload_n hC.1 hC.2.1 dX11_canPlay_8 rfl (lv_at hl 2 rfl) ?_
    refine lv_iload_n hC.1 hC.2.1 dX11_canPlay_9 rfl (lv_at hl 3 rfl) ?_
    refine rg_i G (rg_runS (As := [.int a2, .int a3]) (rest := []) hC hT G (c_X11_needed l D cy lay Γ h _) (va_cwS 2 hC.2.2.2.2 gX11_canPlay_X11_needed rfl rfl rfl hdS_X11_needed ⟨Nat.le_of_ble_eq_true rfl, Nat.le_of_ble_eq_true rfl⟩) rfl hl.1 rfl (Nat.le_of_ble_eq_true rfl) dX11_canPlay_10 ⟨Nat.le_of_ble_eq_true rfl, Nat.le_of_ble_eq_true rfl⟩) (fun r3 σ2 H locs h G => ?_)
    (try dsimp only at h)
    refine lv_istore (lv' := [(5, .int r3), (0, .ref (lay 0)), (1, .int a1), (2, .int a2), (3, .int a3), (4, .int a4)]) hC.1 hC.2.1 dX11_canPlay_13 hl (by decide) rfl (fun ls hl => ?_)
    refine lv_iload hC.1 hC.2.1 dX11_canPlay_15 (lv_at hl 0 rfl) ?_
    refine lv_if_ne (tgt := 32) hC.1 hC.2.1 dX11_canPlay_17 (by decide) (fun c4 => ?_) (fun c4 => ?_)
    · replace h := h.2 c4
      refine lv_iconst (v := 0) hC.1 hC.2.1 dX11_canPlay_32 (by decide) ?_
      refine lv_istore (lv' := [(6, .int 0), (5, .int r3), (0, .ref (lay 0)), (1, .int a1), (2, .int a2), (3, .int a3), (4, .int a4)]) hC.1 hC.2.1 dX11_canPlay_33 hl (by decide) rfl (fun ls hl => ?_)
      obtain ⟨n1, h⟩ := h
      exact l_K0_X11_canPlay_35 a1 a2 a3 a4 hC hr hlocks hT n1 _ _ _ h _ _ _ G (lv_sub hl [2, 3, 4, 5, 6, 1, 0] rfl)
    · replace h := h.1 c4
      refine lv_aload_n hC.1 hC.2.1 dX11_canPlay_20 rfl (lv_at hl 1 rfl) ?_
      refine lv_iload_n hC.1 hC.2.1 dX11_canPlay_21 rfl (lv_at hl 2 rfl) ?_
      refine lv_iload_n hC.1 hC.2.1 dX11_canPlay_22 rfl (lv_at hl 3 rfl) ?_
      refine lv_iload_n hC.1 hC.2.1 dX11_canPlay_23 rfl (lv_at hl 4 rfl) ?_
      refine lv_iconst (v := 1) hC.1 hC.2.1 dX11_canPlay_24 (by decide) ?_
      refine lv_iadd hC.1 hC.2.1 dX11_canPlay_25 ?_
      refine lv_iload hC.1 hC.2.1 dX11_canPlay_26 (lv_at hl 5 rfl) ?_
      refine rg_i G (rg_runV (As := [.int a1, .int a2, .int (a3 + 1), .int a4]) (rest := []) hC hT G (c_K1_X11_canPlay l D cy lay Γ h _) (cwV 4 hC.2.2.2.2 gX11_canPlay_X11_canPlay rfl rfl rfl hdV_X11_canPlay ⟨Nat.le_of_ble_eq_true rfl, Nat.le_of_ble_eq_true rfl⟩) (rg_recv hT G (by decide) r_mo k_X11) rfl hl.1 rfl (Nat.le_of_ble_eq_true rfl) dX11_canPlay_28 ⟨Nat.le_of_ble_eq_true rfl, Nat.le_of_ble_eq_true rfl⟩) (fun r38 σ37 H locs h G => ?_)
      (try dsimp only at h)
      exact rg_zret hC hr hlocks G h.1 h.2 dX11_canPlay_31
  · replace h := h.1 c1
    refine lv_iconst (v := 1) hC.1 hC.2.1 dX11_canPlay_6 (by decide) ?_
    exact rg_zret hC hr hlocks G rfl h dX11_canPlay_7
abbrev rm_X11_isPeaceful : Room := { frames := 3, cells := 0, slots := 0, locals := 64 }
theorem i_X11_isPeaceful_X11 : ∀ w ∈ wsX110, w ∈ wsX11_isPeaceful := fun _ h => List.mem_cons_of_mem _ (List.mem_append_left _ (List.mem_append_left _ (List.mem_append_right _ h)))
theorem i_X11_isPeaceful_X9 : ∀ w ∈ wsX90, w ∈ wsX11_isPeaceful := fun _ h => List.mem_cons_of_mem _ (List.mem_append_left _ (List.mem_append_right _ h))
def u_X11_isPeaceful_2 (Γ : RG) (post : Int32 → MS → Prop) (a1 : Int32) : Nat → MS → Int32 → Prop
  | 0, _, _ => False
  | n + 1, σ, v2 => w_lp_Jx4a65c_size_8abf5 Γ (fun r2 σ1 => ((r2 ≤ v2 → post 1 σ1) ∧ (¬ r2 ≤ v2 → w_X11_isIn Γ (fun r5 σ4 => ((r5 = 0 → u_X11_isPeaceful_2 Γ post a1 n σ4 (v2 + 1)) ∧ (¬ r5 = 0 → w_lp_Jx4a65c_get_915e3 Γ (fun j8 σ7 => ((j8 < 10 ∧ j8 < Γ.1) ∧ ((((σ7 (13 + j8) 4) &&& a1) = 0 → u_X11_isPeaceful_2 Γ post a1 n σ7 (v2 + 1)) ∧ (¬ ((σ7 (13 + j8) 4) &&& a1) = 0 → post 0 σ7)))) σ4 v2))) σ1 a1 v2))) σ
set_option maxHeartbeats 4000000 in
set_option maxRecDepth 100000 in
theorem l_X11_isPeaceful_2 {p : Program} {l : Launch} {e : Env} {s : State} {m : MethodId} {args : Array Value} {below : List Frame} {meth : Method} {c : Code} {D : va_G} {cy : Nat → ClassId} {lay : Nat → Nat} {Γ : RG} {post : Int32 → MS → Prop} (a1 : Int32) (hC : CallFix p m c cX11_isPeaceful 3 s args wsX11_isPeaceful RX11) (hr : meth.sig.returnType = some .boolean) (hlocks : meth.locks = false) (hT : rT D cy lay Γ s) : ∀ (n : Nat), ∀ (σ : MS) (v2 : Int32), u_X11_isPeaceful_2 Γ post a1 n σ v2 → ∀ (H : Heap) (locs : List Loc) (ls : Array Slot), rG D cy lay Γ tn σ (rA cy lay Γ s.heap.size) s.heap H locs → lv_has ls 3 [(0, .ref (lay 0)), (1, .int a1), (2, .int v2)] → W p l e rm_X11_isPeaceful s m args below meth c H locs 0 0 (MQ below (va_Qi post (rO D cy lay Γ) (rA cy lay Γ s.heap.size)) args s 0 0 (rA cy lay Γ s.heap.size)) (F0 m 2 ls []) := by
  intro n
  induction n with
  | zero =>
    intro σ v2 h
    exact h.elim
  | succ n ih =>
    intro σ v2 h H locs ls G hl
    rw [u_X11_isPeaceful_2] at h
    refine lv_iload_n hC.1 hC.2.1 dX11_isPeaceful_2 rfl (lv_at hl 2 rfl) ?_
    refine lv_aload_n hC.1 hC.2.1 dX11_isPeaceful_3 rfl (lv_at hl 0 rfl) ?_
    refine rg_get hC hT G (by decide) r_mo k_X11 i_X11_isPeaceful_X11 3 (by decide) (wm 1 rfl) rfl dX11_isPeaceful_4 ?_
    refine rg_i G (rg_runV (As := []) (rest := [.int v2]) hC hT G (c_lp_Jx4a65c_size_8abf5 l D cy lay Γ h _) (cwV 0 hC.2.2.2.2 gX11_isPeaceful_Jx4a65c_size_8abf5 rfl rfl rfl hdV_Jx4a65c_size_8abf5 ⟨Nat.le_of_ble_eq_true rfl, Nat.le_of_ble_eq_true rfl⟩) (rg_recv hT G (by decide) r_lp k_AL) rfl hl.1 rfl (Nat.le_of_ble_eq_true rfl) dX11_isPeaceful_7 ⟨Nat.le_of_ble_eq_true rfl, Nat.le_of_ble_eq_true rfl⟩) (fun r2 σ1 H locs h G => ?_)
    (try dsimp only at h)
    refine lv_icmp_ge (tgt := 48) hC.1 hC.2.1 dX11_isPeaceful_10 (by decide) (fun c3 => ?_) (fun c3 => ?_)
    · replace h := h.1 c3
      refine lv_iconst (v := 1) hC.1 hC.2.1 dX11_isPeaceful_48 (by decide) ?_
      exact rg_zret hC hr hlocks G rfl h dX11_isPeaceful_49
    · replace h := h.2 c3
      refine lv_iload_n hC.1 hC.2.1 dX11_isPeaceful_13 rfl (lv_at hl 1 rfl) ?_
      refine lv_iload_n hC.1 hC.2.1 dX11_isPeaceful_14 rfl (lv_at hl 2 rfl) ?_
      refine rg_i G (rg_runS (As := [.int a1, .int v2]) (rest := []) hC hT G (c_X11_isIn l D cy lay Γ h _) (va_cwS 2 hC.2.2.2.2 gX11_isPeaceful_X11_isIn rfl rfl rfl hdS_X11_isIn ⟨Nat.le_of_ble_eq_true rfl, Nat.le_of_ble_eq_true rfl⟩) rfl hl.1 rfl (Nat.le_of_ble_eq_true rfl) dX11_isPeaceful_15 ⟨Nat.le_of_ble_eq_true rfl, Nat.le_of_ble_eq_true rfl⟩) (fun r5 σ4 H locs h G => ?_)
      (try dsimp only at h)
      refine lv_if_eq (tgt := 42) hC.1 hC.2.1 dX11_isPeaceful_18 (by decide) (fun c6 => ?_) (fun c6 => ?_)
      · replace h := h.1 c6
        refine lv_iinc (v := v2 + 1) (lv' := [(2, .int (v2 + 1)), (0, .ref (lay 0)), (1, .int a1)]) hC.1 hC.2.1 dX11_isPeaceful_42 hl (k := 2) rfl rfl (by decide) rfl (fun ls hl => ?_)
        refine lv_goto (tgt := 2) hC.1 hC.2.1 dX11_isPeaceful_45 (by decide) ?_
        exact ih _ _ h _ _ _ G (lv_sub hl [1, 2, 0] rfl)
      · replace h := h.2 c6
        refine lv_aload_n hC.1 hC.2.1 dX11_isPeaceful_21 rfl (lv_at hl 0 rfl) ?_
        refine rg_get hC hT G (by decide) r_mo k_X11 i_X11_isPeaceful_X11 3 (by decide) (wm 1 rfl) rfl dX11_isPeaceful_22 ?_
        refine lv_iload_n hC.1 hC.2.1 dX11_isPeaceful_25 rfl (lv_at hl 2 rfl) ?_
        refine rg_r (f := fun i => lay (13 + i)) G (rg_runV (As := [.int v2]) (rest := []) hC hT G (c_lp_Jx4a65c_get_915e3 l D cy lay Γ h _) (cwV 1 hC.2.2.2.2 gX11_isPeaceful_Jx4a65c_get_915e3 rfl rfl rfl hdV_Jx4a65c_get_915e3 ⟨Nat.le_of_ble_eq_true rfl, Nat.le_of_ble_eq_true rfl⟩) (rg_recv hT G (by decide) r_lp k_AL) rfl hl.1 rfl (Nat.le_of_ble_eq_true rfl) dX11_isPeaceful_26 ⟨Nat.le_of_ble_eq_true rfl, Nat.le_of_ble_eq_true rfl⟩) (fun j8 σ7 H locs h G => ?_)
        (try dsimp only at h)
        obtain ⟨hj9, h⟩ := h
        refine rg_cast hC hT k_X9 (wm 2 rfl) (rg_recv hT G (rk_pl hj9) (r_pl hj9) k_X9) dX11_isPeaceful_29 ?_
        refine rg_getN hC hT G (rk_pl hj9) (r_pl hj9) k_X9 i_X11_isPeaceful_X9 4 (by decide) 6 rfl rfl dX11_isPeaceful_32 ?_
        refine lv_iload_n hC.1 hC.2.1 dX11_isPeaceful_35 rfl (lv_at hl 1 rfl) ?_
        refine lv_iand hC.1 hC.2.1 dX11_isPeaceful_36 ?_
        refine lv_if_eq (tgt := 42) hC.1 hC.2.1 dX11_isPeaceful_37 (by decide) (fun c10 => ?_) (fun c10 => ?_)
        · replace h := h.1 c10
          refine lv_iinc (v := v2 + 1) (lv' := [(2, .int (v2 + 1)), (0, .ref (lay 0)), (1, .int a1)]) hC.1 hC.2.1 dX11_isPeaceful_42 hl (k := 2) rfl rfl (by decide) rfl (fun ls hl => ?_)
          refine lv_goto (tgt := 2) hC.1 hC.2.1 dX11_isPeaceful_45 (by decide) ?_
          exact ih _ _ h _ _ _ G (lv_sub hl [1, 2, 0] rfl)
        · replace h := h.2 c10
          refine lv_iconst (v := 0) hC.1 hC.2.1 dX11_isPeaceful_40 (by decide) ?_
          exact rg_zret hC hr hlocks G rfl h dX11_isPeaceful_41
def w_X11_isPeaceful (Γ : RG) (post : Int32 → MS → Prop) (σ : MS) (a1 : Int32) : Prop := (∃ k, u_X11_isPeaceful_2 Γ post a1 k σ 0)
set_option maxHeartbeats 4000000 in
set_option maxRecDepth 100000 in
theorem c_X11_isPeaceful (l : Launch) (D : va_G) (cy : Nat → ClassId) (lay : Nat → Nat) (Γ : RG) {σ : MS} {post : Int32 → MS → Prop} {a1 : Int32} (h : w_X11_isPeaceful Γ post σ a1) (sz : Nat) : Met l yX11_isPeaceful wsX11_isPeaceful rm_X11_isPeaceful (va_Pc [.ref (lay 0), .int a1] (rI D cy lay Γ σ sz)) (va_Qi post (rO D cy lay Γ) (rA cy lay Γ sz)) 0 0 (rA cy lay Γ sz) := by
  refine rg_ofW (cc := cX11_isPeaceful) (maxL := 3) (ret := some .boolean) (own := RX11) (Qc := fun sz => va_Qi post (rO D cy lay Γ) (rA cy lay Γ sz)) (by decide) rfl (Nat.le_of_ble_eq_true rfl) rfl ?_
  intro p e s m args below meth c ls hC hr hlocks hT G hl
  unfold w_X11_isPeaceful at h
  have hl : lv_has ls 3 [(0, .ref (lay 0)), (1, .int a1)] := hl
  refine lv_iconst (v := 0) hC.1 hC.2.1 dX11_isPeaceful_0 (by decide) ?_
  refine lv_istore_n (lv' := [(2, .int 0), (0, .ref (lay 0)), (1, .int a1)]) hC.1 hC.2.1 dX11_isPeaceful_1 rfl hl (by decide) rfl (fun ls hl => ?_)
  obtain ⟨n1, h⟩ := h
  exact l_X11_isPeaceful_2 a1 hC hr hlocks hT n1 _ _ h _ _ _ G (lv_sub hl [1, 2, 0] rfl)
theorem hdV_X11_isPeaceful : yX11_isPeaceful.cls = RX11 ∧ yX11_isPeaceful.cls ≠ "java/lang/invoke/MethodHandle" ∧ yX11_isPeaceful.cls ≠ "java/lang/invoke/VarHandle" ∧ (parseMethodDescriptor yX11_isPeaceful.desc).map (fun d => d.parameters.length) = some 1 := by decide +kernel
abbrev rm_X11_isKnown : Room := { frames := 3, cells := 0, slots := 0, locals := 64 }
theorem i_X11_isKnown_X11 : ∀ w ∈ wsX110, w ∈ wsX11_isKnown := fun _ h => List.mem_cons_of_mem _ (List.mem_append_left _ (List.mem_append_left _ (List.mem_append_right _ h)))
theorem i_X11_isKnown_X9 : ∀ w ∈ wsX90, w ∈ wsX11_isKnown := fun _ h => List.mem_cons_of_mem _ (List.mem_append_left _ (List.mem_append_right _ h))
def u_X11_isKnown_5 (Γ : RG) (post : Int32 → MS → Prop) (a1 : Int32) (a2 : Int32) : Nat → MS → Int32 → Int32 → Prop
  | 0, _, _, _ => False
  | n + 1, σ, v3, v4 => w_lp_Jx4a65c_size_8abf5 Γ (fun r2 σ1 => ((r2 ≤ v4 → ((2 ≤ v3 → post 1 σ1) ∧ (¬ 2 ≤ v3 → ((v3 = 1 → w_r_J6_bitCount_0f7a4 Γ (fun r7 σ6 => ((r7 = 1 → post 1 σ6) ∧ (¬ r7 = 1 → post 0 σ6))) σ1 a1) ∧ (¬ v3 = 1 → post 0 σ1))))) ∧ (¬ r2 ≤ v4 → w_X11_isIn Γ (fun r10 σ9 => ((r10 = 0 → u_X11_isKnown_5 Γ post a1 a2 n σ9 (v3 + 0) (v4 + 1)) ∧ (¬ r10 = 0 → w_lp_Jx4a65c_get_915e3 Γ (fun j13 σ12 => ((j13 < 10 ∧ j13 < Γ.1) ∧ w_X11_isIn Γ (fun r16 σ15 => ((r16 = 0 → u_X11_isKnown_5 Γ post a1 a2 n σ15 (v3 + 0) (v4 + 1)) ∧ (¬ r16 = 0 → u_X11_isKnown_5 Γ post a1 a2 n σ15 (v3 + 1) (v4 + 1)))) σ12 (σ12 (13 + j13) 1) a2)) σ9 v4))) σ1 a1 v4))) σ
set_option maxHeartbeats 4000000 in
set_option maxRecDepth 100000 in
theorem l_X11_isKnown_5 {p : Program} {l : Launch} {e : Env} {s : State} {m : MethodId} {args : Array Value} {below : List Frame} {meth : Method} {c : Code} {D : va_G} {cy : Nat → ClassId} {lay : Nat → Nat} {Γ : RG} {post : Int32 → MS → Prop} (a1 : Int32) (a2 : Int32) (hC : CallFix p m c cX11_isKnown 5 s args wsX11_isKnown RX11) (hr : meth.sig.returnType = some .boolean) (hlocks : meth.locks = false) (hT : rT D cy lay Γ s) : ∀ (n : Nat), ∀ (σ : MS) (v3 : Int32) (v4 : Int32), u_X11_isKnown_5 Γ post a1 a2 n σ v3 v4 → ∀ (H : Heap) (locs : List Loc) (ls : Array Slot), rG D cy lay Γ tn σ (rA cy lay Γ s.heap.size) s.heap H locs → lv_has ls 5 [(0, .ref (lay 0)), (1, .int a1), (2, .int a2), (3, .int v3), (4, .int v4)] → W p l e rm_X11_isKnown s m args below meth c H locs 0 0 (MQ below (va_Qi post (rO D cy lay Γ) (rA cy lay Γ s.heap.size)) args s 0 0 (rA cy lay Γ s.heap.size)) (F0 m 5 ls []) := by
  intro n
  induction n with
  | zero =>
    intro σ v3 v4 h
    exact h.elim
  | succ n ih =>
    intro σ v3 v4 h H locs ls G hl
    rw [u_X11_isKnown_5] at h
    refine lv_iload hC.1 hC.2.1 dX11_isKnown_5 (lv_at hl 4 rfl) ?_
    refine lv_aload_n hC.1 hC.2.1 dX11_isKnown_7 rfl (lv_at hl 0 rfl) ?_
    refine rg_get hC hT G (by decide) r_mo k_X11 i_X11_isKnown_X11 3 (by decide) (wm 1 rfl) rfl dX11_isKnown_8 ?_
    refine rg_i G (rg_runV (As := []) (rest := [.int v4]) hC hT G (c_lp_Jx4a65c_size_8abf5 l D cy lay Γ h _) (cwV 0 hC.2.2.2.2 gX11_isKnown_Jx4a65c_size_8abf5 rfl rfl rfl hdV_Jx4a65c_size_8abf5 ⟨Nat.le_of_ble_eq_true rfl, Nat.le_of_ble_eq_true rfl⟩) (rg_recv hT G (by decide) r_lp k_AL) rfl hl.1 rfl (Nat.le_of_ble_eq_true rfl) dX11_isKnown_11 ⟨Nat.le_of_ble_eq_true rfl, Nat.le_of_ble_eq_true rfl⟩) (fun r2 σ1 H locs h G => ?_)
    (try dsimp only at h)
    refine lv_icmp_ge (tgt := 62) hC.1 hC.2.1 dX11_isKnown_14 (by decide) (fun c3 => ?_) (fun c3 => ?_)
    · replace h := h.1 c3
      refine lv_iload_n hC.1 hC.2.1 dX11_isKnown_62 rfl (lv_at hl 3 rfl) ?_
      refine lv_iconst (v := 2) hC.1 hC.2.1 dX11_isKnown_63 (by decide) ?_
      refine lv_icmp_ge (tgt := 80) hC.1 hC.2.1 dX11_isKnown_64 (by decide) (fun c4 => ?_) (fun c4 => ?_)
      · replace h := h.1 c4
        refine lv_iconst (v := 1) hC.1 hC.2.1 dX11_isKnown_80 (by decide) ?_
        refine lv_goto (tgt := 85) hC.1 hC.2.1 dX11_isKnown_81 (by decide) ?_
        exact rg_zret hC hr hlocks G rfl h dX11_isKnown_85
      · replace h := h.2 c4
        refine lv_iload_n hC.1 hC.2.1 dX11_isKnown_67 rfl (lv_at hl 3 rfl) ?_
        refine lv_iconst (v := 1) hC.1 hC.2.1 dX11_isKnown_68 (by decide) ?_
        refine lv_icmp_ne (tgt := 84) hC.1 hC.2.1 dX11_isKnown_69 (by decide) (fun c5 => ?_) (fun c5 => ?_)
        · replace h := h.2 c5
          refine lv_iconst (v := 0) hC.1 hC.2.1 dX11_isKnown_84 (by decide) ?_
          exact rg_zret hC hr hlocks G rfl h dX11_isKnown_85
        · replace h := h.1 c5
          refine lv_iload_n hC.1 hC.2.1 dX11_isKnown_72 rfl (lv_at hl 1 rfl) ?_
          refine rg_i G (rg_runS (As := [.int a1]) (rest := []) hC hT G (c_r_J6_bitCount_0f7a4 l D cy lay Γ h _) (va_cwS 1 hC.2.2.2.2 gX11_isKnown_J6_bitCount_0f7a4 rfl rfl rfl hdS_J6_bitCount_0f7a4 ⟨Nat.le_of_ble_eq_true rfl, Nat.le_of_ble_eq_true rfl⟩) rfl hl.1 rfl (Nat.le_of_ble_eq_true rfl) dX11_isKnown_73 ⟨Nat.le_of_ble_eq_true rfl, Nat.le_of_ble_eq_true rfl⟩) (fun r7 σ6 H locs h G => ?_)
          (try dsimp only at h)
          refine lv_iconst (v := 1) hC.1 hC.2.1 dX11_isKnown_76 (by decide) ?_
          refine lv_icmp_ne (tgt := 84) hC.1 hC.2.1 dX11_isKnown_77 (by decide) (fun c8 => ?_) (fun c8 => ?_)
          · replace h := h.2 c8
            refine lv_iconst (v := 0) hC.1 hC.2.1 dX11_isKnown_84 (by decide) ?_
            exact rg_zret hC hr hlocks G rfl h dX11_isKnown_85
          · replace h := h.1 c8
            refine lv_iconst (v := 1) hC.1 hC.2.1 dX11_isKnown_80 (by decide) ?_
            refine lv_goto (tgt := 85) hC.1 hC.2.1 dX11_isKnown_81 (by decide) ?_
            exact rg_zret hC hr hlocks G rfl h dX11_isKnown_85
    · replace h := h.2 c3
      refine lv_iload_n hC.1 hC.2.1 dX11_isKnown_17 rfl (lv_at hl 3 rfl) ?_
      refine lv_iload_n hC.1 hC.2.1 dX11_isKnown_18 rfl (lv_at hl 1 rfl) ?_
      refine lv_iload hC.1 hC.2.1 dX11_isKnown_19 (lv_at hl 4 rfl) ?_
      refine rg_i G (rg_runS (As := [.int a1, .int v4]) (rest := [.int v3]) hC hT G (c_X11_isIn l D cy lay Γ h _) (va_cwS 2 hC.2.2.2.2 gX11_isKnown_X11_isIn rfl rfl rfl hdS_X11_isIn ⟨Nat.le_of_ble_eq_true rfl, Nat.le_of_ble_eq_true rfl⟩) rfl hl.1 rfl (Nat.le_of_ble_eq_true rfl) dX11_isKnown_21 ⟨Nat.le_of_ble_eq_true rfl, Nat.le_of_ble_eq_true rfl⟩) (fun r10 σ9 H locs h G => ?_)
      (try dsimp only at h)
      refine lv_if_eq (tgt := 53) hC.1 hC.2.1 dX11_isKnown_24 (by decide) (fun c11 => ?_) (fun c11 => ?_)
      · replace h := h.1 c11
        refine lv_iconst (v := 0) hC.1 hC.2.1 dX11_isKnown_53 (by decide) ?_
        refine lv_iadd hC.1 hC.2.1 dX11_isKnown_54 ?_
        refine lv_istore_n (lv' := [(3, .int (v3 + 0)), (0, .ref (lay 0)), (1, .int a1), (2, .int a2), (4, .int v4)]) hC.1 hC.2.1 dX11_isKnown_55 rfl hl (by decide) rfl (fun ls hl => ?_)
        refine lv_iinc (v := v4 + 1) (lv' := [(4, .int (v4 + 1)), (3, .int (v3 + 0)), (0, .ref (lay 0)), (1, .int a1), (2, .int a2)]) hC.1 hC.2.1 dX11_isKnown_56 hl (k := 4) rfl rfl (by decide) rfl (fun ls hl => ?_)
        refine lv_goto (tgt := 5) hC.1 hC.2.1 dX11_isKnown_59 (by decide) ?_
        exact ih _ _ _ h _ _ _ G (lv_sub hl [2, 3, 4, 1, 0] rfl)
      · replace h := h.2 c11
        refine lv_aload_n hC.1 hC.2.1 dX11_isKnown_27 rfl (lv_at hl 0 rfl) ?_
        refine rg_get hC hT G (by decide) r_mo k_X11 i_X11_isKnown_X11 3 (by decide) (wm 1 rfl) rfl dX11_isKnown_28 ?_
        refine lv_iload hC.1 hC.2.1 dX11_isKnown_31 (lv_at hl 4 rfl) ?_
        refine rg_r (f := fun i => lay (13 + i)) G (rg_runV (As := [.int v4]) (rest := [.int v3]) hC hT G (c_lp_Jx4a65c_get_915e3 l D cy lay Γ h _) (cwV 1 hC.2.2.2.2 gX11_isKnown_Jx4a65c_get_915e3 rfl rfl rfl hdV_Jx4a65c_get_915e3 ⟨Nat.le_of_ble_eq_true rfl, Nat.le_of_ble_eq_true rfl⟩) (rg_recv hT G (by decide) r_lp k_AL) rfl hl.1 rfl (Nat.le_of_ble_eq_true rfl) dX11_isKnown_33 ⟨Nat.le_of_ble_eq_true rfl, Nat.le_of_ble_eq_true rfl⟩) (fun j13 σ12 H locs h G => ?_)
        (try dsimp only at h)
        obtain ⟨hj14, h⟩ := h
        refine rg_cast hC hT k_X9 (wm 2 rfl) (rg_recv hT G (rk_pl hj14) (r_pl hj14) k_X9) dX11_isKnown_36 ?_
        refine rg_getN hC hT G (rk_pl hj14) (r_pl hj14) k_X9 i_X11_isKnown_X9 1 (by decide) 3 rfl rfl dX11_isKnown_39 ?_
        refine lv_iload_n hC.1 hC.2.1 dX11_isKnown_42 rfl (lv_at hl 2 rfl) ?_
        refine rg_i G (rg_runS (As := [.int (σ12 (13 + j13) 1), .int a2]) (rest := [.int v3]) hC hT G (c_X11_isIn l D cy lay Γ h _) (va_cwS 2 hC.2.2.2.2 gX11_isKnown_X11_isIn rfl rfl rfl hdS_X11_isIn ⟨Nat.le_of_ble_eq_true rfl, Nat.le_of_ble_eq_true rfl⟩) rfl hl.1 rfl (Nat.le_of_ble_eq_true rfl) dX11_isKnown_43 ⟨Nat.le_of_ble_eq_true rfl, Nat.le_of_ble_eq_true rfl⟩) (fun r16 σ15 H locs h G => ?_)
        (try dsimp only at h)
        refine lv_if_eq (tgt := 53) hC.1 hC.2.1 dX11_isKnown_46 (by decide) (fun c17 => ?_) (fun c17 => ?_)
        · replace h := h.1 c17
          refine lv_iconst (v := 0) hC.1 hC.2.1 dX11_isKnown_53 (by decide) ?_
          refine lv_iadd hC.1 hC.2.1 dX11_isKnown_54 ?_
          refine lv_istore_n (lv' := [(3, .int (v3 + 0)), (0, .ref (lay 0)), (1, .int a1), (2, .int a2), (4, .int v4)]) hC.1 hC.2.1 dX11_isKnown_55 rfl hl (by decide) rfl (fun ls hl => ?_)
          refine lv_iinc (v := v4 + 1) (lv' := [(4, .int (v4 + 1)), (3, .int (v3 + 0)), (0, .ref (lay 0)), (1, .int a1), (2, .int a2)]) hC.1 hC.2.1 dX11_isKnown_56 hl (k := 4) rfl rfl (by decide) rfl (fun ls hl => ?_)
          refine lv_goto (tgt := 5) hC.1 hC.2.1 dX11_isKnown_59 (by decide) ?_
          exact ih _ _ _ h _ _ _ G (lv_sub hl [2, 3, 4, 1, 0] rfl)
        · replace h := h.2 c17
          refine lv_iconst (v := 1) hC.1 hC.2.1 dX11_isKnown_49 (by decide) ?_
          refine lv_goto (tgt := 54) hC.1 hC.2.1 dX11_isKnown_50 (by decide) ?_
          refine lv_iadd hC.1 hC.2.1 dX11_isKnown_54 ?_
          refine lv_istore_n (lv' := [(3, .int (v3 + 1)), (0, .ref (lay 0)), (1, .int a1), (2, .int a2), (4, .int v4)]) hC.1 hC.2.1 dX11_isKnown_55 rfl hl (by decide) rfl (fun ls hl => ?_)
          refine lv_iinc (v := v4 + 1) (lv' := [(4, .int (v4 + 1)), (3, .int (v3 + 1)), (0, .ref (lay 0)), (1, .int a1), (2, .int a2)]) hC.1 hC.2.1 dX11_isKnown_56 hl (k := 4) rfl rfl (by decide) rfl (fun ls hl => ?_)
          refine lv_goto (tgt := 5) hC.1 hC.2.1 dX11_isKnown_59 (by decide) ?_
          exact ih _ _ _ h _ _ _ G (lv_sub hl [2, 3, 4, 1, 0] rfl)
def w_X11_isKnown (Γ : RG) (post : Int32 → MS → Prop) (σ : MS) (a1 : Int32) (a2 : Int32) : Prop := (∃ k, u_X11_isKnown_5 Γ post a1 a2 k σ 0 0)
set_option maxHeartbeats 4000000 in
set_option maxRecDepth 100000 in
theorem c_X11_isKnown (l : Launch) (D : va_G) (cy : Nat → ClassId) (lay : Nat → Nat) (Γ : RG) {σ : MS} {post : Int32 → MS → Prop} {a1 : Int32} {a2 : Int32} (h : w_X11_isKnown Γ post σ a1 a2) (sz : Nat) : Met l yX11_isKnown wsX11_isKnown rm_X11_isKnown (va_Pc [.ref (lay 0), .int a1, .int a2] (rI D cy lay Γ σ sz)) (va_Qi post (rO D cy lay Γ) (rA cy lay Γ sz)) 0 0 (rA cy lay Γ sz) := by
  refine rg_ofW (cc := cX11_isKnown) (maxL := 5) (ret := some .boolean) (own := RX11) (Qc := fun sz => va_Qi post (rO D cy lay Γ) (rA cy lay Γ sz)) (by decide) rfl (Nat.le_of_ble_eq_true rfl) rfl ?_
  intro p e s m args below meth c ls hC hr hlocks hT G hl
  unfold w_X11_isKnown at h
  have hl : lv_has ls 5 [(0, .ref (lay 0)), (1, .int a1), (2, .int a2)] := hl
  refine lv_iconst (v := 0) hC.1 hC.2.1 dX11_isKnown_0 (by decide) ?_
  refine lv_istore_n (lv' := [(3, .int 0), (0, .ref (lay 0)), (1, .int a1), (2, .int a2)]) hC.1 hC.2.1 dX11_isKnown_1 rfl hl (by decide) rfl (fun ls hl => ?_)
  refine lv_iconst (v := 0) hC.1 hC.2.1 dX11_isKnown_2 (by decide) ?_
  refine lv_istore (lv' := [(4, .int 0), (3, .int 0), (0, .ref (lay 0)), (1, .int a1), (2, .int a2)]) hC.1 hC.2.1 dX11_isKnown_3 hl (by decide) rfl (fun ls hl => ?_)
  obtain ⟨n1, h⟩ := h
  exact l_X11_isKnown_5 a1 a2 hC hr hlocks hT n1 _ _ _ h _ _ _ G (lv_sub hl [2, 3, 4, 1, 0] rfl)
theorem hdV_X11_isKnown : yX11_isKnown.cls = RX11 ∧ yX11_isKnown.cls ≠ "java/lang/invoke/MethodHandle" ∧ yX11_isKnown.cls ≠ "java/lang/invoke/VarHandle" ∧ (parseMethodDescriptor yX11_isKnown.desc).map (fun d => d.parameters.length) = some 2 := by decide +kernel
abbrev rm_X11_areKnown : Room := { frames := 4, cells := 0, slots := 0, locals := 88 }
def u_X11_areKnown_2 (Γ : RG) (post : Int32 → MS → Prop) (a1 : Int32) (a2 : Int32) : Nat → MS → Int32 → Prop
  | 0, _, _ => False
  | n + 1, σ, v3 => ((16 ≤ v3 → post 1 σ) ∧ (¬ 16 ≤ v3 → w_X11_isIn Γ (fun r3 σ2 => ((r3 = 0 → u_X11_areKnown_2 Γ post a1 a2 n σ2 (v3 + 1)) ∧ (¬ r3 = 0 → w_X11_isKnown Γ (fun r6 σ5 => ((r6 = 0 → post 0 σ5) ∧ (¬ r6 = 0 → u_X11_areKnown_2 Γ post a1 a2 n σ5 (v3 + 1)))) σ2 a1 v3))) σ a2 v3))
set_option maxHeartbeats 4000000 in
set_option maxRecDepth 100000 in
theorem l_X11_areKnown_2 {p : Program} {l : Launch} {e : Env} {s : State} {m : MethodId} {args : Array Value} {below : List Frame} {meth : Method} {c : Code} {D : va_G} {cy : Nat → ClassId} {lay : Nat → Nat} {Γ : RG} {post : Int32 → MS → Prop} (a1 : Int32) (a2 : Int32) (hC : CallFix p m c cX11_areKnown 4 s args wsX11_areKnown RX11) (hr : meth.sig.returnType = some .boolean) (hlocks : meth.locks = false) (hT : rT D cy lay Γ s) : ∀ (n : Nat), ∀ (σ : MS) (v3 : Int32), u_X11_areKnown_2 Γ post a1 a2 n σ v3 → ∀ (H : Heap) (locs : List Loc) (ls : Array Slot), rG D cy lay Γ tn σ (rA cy lay Γ s.heap.size) s.heap H locs → lv_has ls 4 [(0, .ref (lay 0)), (1, .int a1), (2, .int a2), (3, .int v3)] → W p l e rm_X11_areKnown s m args below meth c H locs 0 0 (MQ below (va_Qi post (rO D cy lay Γ) (rA cy lay Γ s.heap.size)) args s 0 0 (rA cy lay Γ s.heap.size)) (F0 m 2 ls []) := by
  intro n
  induction n with
  | zero =>
    intro σ v3 h
    exact h.elim
  | succ n ih =>
    intro σ v3 h H locs ls G hl
    rw [u_X11_areKnown_2] at h
    refine lv_iload_n hC.1 hC.2.1 dX11_areKnown_2 rfl (lv_at hl 3 rfl) ?_
    refine lv_bipush (v := 16) hC.1 hC.2.1 dX11_areKnown_3 (by decide) ?_
    refine lv_icmp_ge (tgt := 33) hC.1 hC.2.1 dX11_areKnown_5 (by decide) (fun c1 => ?_) (fun c1 => ?_)
    · replace h := h.1 c1
      refine lv_iconst (v := 1) hC.1 hC.2.1 dX11_areKnown_33 (by decide) ?_
      exact rg_zret hC hr hlocks G rfl h dX11_areKnown_34
    · replace h := h.2 c1
      refine lv_iload_n hC.1 hC.2.1 dX11_areKnown_8 rfl (lv_at hl 2 rfl) ?_
      refine lv_iload_n hC.1 hC.2.1 dX11_areKnown_9 rfl (lv_at hl 3 rfl) ?_
      refine rg_i G (rg_runS (As := [.int a2, .int v3]) (rest := []) hC hT G (c_X11_isIn l D cy lay Γ h _) (va_cwS 2 hC.2.2.2.2 gX11_areKnown_X11_isIn rfl rfl rfl hdS_X11_isIn ⟨Nat.le_of_ble_eq_true rfl, Nat.le_of_ble_eq_true rfl⟩) rfl hl.1 rfl (Nat.le_of_ble_eq_true rfl) dX11_areKnown_10 ⟨Nat.le_of_ble_eq_true rfl, Nat.le_of_ble_eq_true rfl⟩) (fun r3 σ2 H locs h G => ?_)
      (try dsimp only at h)
      refine lv_if_eq (tgt := 27) hC.1 hC.2.1 dX11_areKnown_13 (by decide) (fun c4 => ?_) (fun c4 => ?_)
      · replace h := h.1 c4
        refine lv_iinc (v := v3 + 1) (lv' := [(3, .int (v3 + 1)), (0, .ref (lay 0)), (1, .int a1), (2, .int a2)]) hC.1 hC.2.1 dX11_areKnown_27 hl (k := 3) rfl rfl (by decide) rfl (fun ls hl => ?_)
        refine lv_goto (tgt := 2) hC.1 hC.2.1 dX11_areKnown_30 (by decide) ?_
        exact ih _ _ h _ _ _ G (lv_sub hl [1, 2, 3, 0] rfl)
      · replace h := h.2 c4
        refine lv_aload_n hC.1 hC.2.1 dX11_areKnown_16 rfl (lv_at hl 0 rfl) ?_
        refine lv_iload_n hC.1 hC.2.1 dX11_areKnown_17 rfl (lv_at hl 1 rfl) ?_
        refine lv_iload_n hC.1 hC.2.1 dX11_areKnown_18 rfl (lv_at hl 3 rfl) ?_
        refine rg_i G (rg_runV (As := [.int a1, .int v3]) (rest := []) hC hT G (c_X11_isKnown l D cy lay Γ h _) (cwV 2 hC.2.2.2.2 gX11_areKnown_X11_isKnown rfl rfl rfl hdV_X11_isKnown ⟨Nat.le_of_ble_eq_true rfl, Nat.le_of_ble_eq_true rfl⟩) (rg_recv hT G (by decide) r_mo k_X11) rfl hl.1 rfl (Nat.le_of_ble_eq_true rfl) dX11_areKnown_19 ⟨Nat.le_of_ble_eq_true rfl, Nat.le_of_ble_eq_true rfl⟩) (fun r6 σ5 H locs h G => ?_)
        (try dsimp only at h)
        refine lv_if_ne (tgt := 27) hC.1 hC.2.1 dX11_areKnown_22 (by decide) (fun c7 => ?_) (fun c7 => ?_)
        · replace h := h.2 c7
          refine lv_iinc (v := v3 + 1) (lv' := [(3, .int (v3 + 1)), (0, .ref (lay 0)), (1, .int a1), (2, .int a2)]) hC.1 hC.2.1 dX11_areKnown_27 hl (k := 3) rfl rfl (by decide) rfl (fun ls hl => ?_)
          refine lv_goto (tgt := 2) hC.1 hC.2.1 dX11_areKnown_30 (by decide) ?_
          exact ih _ _ h _ _ _ G (lv_sub hl [1, 2, 3, 0] rfl)
        · replace h := h.1 c7
          refine lv_iconst (v := 0) hC.1 hC.2.1 dX11_areKnown_25 (by decide) ?_
          exact rg_zret hC hr hlocks G rfl h dX11_areKnown_26
def w_X11_areKnown (Γ : RG) (post : Int32 → MS → Prop) (σ : MS) (a1 : Int32) (a2 : Int32) : Prop := (∃ k, u_X11_areKnown_2 Γ post a1 a2 k σ 0)
set_option maxHeartbeats 4000000 in
set_option maxRecDepth 100000 in
theorem c_X11_areKnown (l : Launch) (D : va_G) (cy : Nat → ClassId) (lay : Nat → Nat) (Γ : RG) {σ : MS} {post : Int32 → MS → Prop} {a1 : Int32} {a2 : Int32} (h : w_X11_areKnown Γ post σ a1 a2) (sz : Nat) : Met l yX11_areKnown wsX11_areKnown rm_X11_areKnown (va_Pc [.ref (lay 0), .int a1, .int a2] (rI D cy lay Γ σ sz)) (va_Qi post (rO D cy lay Γ) (rA cy lay Γ sz)) 0 0 (rA cy lay Γ sz) := by
  refine rg_ofW (cc := cX11_areKnown) (maxL := 4) (ret := some .boolean) (own := RX11) (Qc := fun sz => va_Qi post (rO D cy lay Γ) (rA cy lay Γ sz)) (by decide) rfl (Nat.le_of_ble_eq_true rfl) rfl ?_
  intro p e s m args below meth c ls hC hr hlocks hT G hl
  unfold w_X11_areKnown at h
  have hl : lv_has ls 4 [(0, .ref (lay 0)), (1, .int a1), (2, .int a2)] := hl
  refine lv_iconst (v := 0) hC.1 hC.2.1 dX11_areKnown_0 (by decide) ?_
  refine lv_istore_n (lv' := [(3, .int 0), (0, .ref (lay 0)), (1, .int a1), (2, .int a2)]) hC.1 hC.2.1 dX11_areKnown_1 rfl hl (by decide) rfl (fun ls hl => ?_)
  obtain ⟨n1, h⟩ := h
  exact l_X11_areKnown_2 a1 a2 hC hr hlocks hT n1 _ _ h _ _ _ G (lv_sub hl [1, 2, 3, 0] rfl)
theorem hdV_X11_areKnown : yX11_areKnown.cls = RX11 ∧ yX11_areKnown.cls ≠ "java/lang/invoke/MethodHandle" ∧ yX11_areKnown.cls ≠ "java/lang/invoke/VarHandle" ∧ (parseMethodDescriptor yX11_areKnown.desc).map (fun d => d.parameters.length) = some 2 := by decide +kernel
abbrev rm_X11_cost : Room := { frames := 3, cells := 0, slots := 0, locals := 64 }
theorem i_X11_cost_X11 : ∀ w ∈ wsX110, w ∈ wsX11_cost := fun _ h => List.mem_cons_of_mem _ (List.mem_append_left _ (List.mem_append_left _ (List.mem_append_left _ (List.mem_append_right _ h))))
theorem i_X11_cost_X9 : ∀ w ∈ wsX90, w ∈ wsX11_cost := fun _ h => List.mem_cons_of_mem _ (List.mem_append_left _ (List.mem_append_left _ (List.mem_append_right _ h)))
theorem i_X11_cost_X10 : ∀ w ∈ wsX100, w ∈ wsX11_cost := fun _ h => List.mem_cons_of_mem _ (List.mem_append_left _ (List.mem_append_right _ h))
def w_X11_cost (Γ : RG) (post : Int32 → MS → Prop) (σ : MS) (a1 : Int32) (i2 : Nat) : Prop := w_lp_Jx4a65c_get_915e3 Γ (fun j2 σ1 => ((j2 < 10 ∧ j2 < Γ.1) ∧ w_X11_driveOf Γ (fun r5 σ4 => ((r5 = (-1) → post (((σ4 (13 + j2) 3) * (σ4 (33 + i2) 4)) + 0) σ4) ∧ (¬ r5 = (-1) → post (((σ4 (13 + j2) 3) * (σ4 (33 + i2) 4)) + (10 * r5)) σ4))) σ1 (σ1 (13 + j2) 2) (σ1 (33 + i2) 2))) σ a1
set_option maxHeartbeats 4000000 in
set_option maxRecDepth 100000 in
theorem c_X11_cost (l : Launch) (D : va_G) (cy : Nat → ClassId) (lay : Nat → Nat) (Γ : RG) {σ : MS} {post : Int32 → MS → Prop} {a1 : Int32} {i2 : Nat} (h : w_X11_cost Γ post σ a1 i2) (hi2 : i2 < 14 ∧ i2 < Γ.2.2.1) (sz : Nat) : Met l yX11_cost wsX11_cost rm_X11_cost (va_Pc [.ref (lay 0), .int a1, .ref (lay (33 + i2))] (rI D cy lay Γ σ sz)) (va_Qi post (rO D cy lay Γ) (rA cy lay Γ sz)) 0 0 (rA cy lay Γ sz) := by
  refine rg_ofW (cc := cX11_cost) (maxL := 5) (ret := some .int) (own := RX11) (Qc := fun sz => va_Qi post (rO D cy lay Γ) (rA cy lay Γ sz)) (by decide) rfl (Nat.le_of_ble_eq_true rfl) rfl ?_
  intro p e s m args below meth c ls hC hr hlocks hT G hl
  unfold w_X11_cost at h
  have hl : lv_has ls 5 [(0, .ref (lay 0)), (1, .int a1), (2, .ref (lay (33 + i2)))] := hl
  refine lv_aload_n hC.1 hC.2.1 dX11_cost_0 rfl (lv_at hl 0 rfl) ?_
  refine rg_get hC hT G (by decide) r_mo k_X11 i_X11_cost_X11 3 (by decide) (wm 1 rfl) rfl dX11_cost_1 ?_
  refine lv_iload_n hC.1 hC.2.1 dX11_cost_4 rfl (lv_at hl 1 rfl) ?_
  refine rg_r (f := fun i => lay (13 + i)) G (rg_runV (As := [.int a1]) (rest := []) hC hT G (c_lp_Jx4a65c_get_915e3 l D cy lay Γ h _) (cwV 1 hC.2.2.2.2 gX11_cost_Jx4a65c_get_915e3 rfl rfl rfl hdV_Jx4a65c_get_915e3 ⟨Nat.le_of_ble_eq_true rfl, Nat.le_of_ble_eq_true rfl⟩) (rg_recv hT G (by decide) r_lp k_AL) rfl hl.1 rfl (Nat.le_of_ble_eq_true rfl) dX11_cost_5 ⟨Nat.le_of_ble_eq_true rfl, Nat.le_of_ble_eq_true rfl⟩) (fun j2 σ1 H locs h G => ?_)
  (try dsimp only at h)
  obtain ⟨hj3, h⟩ := h
  refine rg_cast hC hT k_X9 (wm 2 rfl) (rg_recv hT G (rk_pl hj3) (r_pl hj3) k_X9) dX11_cost_8 ?_
  refine lv_astore_n (lv' := [(3, .ref (lay (13 + j2))), (0, .ref (lay 0)), (1, .int a1), (2, .ref (lay (33 + i2)))]) hC.1 hC.2.1 dX11_cost_11 rfl hl (by decide) rfl (fun ls hl => ?_)
  refine lv_aload_n hC.1 hC.2.1 dX11_cost_12 rfl (lv_at hl 1 rfl) ?_
  refine lv_aload_n hC.1 hC.2.1 dX11_cost_13 rfl (lv_at hl 0 rfl) ?_
  refine rg_getN hC hT G (rk_pl hj3) (r_pl hj3) k_X9 i_X11_cost_X9 2 (by decide) 4 rfl rfl dX11_cost_14 ?_
  refine lv_aload_n hC.1 hC.2.1 dX11_cost_17 rfl (lv_at hl 3 rfl) ?_
  refine rg_getN hC hT G (rk_wd hi2) (r_wd hi2) k_X10 i_X11_cost_X10 2 (by decide) 12 rfl rfl dX11_cost_18 ?_
  refine rg_i G (rg_runV (As := [.int (σ1 (13 + j2) 2), .int (σ1 (33 + i2) 2)]) (rest := []) hC hT G (c_X11_driveOf l D cy lay Γ h _) (cwV 2 hC.2.2.2.2 gX11_cost_X11_driveOf rfl rfl rfl hdV_X11_driveOf ⟨Nat.le_of_ble_eq_true rfl, Nat.le_of_ble_eq_true rfl⟩) (rg_recv hT G (by decide) r_mo k_X11) rfl hl.1 rfl (Nat.le_of_ble_eq_true rfl) dX11_cost_21 ⟨Nat.le_of_ble_eq_true rfl, Nat.le_of_ble_eq_true rfl⟩) (fun r5 σ4 H locs h G => ?_)
  (try dsimp only at h)
  refine lv_istore (lv' := [(4, .int r5), (3, .ref (lay (13 + j2))), (0, .ref (lay 0)), (1, .int a1), (2, .ref (lay (33 + i2)))]) hC.1 hC.2.1 dX11_cost_24 hl (by decide) rfl (fun ls hl => ?_)
  refine lv_aload_n hC.1 hC.2.1 dX11_cost_26 rfl (lv_at hl 1 rfl) ?_
  refine rg_getN hC hT G (rk_pl hj3) (r_pl hj3) k_X9 i_X11_cost_X9 3 (by decide) 5 rfl rfl dX11_cost_27 ?_
  refine lv_aload_n hC.1 hC.2.1 dX11_cost_30 rfl (lv_at hl 4 rfl) ?_
  refine rg_getN hC hT G (rk_wd hi2) (r_wd hi2) k_X10 i_X11_cost_X10 4 (by decide) 14 rfl rfl dX11_cost_31 ?_
  refine lv_imul hC.1 hC.2.1 dX11_cost_34 ?_
  refine lv_iload hC.1 hC.2.1 dX11_cost_35 (lv_at hl 0 rfl) ?_
  refine lv_iconst (v := (-1)) hC.1 hC.2.1 dX11_cost_37 (by decide) ?_
  refine lv_icmp_ne (tgt := 45) hC.1 hC.2.1 dX11_cost_38 (by decide) (fun c6 => ?_) (fun c6 => ?_)
  · replace h := h.2 c6
    refine lv_bipush (v := 10) hC.1 hC.2.1 dX11_cost_45 (by decide) ?_
    refine lv_iload hC.1 hC.2.1 dX11_cost_47 (lv_at hl 0 rfl) ?_
    refine lv_imul hC.1 hC.2.1 dX11_cost_49 ?_
    refine lv_iadd hC.1 hC.2.1 dX11_cost_50 ?_
    exact rg_iret hC hr hlocks G h dX11_cost_51
  · replace h := h.1 c6
    refine lv_iconst (v := 0) hC.1 hC.2.1 dX11_cost_41 (by decide) ?_
    refine lv_goto (tgt := 50) hC.1 hC.2.1 dX11_cost_42 (by decide) ?_
    refine lv_iadd hC.1 hC.2.1 dX11_cost_50 ?_
    exact rg_iret hC hr hlocks G h dX11_cost_51
theorem hdV_X11_cost : yX11_cost.cls = RX11 ∧ yX11_cost.cls ≠ "java/lang/invoke/MethodHandle" ∧ yX11_cost.cls ≠ "java/lang/invoke/VarHandle" ∧ (parseMethodDescriptor yX11_cost.desc).map (fun d => d.parameters.length) = some 2 := by decide +kernel
