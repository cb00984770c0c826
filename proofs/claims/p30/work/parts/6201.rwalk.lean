abbrev rm_X11_drive : Room := { frames := 0, cells := 0, slots := 0, locals := 0 }
theorem i_X11_drive_X11 : ∀ w ∈ wsX110, w ∈ wsX11_drive := fun _ h => List.mem_cons_of_mem _ (List.mem_append_right _ h)
def u_X11_drive_168 (Γ : RG) (post : MS → Prop) (K79 : MS → Int32 → Prop) (K87 : MS → Int32 → Int32 → Prop) (K95 : MS → Int32 → Int32 → Int32 → Prop) (σ : MS) (v1 : Int32) (v2 : Int32) (v3 : Int32) (v4 : Int32) (v5 : Int32) : Prop := (vp_in ((v2 * 6) + v3) 36 ∧ K95 (up2 σ 12 (Int32.toNatClampNeg ((v2 * 6) + v3)) (v4 + v5)) v1 v2 (v3 + 1))
set_option maxHeartbeats 4000000 in
set_option maxRecDepth 100000 in
theorem l_X11_drive_168 {p : Program} {l : Launch} {e : Env} {s : State} {m : MethodId} {args : Array Value} {below : List Frame} {meth : Method} {c : Code} {D : va_G} {cy : Nat → ClassId} {lay : Nat → Nat} {Γ : RG} {post : MS → Prop} (K79 : MS → Int32 → Prop) (K87 : MS → Int32 → Int32 → Prop) (K95 : MS → Int32 → Int32 → Int32 → Prop) (hC : CallFix p m c cX11_drive 7 s args wsX11_drive RX11) (hr : meth.sig.returnType = none) (hlocks : meth.locks = false) (hT : rT D cy lay Γ s) (hK79 : ∀ (σ : MS) (v1 : Int32), K79 σ v1 → ∀ (H : Heap) (locs : List Loc) (ls : Array Slot), rG D cy lay Γ tn σ (rA cy lay Γ s.heap.size) s.heap H locs → lv_has ls 7 [(0, .ref (lay 0)), (1, .int v1)] → W p l e rm_X11_drive s m args below meth c H locs 0 0 (MQ below (va_Qv post (rO D cy lay Γ) (rA cy lay Γ s.heap.size)) args s 0 0 (rA cy lay Γ s.heap.size)) (F0 m 79 ls [])) (hK87 : ∀ (σ : MS) (v1 : Int32) (v2 : Int32), K87 σ v1 v2 → ∀ (H : Heap) (locs : List Loc) (ls : Array Slot), rG D cy lay Γ tn σ (rA cy lay Γ s.heap.size) s.heap H locs → lv_has ls 7 [(0, .ref (lay 0)), (1, .int v1), (2, .int v2)] → W p l e rm_X11_drive s m args below meth c H locs 0 0 (MQ below (va_Qv post (rO D cy lay Γ) (rA cy lay Γ s.heap.size)) args s 0 0 (rA cy lay Γ s.heap.size)) (F0 m 87 ls [])) (hK95 : ∀ (σ : MS) (v1 : Int32) (v2 : Int32) (v3 : Int32), K95 σ v1 v2 v3 → ∀ (H : Heap) (locs : List Loc) (ls : Array Slot), rG D cy lay Γ tn σ (rA cy lay Γ s.heap.size) s.heap H locs → lv_has ls 7 [(0, .ref (lay 0)), (1, .int v1), (2, .int v2), (3, .int v3)] → W p l e rm_X11_drive s m args below meth c H locs 0 0 (MQ below (va_Qv post (rO D cy lay Γ) (rA cy lay Γ s.heap.size)) args s 0 0 (rA cy lay Γ s.heap.size)) (F0 m 95 ls [])) : ∀ (σ : MS) (v1 : Int32) (v2 : Int32) (v3 : Int32) (v4 : Int32) (v5 : Int32), u_X11_drive_168 Γ post K79 K87 K95 σ v1 v2 v3 v4 v5 → ∀ (H : Heap) (locs : List Loc) (ls : Array Slot), rG D cy lay Γ tn σ (rA cy lay Γ s.heap.size) s.heap H locs → lv_has ls 7 [(0, .ref (lay 0)), (1, .int v1), (2, .int v2), (3, .int v3), (4, .int v4), (5, .int v5)] → W p l e rm_X11_drive s m args below meth c H locs 0 0 (MQ below (va_Qv post (rO D cy lay Γ) (rA cy lay Γ s.heap.size)) args s 0 0 (rA cy lay Γ s.heap.size)) (F0 m 168 ls []) := by
  intro σ v1 v2 v3 v4 v5 h H locs ls G hl
  unfold u_X11_drive_168 at h
  refine lv_aload_n hC.1 hC.2.1 dX11_drive_168 rfl (lv_at hl 0 rfl) ?_
  refine rg_get hC hT G (by decide) r_mo k_X11 i_X11_drive_X11 11 (by decide) (wm 1 rfl) rfl dX11_drive_169 ?_
  refine lv_iload_n hC.1 hC.2.1 dX11_drive_172 rfl (lv_at hl 2 rfl) ?_
  refine lv_bipush (v := 6) hC.1 hC.2.1 dX11_drive_173 (by decide) ?_
  refine lv_imul hC.1 hC.2.1 dX11_drive_175 ?_
  refine lv_iload_n hC.1 hC.2.1 dX11_drive_176 rfl (lv_at hl 3 rfl) ?_
  refine lv_iadd hC.1 hC.2.1 dX11_drive_177 ?_
  refine lv_iload hC.1 hC.2.1 dX11_drive_178 (lv_at hl 4 rfl) ?_
  refine lv_iload hC.1 hC.2.1 dX11_drive_180 (lv_at hl 5 rfl) ?_
  refine lv_iadd hC.1 hC.2.1 dX11_drive_182 ?_
  obtain ⟨hn11, h⟩ := h
  refine rg_iast hC hT G (by decide) (fun _ => r_dr) hn11 dX11_drive_183 (fun H locs G => ?_)
  refine lv_iinc (v := v3 + 1) (lv' := [(3, .int (v3 + 1)), (0, .ref (lay 0)), (1, .int v1), (2, .int v2), (4, .int v4), (5, .int v5)]) hC.1 hC.2.1 dX11_drive_184 hl (k := 3) rfl rfl (by decide) rfl (fun ls hl => ?_)
  refine lv_goto (tgt := 95) hC.1 hC.2.1 dX11_drive_187 (by decide) ?_
  exact hK95 _ _ _ _ h _ _ _ G (lv_sub hl [1, 2, 3, 0] rfl)
def u_X11_drive_95 (Γ : RG) (post : MS → Prop) (K79 : MS → Int32 → Prop) (K87 : MS → Int32 → Int32 → Prop) : Nat → MS → Int32 → Int32 → Int32 → Prop
  | 0, _, _, _, _ => False
  | n + 1, σ, v1, v2, v3 => ((6 ≤ v3 → K87 σ v1 (v2 + 1)) ∧ (¬ 6 ≤ v3 → (vp_in ((v2 * 6) + v1) 36 ∧ (vp_in ((v1 * 6) + v3) 36 ∧ (vp_in ((v2 * 6) + v3) 36 ∧ (((σ 12 (Int32.toNatClampNeg ((v2 * 6) + v1))) = (-1) → u_X11_drive_95 Γ post K79 K87 n σ v1 v2 (v3 + 1)) ∧ (¬ (σ 12 (Int32.toNatClampNeg ((v2 * 6) + v1))) = (-1) → (((σ 12 (Int32.toNatClampNeg ((v1 * 6) + v3))) = (-1) → u_X11_drive_95 Γ post K79 K87 n σ v1 v2 (v3 + 1)) ∧ (¬ (σ 12 (Int32.toNatClampNeg ((v1 * 6) + v3))) = (-1) → (((σ 12 (Int32.toNatClampNeg ((v2 * 6) + v3))) = (-1) → u_X11_drive_168 Γ post K79 K87 (fun σ w0 w1 w2 => u_X11_drive_95 Γ post K79 K87 n σ w0 w1 w2) σ v1 v2 v3 (σ 12 (Int32.toNatClampNeg ((v2 * 6) + v1))) (σ 12 (Int32.toNatClampNeg ((v1 * 6) + v3)))) ∧ (¬ (σ 12 (Int32.toNatClampNeg ((v2 * 6) + v3))) = (-1) → (((σ 12 (Int32.toNatClampNeg ((v2 * 6) + v3))) ≤ ((σ 12 (Int32.toNatClampNeg ((v2 * 6) + v1))) + (σ 12 (Int32.toNatClampNeg ((v1 * 6) + v3)))) → u_X11_drive_95 Γ post K79 K87 n σ v1 v2 (v3 + 1)) ∧ (¬ (σ 12 (Int32.toNatClampNeg ((v2 * 6) + v3))) ≤ ((σ 12 (Int32.toNatClampNeg ((v2 * 6) + v1))) + (σ 12 (Int32.toNatClampNeg ((v1 * 6) + v3)))) → u_X11_drive_168 Γ post K79 K87 (fun σ w0 w1 w2 => u_X11_drive_95 Γ post K79 K87 n σ w0 w1 w2) σ v1 v2 v3 (σ 12 (Int32.toNatClampNeg ((v2 * 6) + v1))) (σ 12 (Int32.toNatClampNeg ((v1 * 6) + v3))))))))))))))))
set_option maxHeartbeats 4000000 in
set_option maxRecDepth 100000 in
theorem l_X11_drive_95 {p : Program} {l : Launch} {e : Env} {s : State} {m : MethodId} {args : Array Value} {below : List Frame} {meth : Method} {c : Code} {D : va_G} {cy : Nat → ClassId} {lay : Nat → Nat} {Γ : RG} {post : MS → Prop} (K79 : MS → Int32 → Prop) (K87 : MS → Int32 → Int32 → Prop) (hC : CallFix p m c cX11_drive 7 s args wsX11_drive RX11) (hr : meth.sig.returnType = none) (hlocks : meth.locks = false) (hT : rT D cy lay Γ s) (hK79 : ∀ (σ : MS) (v1 : Int32), K79 σ v1 → ∀ (H : Heap) (locs : List Loc) (ls : Array Slot), rG D cy lay Γ tn σ (rA cy lay Γ s.heap.size) s.heap H locs → lv_has ls 7 [(0, .ref (lay 0)), (1, .int v1)] → W p l e rm_X11_drive s m args below meth c H locs 0 0 (MQ below (va_Qv post (rO D cy lay Γ) (rA cy lay Γ s.heap.size)) args s 0 0 (rA cy lay Γ s.heap.size)) (F0 m 79 ls [])) (hK87 : ∀ (σ : MS) (v1 : Int32) (v2 : Int32), K87 σ v1 v2 → ∀ (H : Heap) (locs : List Loc) (ls : Array Slot), rG D cy lay Γ tn σ (rA cy lay Γ s.heap.size) s.heap H locs → lv_has ls 7 [(0, .ref (lay 0)), (1, .int v1), (2, .int v2)] → W p l e rm_X11_drive s m args below meth c H locs 0 0 (MQ below (va_Qv post (rO D cy lay Γ) (rA cy lay Γ s.heap.size)) args s 0 0 (rA cy lay Γ s.heap.size)) (F0 m 87 ls [])) : ∀ (n : Nat), ∀ (σ : MS) (v1 : Int32) (v2 : Int32) (v3 : Int32), u_X11_drive_95 Γ post K79 K87 n σ v1 v2 v3 → ∀ (H : Heap) (locs : List Loc) (ls : Array Slot), rG D cy lay Γ tn σ (rA cy lay Γ s.heap.size) s.heap H locs → lv_has ls 7 [(0, .ref (lay 0)), (1, .int v1), (2, .int v2), (3, .int v3)] → W p l e rm_X11_drive s m args below meth c H locs 0 0 (MQ below (va_Qv post (rO D cy lay Γ) (rA cy lay Γ s.heap.size)) args s 0 0 (rA cy lay Γ s.heap.size)) (F0 m 95 ls []) := by
  intro n
  induction n with
  | zero =>
    intro σ v1 v2 v3 h
    exact h.elim
  | succ n ih =>
    intro σ v1 v2 v3 h H locs ls G hl
    rw [u_X11_drive_95] at h
    refine lv_iload_n hC.1 hC.2.1 dX11_drive_95 rfl (lv_at hl 3 rfl) ?_
    refine lv_bipush (v := 6) hC.1 hC.2.1 dX11_drive_96 (by decide) ?_
    refine lv_icmp_ge (tgt := 190) hC.1 hC.2.1 dX11_drive_98 (by decide) (fun c4 => ?_) (fun c4 => ?_)
    · replace h := h.1 c4
      refine lv_iinc (v := v2 + 1) (lv' := [(2, .int (v2 + 1)), (0, .ref (lay 0)), (1, .int v1), (3, .int v3)]) hC.1 hC.2.1 dX11_drive_190 hl (k := 2) rfl rfl (by decide) rfl (fun ls hl => ?_)
      refine lv_goto (tgt := 87) hC.1 hC.2.1 dX11_drive_193 (by decide) ?_
      exact hK87 _ _ _ h _ _ _ G (lv_sub hl [1, 2, 0] rfl)
    · replace h := h.2 c4
      refine lv_aload_n hC.1 hC.2.1 dX11_drive_101 rfl (lv_at hl 0 rfl) ?_
      refine rg_get hC hT G (by decide) r_mo k_X11 i_X11_drive_X11 11 (by decide) (wm 1 rfl) rfl dX11_drive_102 ?_
      refine lv_iload_n hC.1 hC.2.1 dX11_drive_105 rfl (lv_at hl 2 rfl) ?_
      refine lv_bipush (v := 6) hC.1 hC.2.1 dX11_drive_106 (by decide) ?_
      refine lv_imul hC.1 hC.2.1 dX11_drive_108 ?_
      refine lv_iload_n hC.1 hC.2.1 dX11_drive_109 rfl (lv_at hl 1 rfl) ?_
      refine lv_iadd hC.1 hC.2.1 dX11_drive_110 ?_
      obtain ⟨hn5, h⟩ := h
      refine rg_iald hC hT G (by decide) r_dr hn5 dX11_drive_111 ?_
      refine lv_istore (lv' := [(4, .int (σ 12 (Int32.toNatClampNeg ((v2 * 6) + v1)))), (0, .ref (lay 0)), (1, .int v1), (2, .int v2), (3, .int v3)]) hC.1 hC.2.1 dX11_drive_112 hl (by decide) rfl (fun ls hl => ?_)
      refine lv_aload_n hC.1 hC.2.1 dX11_drive_114 rfl (lv_at hl 1 rfl) ?_
      refine rg_get hC hT G (by decide) r_mo k_X11 i_X11_drive_X11 11 (by decide) (wm 1 rfl) rfl dX11_drive_115 ?_
      refine lv_iload_n hC.1 hC.2.1 dX11_drive_118 rfl (lv_at hl 2 rfl) ?_
      refine lv_bipush (v := 6) hC.1 hC.2.1 dX11_drive_119 (by decide) ?_
      refine lv_imul hC.1 hC.2.1 dX11_drive_121 ?_
      refine lv_iload_n hC.1 hC.2.1 dX11_drive_122 rfl (lv_at hl 4 rfl) ?_
      refine lv_iadd hC.1 hC.2.1 dX11_drive_123 ?_
      obtain ⟨hn6, h⟩ := h
      refine rg_iald hC hT G (by decide) r_dr hn6 dX11_drive_124 ?_
      refine lv_istore (lv' := [(5, .int (σ 12 (Int32.toNatClampNeg ((v1 * 6) + v3)))), (4, .int (σ 12 (Int32.toNatClampNeg ((v2 * 6) + v1)))), (0, .ref (lay 0)), (1, .int v1), (2, .int v2), (3, .int v3)]) hC.1 hC.2.1 dX11_drive_125 hl (by decide) rfl (fun ls hl => ?_)
      refine lv_aload_n hC.1 hC.2.1 dX11_drive_127 rfl (lv_at hl 2 rfl) ?_
      refine rg_get hC hT G (by decide) r_mo k_X11 i_X11_drive_X11 11 (by decide) (wm 1 rfl) rfl dX11_drive_128 ?_
      refine lv_iload_n hC.1 hC.2.1 dX11_drive_131 rfl (lv_at hl 4 rfl) ?_
      refine lv_bipush (v := 6) hC.1 hC.2.1 dX11_drive_132 (by decide) ?_
      refine lv_imul hC.1 hC.2.1 dX11_drive_134 ?_
      refine lv_iload_n hC.1 hC.2.1 dX11_drive_135 rfl (lv_at hl 5 rfl) ?_
      refine lv_iadd hC.1 hC.2.1 dX11_drive_136 ?_
      obtain ⟨hn7, h⟩ := h
      refine rg_iald hC hT G (by decide) r_dr hn7 dX11_drive_137 ?_
      refine lv_istore (lv' := [(6, .int (σ 12 (Int32.toNatClampNeg ((v2 * 6) + v3)))), (5, .int (σ 12 (Int32.toNatClampNeg ((v1 * 6) + v3)))), (4, .int (σ 12 (Int32.toNatClampNeg ((v2 * 6) + v1)))), (0, .ref (lay 0)), (1, .int v1), (2, .int v2), (3, .int v3)]) hC.1 hC.2.1 dX11_drive_138 hl (by decide) rfl (fun ls hl => ?_)
      refine lv_iload hC.1 hC.2.1 dX11_drive_140 (lv_at hl 2 rfl) ?_
      refine lv_iconst (v := (-1)) hC.1 hC.2.1 dX11_drive_142 (by decide) ?_
      refine lv_icmp_eq (tgt := 184) hC.1 hC.2.1 dX11_drive_143 (by decide) (fun c8 => ?_) (fun c8 => ?_)
      · replace h := h.1 c8
        refine lv_iinc (v := v3 + 1) (lv' := [(3, .int (v3 + 1)), (6, .int (σ 12 (Int32.toNatClampNeg ((v2 * 6) + v3)))), (5, .int (σ 12 (Int32.toNatClampNeg ((v1 * 6) + v3)))), (4, .int (σ 12 (Int32.toNatClampNeg ((v2 * 6) + v1)))), (0, .ref (lay 0)), (1, .int v1), (2, .int v2)]) hC.1 hC.2.1 dX11_drive_184 hl (k := 6) rfl rfl (by decide) rfl (fun ls hl => ?_)
        refine lv_goto (tgt := 95) hC.1 hC.2.1 dX11_drive_187 (by decide) ?_
        exact ih _ _ _ _ h _ _ _ G (lv_sub hl [4, 5, 6, 0] rfl)
      · replace h := h.2 c8
        refine lv_iload hC.1 hC.2.1 dX11_drive_146 (lv_at hl 1 rfl) ?_
        refine lv_iconst (v := (-1)) hC.1 hC.2.1 dX11_drive_148 (by decide) ?_
        refine lv_icmp_eq (tgt := 184) hC.1 hC.2.1 dX11_drive_149 (by decide) (fun c9 => ?_) (fun c9 => ?_)
        · replace h := h.1 c9
          refine lv_iinc (v := v3 + 1) (lv' := [(3, .int (v3 + 1)), (6, .int (σ 12 (Int32.toNatClampNeg ((v2 * 6) + v3)))), (5, .int (σ 12 (Int32.toNatClampNeg ((v1 * 6) + v3)))), (4, .int (σ 12 (Int32.toNatClampNeg ((v2 * 6) + v1)))), (0, .ref (lay 0)), (1, .int v1), (2, .int v2)]) hC.1 hC.2.1 dX11_drive_184 hl (k := 6) rfl rfl (by decide) rfl (fun ls hl => ?_)
          refine lv_goto (tgt := 95) hC.1 hC.2.1 dX11_drive_187 (by decide) ?_
          exact ih _ _ _ _ h _ _ _ G (lv_sub hl [4, 5, 6, 0] rfl)
        · replace h := h.2 c9
          refine lv_iload hC.1 hC.2.1 dX11_drive_152 (lv_at hl 0 rfl) ?_
          refine lv_iconst (v := (-1)) hC.1 hC.2.1 dX11_drive_154 (by decide) ?_
          refine lv_icmp_eq (tgt := 168) hC.1 hC.2.1 dX11_drive_155 (by decide) (fun c10 => ?_) (fun c10 => ?_)
          · replace h := h.1 c10
            exact l_X11_drive_168 K79 K87 (fun σ w0 w1 w2 => u_X11_drive_95 Γ post K79 K87 n σ w0 w1 w2) hC hr hlocks hT hK79 hK87 ih _ _ _ _ _ _ h _ _ _ G (lv_sub hl [3, 4, 5, 6, 2, 1] rfl)
          · replace h := h.2 c10
            refine lv_iload hC.1 hC.2.1 dX11_drive_158 (lv_at hl 2 rfl) ?_
            refine lv_iload hC.1 hC.2.1 dX11_drive_160 (lv_at hl 1 rfl) ?_
            refine lv_iadd hC.1 hC.2.1 dX11_drive_162 ?_
            refine lv_iload hC.1 hC.2.1 dX11_drive_163 (lv_at hl 0 rfl) ?_
            refine lv_icmp_ge (tgt := 184) hC.1 hC.2.1 dX11_drive_165 (by decide) (fun c12 => ?_) (fun c12 => ?_)
            · replace h := h.1 c12
              refine lv_iinc (v := v3 + 1) (lv' := [(3, .int (v3 + 1)), (6, .int (σ 12 (Int32.toNatClampNeg ((v2 * 6) + v3)))), (5, .int (σ 12 (Int32.toNatClampNeg ((v1 * 6) + v3)))), (4, .int (σ 12 (Int32.toNatClampNeg ((v2 * 6) + v1)))), (0, .ref (lay 0)), (1, .int v1), (2, .int v2)]) hC.1 hC.2.1 dX11_drive_184 hl (k := 6) rfl rfl (by decide) rfl (fun ls hl => ?_)
              refine lv_goto (tgt := 95) hC.1 hC.2.1 dX11_drive_187 (by decide) ?_
              exact ih _ _ _ _ h _ _ _ G (lv_sub hl [4, 5, 6, 0] rfl)
            · replace h := h.2 c12
              exact l_X11_drive_168 K79 K87 (fun σ w0 w1 w2 => u_X11_drive_95 Γ post K79 K87 n σ w0 w1 w2) hC hr hlocks hT hK79 hK87 ih _ _ _ _ _ _ h _ _ _ G (lv_sub hl [3, 4, 5, 6, 2, 1] rfl)
def u_X11_drive_87 (Γ : RG) (post : MS → Prop) (K79 : MS → Int32 → Prop) : Nat → MS → Int32 → Int32 → Prop
  | 0, _, _, _ => False
  | n + 1, σ, v1, v2 => ((6 ≤ v2 → K79 σ (v1 + 1)) ∧ (¬ 6 ≤ v2 → (∃ k, u_X11_drive_95 Γ post K79 (fun σ w0 w1 => u_X11_drive_87 Γ post K79 n σ w0 w1) k σ v1 v2 0)))
set_option maxHeartbeats 4000000 in
set_option maxRecDepth 100000 in
theorem l_X11_drive_87 {p : Program} {l : Launch} {e : Env} {s : State} {m : MethodId} {args : Array Value} {below : List Frame} {meth : Method} {c : Code} {D : va_G} {cy : Nat → ClassId} {lay : Nat → Nat} {Γ : RG} {post : MS → Prop} (K79 : MS → Int32 → Prop) (hC : CallFix p m c cX11_drive 7 s args wsX11_drive RX11) (hr : meth.sig.returnType = none) (hlocks : meth.locks = false) (hT : rT D cy lay Γ s) (hK79 : ∀ (σ : MS) (v1 : Int32), K79 σ v1 → ∀ (H : Heap) (locs : List Loc) (ls : Array Slot), rG D cy lay Γ tn σ (rA cy lay Γ s.heap.size) s.heap H locs → lv_has ls 7 [(0, .ref (lay 0)), (1, .int v1)] → W p l e rm_X11_drive s m args below meth c H locs 0 0 (MQ below (va_Qv post (rO D cy lay Γ) (rA cy lay Γ s.heap.size)) args s 0 0 (rA cy lay Γ s.heap.size)) (F0 m 79 ls [])) : ∀ (n : Nat), ∀ (σ : MS) (v1 : Int32) (v2 : Int32), u_X11_drive_87 Γ post K79 n σ v1 v2 → ∀ (H : Heap) (locs : List Loc) (ls : Array Slot), rG D cy lay Γ tn σ (rA cy lay Γ s.heap.size) s.heap H locs → lv_has ls 7 [(0, .ref (lay 0)), (1, .int v1), (2, .int v2)] → W p l e rm_X11_drive s m args below meth c H locs 0 0 (MQ below (va_Qv post (rO D cy lay Γ) (rA cy lay Γ s.heap.size)) args s 0 0 (rA cy lay Γ s.heap.size)) (F0 m 87 ls []) := by
  intro n
  induction n with
  | zero =>
    intro σ v1 v2 h
    exact h.elim
  | succ n ih =>
    intro σ v1 v2 h H locs ls G hl
    rw [u_X11_drive_87] at h
    refine lv_iload_n hC.1 hC.2.1 dX11_drive_87 rfl (lv_at hl 2 rfl) ?_
    refine lv_bipush (v := 6) hC.1 hC.2.1 dX11_drive_88 (by decide) ?_
    refine lv_icmp_ge (tgt := 196) hC.1 hC.2.1 dX11_drive_90 (by decide) (fun c3 => ?_) (fun c3 => ?_)
    · replace h := h.1 c3
      refine lv_iinc (v := v1 + 1) (lv' := [(1, .int (v1 + 1)), (0, .ref (lay 0)), (2, .int v2)]) hC.1 hC.2.1 dX11_drive_196 hl (k := 1) rfl rfl (by decide) rfl (fun ls hl => ?_)
      refine lv_goto (tgt := 79) hC.1 hC.2.1 dX11_drive_199 (by decide) ?_
      exact hK79 _ _ h _ _ _ G (lv_sub hl [1, 0] rfl)
    · replace h := h.2 c3
      refine lv_iconst (v := 0) hC.1 hC.2.1 dX11_drive_93 (by decide) ?_
      refine lv_istore_n (lv' := [(3, .int 0), (0, .ref (lay 0)), (1, .int v1), (2, .int v2)]) hC.1 hC.2.1 dX11_drive_94 rfl hl (by decide) rfl (fun ls hl => ?_)
      obtain ⟨n1, h⟩ := h
      exact l_X11_drive_95 K79 (fun σ w0 w1 => u_X11_drive_87 Γ post K79 n σ w0 w1) hC hr hlocks hT hK79 ih n1 _ _ _ _ h _ _ _ G (lv_sub hl [1, 2, 3, 0] rfl)
def u_X11_drive_79 (Γ : RG) (post : MS → Prop) : Nat → MS → Int32 → Prop
  | 0, _, _ => False
  | n + 1, σ, v1 => ((6 ≤ v1 → post σ) ∧ (¬ 6 ≤ v1 → (∃ k, u_X11_drive_87 Γ post (fun σ w0 => u_X11_drive_79 Γ post n σ w0) k σ v1 0)))
set_option maxHeartbeats 4000000 in
set_option maxRecDepth 100000 in
theorem l_X11_drive_79 {p : Program} {l : Launch} {e : Env} {s : State} {m : MethodId} {args : Array Value} {below : List Frame} {meth : Method} {c : Code} {D : va_G} {cy : Nat → ClassId} {lay : Nat → Nat} {Γ : RG} {post : MS → Prop} (hC : CallFix p m c cX11_drive 7 s args wsX11_drive RX11) (hr : meth.sig.returnType = none) (hlocks : meth.locks = false) (hT : rT D cy lay Γ s) : ∀ (n : Nat), ∀ (σ : MS) (v1 : Int32), u_X11_drive_79 Γ post n σ v1 → ∀ (H : Heap) (locs : List Loc) (ls : Array Slot), rG D cy lay Γ tn σ (rA cy lay Γ s.heap.size) s.heap H locs → lv_has ls 7 [(0, .ref (lay 0)), (1, .int v1)] → W p l e rm_X11_drive s m args below meth c H locs 0 0 (MQ below (va_Qv post (rO D cy lay Γ) (rA cy lay Γ s.heap.size)) args s 0 0 (rA cy lay Γ s.heap.size)) (F0 m 79 ls []) := by
  intro n
  induction n with
  | zero =>
    intro σ v1 h
    exact h.elim
  | succ n ih =>
    intro σ v1 h H locs ls G hl
    rw [u_X11_drive_79] at h
    refine lv_iload_n hC.1 hC.2.1 dX11_drive_79 rfl (lv_at hl 1 rfl) ?_
    refine lv_bipush (v := 6) hC.1 hC.2.1 dX11_drive_80 (by decide) ?_
    refine lv_icmp_ge (tgt := 202) hC.1 hC.2.1 dX11_drive_82 (by decide) (fun c2 => ?_) (fun c2 => ?_)
    · replace h := h.1 c2
      exact rg_vret hC hr hlocks G h dX11_drive_202
    · replace h := h.2 c2
      refine lv_iconst (v := 0) hC.1 hC.2.1 dX11_drive_85 (by decide) ?_
      refine lv_istore_n (lv' := [(2, .int 0), (0, .ref (lay 0)), (1, .int v1)]) hC.1 hC.2.1 dX11_drive_86 rfl hl (by decide) rfl (fun ls hl => ?_)
      obtain ⟨n1, h⟩ := h
      exact l_X11_drive_87 (fun σ w0 => u_X11_drive_79 Γ post n σ w0) hC hr hlocks hT ih n1 _ _ _ h _ _ _ G (lv_sub hl [1, 2, 0] rfl)
def u_X11_drive_10 (Γ : RG) (post : MS → Prop) (K2 : MS → Int32 → Prop) : Nat → MS → Int32 → Int32 → Prop
  | 0, _, _, _ => False
  | n + 1, σ, v1, v2 => ((6 ≤ v2 → K2 σ (v1 + 1)) ∧ (¬ 6 ≤ v2 → ((v1 = v2 → (vp_in ((v1 * 6) + v2) 36 ∧ u_X11_drive_10 Γ post K2 n (up2 σ 12 (Int32.toNatClampNeg ((v1 * 6) + v2)) 0) v1 (v2 + 1))) ∧ (¬ v1 = v2 → (vp_in ((v1 * 6) + v2) 36 ∧ (((σ 11 (Int32.toNatClampNeg ((v1 * 6) + v2))) = 0 → (vp_in ((v1 * 6) + v2) 36 ∧ u_X11_drive_10 Γ post K2 n (up2 σ 12 (Int32.toNatClampNeg ((v1 * 6) + v2)) (-1)) v1 (v2 + 1))) ∧ (¬ (σ 11 (Int32.toNatClampNeg ((v1 * 6) + v2))) = 0 → (vp_in ((v1 * 6) + v2) 36 ∧ (vp_in ((v1 * 6) + v2) 36 ∧ u_X11_drive_10 Γ post K2 n (up2 σ 12 (Int32.toNatClampNeg ((v1 * 6) + v2)) (σ 11 (Int32.toNatClampNeg ((v1 * 6) + v2)))) v1 (v2 + 1))))))))))
set_option maxHeartbeats 4000000 in
set_option maxRecDepth 100000 in
theorem l_X11_drive_10 {p : Program} {l : Launch} {e : Env} {s : State} {m : MethodId} {args : Array Value} {below : List Frame} {meth : Method} {c : Code} {D : va_G} {cy : Nat → ClassId} {lay : Nat → Nat} {Γ : RG} {post : MS → Prop} (K2 : MS → Int32 → Prop) (hC : CallFix p m c cX11_drive 7 s args wsX11_drive RX11) (hr : meth.sig.returnType = none) (hlocks : meth.locks = false) (hT : rT D cy lay Γ s) (hK2 : ∀ (σ : MS) (v1 : Int32), K2 σ v1 → ∀ (H : Heap) (locs : List Loc) (ls : Array Slot), rG D cy lay Γ tn σ (rA cy lay Γ s.heap.size) s.heap H locs → lv_has ls 7 [(0, .ref (lay 0)), (1, .int v1)] → W p l e rm_X11_drive s m args below meth c H locs 0 0 (MQ below (va_Qv post (rO D cy lay Γ) (rA cy lay Γ s.heap.size)) args s 0 0 (rA cy lay Γ s.heap.size)) (F0 m 2 ls [])) : ∀ (n : Nat), ∀ (σ : MS) (v1 : Int32) (v2 : Int32), u_X11_drive_10 Γ post K2 n σ v1 v2 → ∀ (H : Heap) (locs : List Loc) (ls : Array Slot), rG D cy lay Γ tn σ (rA cy lay Γ s.heap.size) s.heap H locs → lv_has ls 7 [(0, .ref (lay 0)), (1, .int v1), (2, .int v2)] → W p l e rm_X11_drive s m args below meth c H locs 0 0 (MQ below (va_Qv post (rO D cy lay Γ) (rA cy lay Γ s.heap.size)) args s 0 0 (rA cy lay Γ s.heap.size)) (F0 m 10 ls []) := by
  intro n
  induction n with
  | zero =>
    intro σ v1 v2 h
    exact h.elim
  | succ n ih =>
    intro σ v1 v2 h H locs ls G hl
    rw [u_X11_drive_10] at h
    refine lv_iload_n hC.1 hC.2.1 dX11_drive_10 rfl (lv_at hl 2 rfl) ?_
    refine lv_bipush (v := 6) hC.1 hC.2.1 dX11_drive_11 (by decide) ?_
    refine lv_icmp_ge (tgt := 71) hC.1 hC.2.1 dX11_drive_13 (by decide) (fun c13 => ?_) (fun c13 => ?_)
    · replace h := h.1 c13
      refine lv_iinc (v := v1 + 1) (lv' := [(1, .int (v1 + 1)), (0, .ref (lay 0)), (2, .int v2)]) hC.1 hC.2.1 dX11_drive_71 hl (k := 1) rfl rfl (by decide) rfl (fun ls hl => ?_)
      refine lv_goto (tgt := 2) hC.1 hC.2.1 dX11_drive_74 (by decide) ?_
      exact hK2 _ _ h _ _ _ G (lv_sub hl [1, 0] rfl)
    · replace h := h.2 c13
      refine lv_aload_n hC.1 hC.2.1 dX11_drive_16 rfl (lv_at hl 0 rfl) ?_
      refine rg_get hC hT G (by decide) r_mo k_X11 i_X11_drive_X11 11 (by decide) (wm 1 rfl) rfl dX11_drive_17 ?_
      refine lv_iload_n hC.1 hC.2.1 dX11_drive_20 rfl (lv_at hl 1 rfl) ?_
      refine lv_bipush (v := 6) hC.1 hC.2.1 dX11_drive_21 (by decide) ?_
      refine lv_imul hC.1 hC.2.1 dX11_drive_23 ?_
      refine lv_iload_n hC.1 hC.2.1 dX11_drive_24 rfl (lv_at hl 2 rfl) ?_
      refine lv_iadd hC.1 hC.2.1 dX11_drive_25 ?_
      refine lv_iload_n hC.1 hC.2.1 dX11_drive_26 rfl (lv_at hl 1 rfl) ?_
      refine lv_iload_n hC.1 hC.2.1 dX11_drive_27 rfl (lv_at hl 2 rfl) ?_
      refine lv_icmp_ne (tgt := 35) hC.1 hC.2.1 dX11_drive_28 (by decide) (fun c14 => ?_) (fun c14 => ?_)
      · replace h := h.2 c14
        refine lv_aload_n hC.1 hC.2.1 dX11_drive_35 rfl (lv_at hl 0 rfl) ?_
        refine rg_get hC hT G (by decide) r_mo k_X11 i_X11_drive_X11 10 (by decide) (wm 2 rfl) rfl dX11_drive_36 ?_
        refine lv_iload_n hC.1 hC.2.1 dX11_drive_39 rfl (lv_at hl 1 rfl) ?_
        refine lv_bipush (v := 6) hC.1 hC.2.1 dX11_drive_40 (by decide) ?_
        refine lv_imul hC.1 hC.2.1 dX11_drive_42 ?_
        refine lv_iload_n hC.1 hC.2.1 dX11_drive_43 rfl (lv_at hl 2 rfl) ?_
        refine lv_iadd hC.1 hC.2.1 dX11_drive_44 ?_
        obtain ⟨hn15, h⟩ := h
        refine rg_iald hC hT G (by decide) r_ro hn15 dX11_drive_45 ?_
        refine lv_if_ne (tgt := 53) hC.1 hC.2.1 dX11_drive_46 (by decide) (fun c16 => ?_) (fun c16 => ?_)
        · replace h := h.2 c16
          refine lv_aload_n hC.1 hC.2.1 dX11_drive_53 rfl (lv_at hl 0 rfl) ?_
          refine rg_get hC hT G (by decide) r_mo k_X11 i_X11_drive_X11 10 (by decide) (wm 2 rfl) rfl dX11_drive_54 ?_
          refine lv_iload_n hC.1 hC.2.1 dX11_drive_57 rfl (lv_at hl 1 rfl) ?_
          refine lv_bipush (v := 6) hC.1 hC.2.1 dX11_drive_58 (by decide) ?_
          refine lv_imul hC.1 hC.2.1 dX11_drive_60 ?_
          refine lv_iload_n hC.1 hC.2.1 dX11_drive_61 rfl (lv_at hl 2 rfl) ?_
          refine lv_iadd hC.1 hC.2.1 dX11_drive_62 ?_
          obtain ⟨hn17, h⟩ := h
          refine rg_iald hC hT G (by decide) r_ro hn17 dX11_drive_63 ?_
          obtain ⟨hn18, h⟩ := h
          refine rg_iast hC hT G (by decide) (fun _ => r_dr) hn18 dX11_drive_64 (fun H locs G => ?_)
          refine lv_iinc (v := v2 + 1) (lv' := [(2, .int (v2 + 1)), (0, .ref (lay 0)), (1, .int v1)]) hC.1 hC.2.1 dX11_drive_65 hl (k := 2) rfl rfl (by decide) rfl (fun ls hl => ?_)
          refine lv_goto (tgt := 10) hC.1 hC.2.1 dX11_drive_68 (by decide) ?_
          exact ih _ _ _ h _ _ _ G (lv_sub hl [1, 2, 0] rfl)
        · replace h := h.1 c16
          refine lv_iconst (v := (-1)) hC.1 hC.2.1 dX11_drive_49 (by decide) ?_
          refine lv_goto (tgt := 64) hC.1 hC.2.1 dX11_drive_50 (by decide) ?_
          obtain ⟨hn19, h⟩ := h
          refine rg_iast hC hT G (by decide) (fun _ => r_dr) hn19 dX11_drive_64 (fun H locs G => ?_)
          refine lv_iinc (v := v2 + 1) (lv' := [(2, .int (v2 + 1)), (0, .ref (lay 0)), (1, .int v1)]) hC.1 hC.2.1 dX11_drive_65 hl (k := 2) rfl rfl (by decide) rfl (fun ls hl => ?_)
          refine lv_goto (tgt := 10) hC.1 hC.2.1 dX11_drive_68 (by decide) ?_
          exact ih _ _ _ h _ _ _ G (lv_sub hl [1, 2, 0] rfl)
      · replace h := h.1 c14
        refine lv_iconst (v := 0) hC.1 hC.2.1 dX11_drive_31 (by decide) ?_
        refine lv_goto (tgt := 64) hC.1 hC.2.1 dX11_drive_32 (by decide) ?_
        obtain ⟨hn20, h⟩ := h
        refine rg_iast hC hT G (by decide) (fun _ => r_dr) hn20 dX11_drive_64 (fun H locs G => ?_)
        refine lv_iinc (v := v2 + 1) (lv' := [(2, .int (v2 + 1)), (0, .ref (lay 0)), (1, .int v1)]) hC.1 hC.2.1 dX11_drive_65 hl (k := 2) rfl rfl (by decide) rfl (fun ls hl => ?_)
        refine lv_goto (tgt := 10) hC.1 hC.2.1 dX11_drive_68 (by decide) ?_
        exact ih _ _ _ h _ _ _ G (lv_sub hl [1, 2, 0] rfl)
def u_X11_drive_2 (Γ : RG) (post : MS → Prop) : Nat → MS → Int32 → Prop
  | 0, _, _ => False
  | n + 1, σ, v1 => ((6 ≤ v1 → (∃ k, u_X11_drive_79 Γ post k σ 0)) ∧ (¬ 6 ≤ v1 → (∃ k, u_X11_drive_10 Γ post (fun σ w0 => u_X11_drive_2 Γ post n σ w0) k σ v1 0)))
set_option maxHeartbeats 4000000 in
set_option maxRecDepth 100000 in
theorem l_X11_drive_2 {p : Program} {l : Launch} {e : Env} {s : State} {m : MethodId} {args : Array Value} {below : List Frame} {meth : Method} {c : Code} {D : va_G} {cy : Nat → ClassId} {lay : Nat → Nat} {Γ : RG} {post : MS → Prop} (hC : CallFix p m c cX11_drive 7 s args wsX11_drive RX11) (hr : meth.sig.returnType = none) (hlocks : meth.locks = false) (hT : rT D cy lay Γ s) : ∀ (n : Nat), ∀ (σ : MS) (v1 : Int32), u_X11_drive_2 Γ post n σ v1 → ∀ (H : Heap) (locs : List Loc) (ls : Array Slot), rG D cy lay Γ tn σ (rA cy lay Γ s.heap.size) s.heap H locs → lv_has ls 7 [(0, .ref (lay 0)), (1, .int v1)] → W p l e rm_X11_drive s m args below meth c H locs 0 0 (MQ below (va_Qv post (rO D cy lay Γ) (rA cy lay Γ s.heap.size)) args s 0 0 (rA cy lay Γ s.heap.size)) (F0 m 2 ls []) := by
  intro n
  induction n with
  | zero =>
    intro σ v1 h
    exact h.elim
  | succ n ih =>
    intro σ v1 h H locs ls G hl
    rw [u_X11_drive_2] at h
    refine lv_iload_n hC.1 hC.2.1 dX11_drive_2 rfl (lv_at hl 1 rfl) ?_
    refine lv_bipush (v := 6) hC.1 hC.2.1 dX11_drive_3 (by decide) ?_
    refine lv_icmp_ge (tgt := 77) hC.1 hC.2.1 dX11_drive_5 (by decide) (fun c1 => ?_) (fun c1 => ?_)
    · replace h := h.1 c1
      refine lv_iconst (v := 0) hC.1 hC.2.1 dX11_drive_77 (by decide) ?_
      refine lv_istore_n (lv' := [(1, .int 0), (0, .ref (lay 0))]) hC.1 hC.2.1 dX11_drive_78 rfl hl (by decide) rfl (fun ls hl => ?_)
      obtain ⟨n1, h⟩ := h
      exact l_X11_drive_79 hC hr hlocks hT n1 _ _ h _ _ _ G (lv_sub hl [1, 0] rfl)
    · replace h := h.2 c1
      refine lv_iconst (v := 0) hC.1 hC.2.1 dX11_drive_8 (by decide) ?_
      refine lv_istore_n (lv' := [(2, .int 0), (0, .ref (lay 0)), (1, .int v1)]) hC.1 hC.2.1 dX11_drive_9 rfl hl (by decide) rfl (fun ls hl => ?_)
      obtain ⟨n1, h⟩ := h
      exact l_X11_drive_10 (fun σ w0 => u_X11_drive_2 Γ post n σ w0) hC hr hlocks hT ih n1 _ _ _ h _ _ _ G (lv_sub hl [1, 2, 0] rfl)
def w_X11_drive (Γ : RG) (post : MS → Prop) (σ : MS) : Prop := (∃ k, u_X11_drive_2 Γ post k σ 0)
set_option maxHeartbeats 4000000 in
set_option maxRecDepth 100000 in
theorem c_X11_drive (l : Launch) (D : va_G) (cy : Nat → ClassId) (lay : Nat → Nat) (Γ : RG) {σ : MS} {post : MS → Prop} (h : w_X11_drive Γ post σ) (sz : Nat) : Met l yX11_drive wsX11_drive rm_X11_drive (va_Pc [.ref (lay 0)] (rI D cy lay Γ σ sz)) (va_Qv post (rO D cy lay Γ) (rA cy lay Γ sz)) 0 0 (rA cy lay Γ sz) := by
  refine rg_ofW (cc := cX11_drive) (maxL := 7) (ret := none) (own := RX11) (Qc := fun sz => va_Qv post (rO D cy lay Γ) (rA cy lay Γ sz)) (by decide) rfl (Nat.le_of_ble_eq_true rfl) rfl ?_
  intro p e s m args below meth c ls hC hr hlocks hT G hl
  unfold w_X11_drive at h
  have hl : lv_has ls 7 [(0, .ref (lay 0))] := hl
  refine lv_iconst (v := 0) hC.1 hC.2.1 dX11_drive_0 (by decide) ?_
  refine lv_istore_n (lv' := [(1, .int 0), (0, .ref (lay 0))]) hC.1 hC.2.1 dX11_drive_1 rfl hl (by decide) rfl (fun ls hl => ?_)
  obtain ⟨n1, h⟩ := h
  exact l_X11_drive_2 hC hr hlocks hT n1 _ _ h _ _ _ G (lv_sub hl [1, 0] rfl)
theorem hdV_X11_drive : yX11_drive.cls = RX11 ∧ yX11_drive.cls ≠ "java/lang/invoke/MethodHandle" ∧ yX11_drive.cls ≠ "java/lang/invoke/VarHandle" ∧ (parseMethodDescriptor yX11_drive.desc).map (fun d => d.parameters.length) = some 0 := by decide +kernel
abbrev rm_X11_driveOf : Room := { frames := 0, cells := 0, slots := 0, locals := 0 }
theorem i_X11_driveOf_X11 : ∀ w ∈ wsX110, w ∈ wsX11_driveOf := fun _ h => List.mem_cons_of_mem _ (List.mem_append_right _ h)
def w_X11_driveOf (Γ : RG) (post : Int32 → MS → Prop) (σ : MS) (a1 : Int32) (a2 : Int32) : Prop := (vp_in ((a1 * 6) + a2) 36 ∧ post (σ 12 (Int32.toNatClampNeg ((a1 * 6) + a2))) σ)
set_option maxHeartbeats 4000000 in
set_option maxRecDepth 100000 in
theorem c_X11_driveOf (l : Launch) (D : va_G) (cy : Nat → ClassId) (lay : Nat → Nat) (Γ : RG) {σ : MS} {post : Int32 → MS → Prop} {a1 : Int32} {a2 : Int32} (h : w_X11_driveOf Γ post σ a1 a2) (sz : Nat) : Met l yX11_driveOf wsX11_driveOf rm_X11_driveOf (va_Pc [.ref (lay 0), .int a1, .int a2] (rI D cy lay Γ σ sz)) (va_Qi post (rO D cy lay Γ) (rA cy lay Γ sz)) 0 0 (rA cy lay Γ sz) := by
  refine rg_ofW (cc := cX11_driveOf) (maxL := 3) (ret := some .int) (own := RX11) (Qc := fun sz => va_Qi post (rO D cy lay Γ) (rA cy lay Γ sz)) (by decide) rfl (Nat.le_of_ble_eq_true rfl) rfl ?_
  intro p e s m args below meth c ls hC hr hlocks hT G hl
  unfold w_X11_driveOf at h
  have hl : lv_has ls 3 [(0, .ref (lay 0)), (1, .int a1), (2, .int a2)] := hl
  refine lv_aload_n hC.1 hC.2.1 dX11_driveOf_0 rfl (lv_at hl 0 rfl) ?_
  refine rg_get hC hT G (by decide) r_mo k_X11 i_X11_driveOf_X11 11 (by decide) (wm 1 rfl) rfl dX11_driveOf_1 ?_
  refine lv_iload_n hC.1 hC.2.1 dX11_driveOf_4 rfl (lv_at hl 1 rfl) ?_
  refine lv_bipush (v := 6) hC.1 hC.2.1 dX11_driveOf_5 (by decide) ?_
  refine lv_imul hC.1 hC.2.1 dX11_driveOf_7 ?_
  refine lv_iload_n hC.1 hC.2.1 dX11_driveOf_8 rfl (lv_at hl 2 rfl) ?_
  refine lv_iadd hC.1 hC.2.1 dX11_driveOf_9 ?_
  obtain ⟨hn1, h⟩ := h
  refine rg_iald hC hT G (by decide) r_dr hn1 dX11_driveOf_10 ?_
  exact rg_iret hC hr hlocks G h dX11_driveOf_11
theorem hdV_X11_driveOf : yX11_driveOf.cls = RX11 ∧ yX11_driveOf.cls ≠ "java/lang/invoke/MethodHandle" ∧ yX11_driveOf.cls ≠ "java/lang/invoke/VarHandle" ∧ (parseMethodDescriptor yX11_driveOf.desc).map (fun d => d.parameters.length) = some 2 := by decide +kernel
abbrev rm_X11_road : Room := { frames := 2, cells := 0, slots := 0, locals := 42 }
theorem i_X11_road_X11 : ∀ w ∈ wsX110, w ∈ wsX11_road := fun _ h => List.mem_cons_of_mem _ (List.mem_append_right _ h)
def u_X11_road_19 (Γ : RG) (post : Int32 → MS → Prop) (a1 : Int32) (a2 : Int32) (a3 : Int32) (σ : MS) : Prop := w_X11_refuse Γ (fun r5 σ4 => post r5 σ4) σ 1
set_option maxHeartbeats 4000000 in
set_option maxRecDepth 100000 in
theorem l_X11_road_19 {p : Program} {l : Launch} {e : Env} {s : State} {m : MethodId} {args : Array Value} {below : List Frame} {meth : Method} {c : Code} {D : va_G} {cy : Nat → ClassId} {lay : Nat → Nat} {Γ : RG} {post : Int32 → MS → Prop} (a1 : Int32) (a2 : Int32) (a3 : Int32) (hC : CallFix p m c cX11_road 4 s args wsX11_road RX11) (hr : meth.sig.returnType = some .int) (hlocks : meth.locks = false) (hT : rT D cy lay Γ s) : ∀ (σ : MS), u_X11_road_19 Γ post a1 a2 a3 σ → ∀ (H : Heap) (locs : List Loc) (ls : Array Slot), rG D cy lay Γ tn σ (rA cy lay Γ s.heap.size) s.heap H locs → lv_has ls 4 [(0, .ref (lay 0)), (1, .int a1), (2, .int a2), (3, .int a3)] → W p l e rm_X11_road s m args below meth c H locs 0 0 (MQ below (va_Qi post (rO D cy lay Γ) (rA cy lay Γ s.heap.size)) args s 0 0 (rA cy lay Γ s.heap.size)) (F0 m 19 ls []) := by
  intro σ h H locs ls G hl
  unfold u_X11_road_19 at h
  refine lv_aload_n hC.1 hC.2.1 dX11_road_19 rfl (lv_at hl 0 rfl) ?_
  refine lv_iconst (v := 1) hC.1 hC.2.1 dX11_road_20 (by decide) ?_
  refine rg_i G (rg_runV (As := [.int 1]) (rest := []) hC hT G (c_X11_refuse l D cy lay Γ h _) (cwV 1 hC.2.2.2.2 gX11_road_X11_refuse rfl rfl rfl hdV_X11_refuse ⟨Nat.le_of_ble_eq_true rfl, Nat.le_of_ble_eq_true rfl⟩) (rg_recv hT G (by decide) r_mo k_X11) rfl hl.1 rfl (Nat.le_of_ble_eq_true rfl) dX11_road_21 ⟨Nat.le_of_ble_eq_true rfl, Nat.le_of_ble_eq_true rfl⟩) (fun r5 σ4 H locs h G => ?_)
  (try dsimp only at h)
  exact rg_iret hC hr hlocks G h dX11_road_24
def u_X11_road_40 (Γ : RG) (post : Int32 → MS → Prop) (a1 : Int32) (a2 : Int32) (a3 : Int32) (σ : MS) : Prop := w_X11_refuse Γ (fun r11 σ10 => post r11 σ10) σ 2
set_option maxHeartbeats 4000000 in
set_option maxRecDepth 100000 in
theorem l_X11_road_40 {p : Program} {l : Launch} {e : Env} {s : State} {m : MethodId} {args : Array Value} {below : List Frame} {meth : Method} {c : Code} {D : va_G} {cy : Nat → ClassId} {lay : Nat → Nat} {Γ : RG} {post : Int32 → MS → Prop} (a1 : Int32) (a2 : Int32) (a3 : Int32) (hC : CallFix p m c cX11_road 4 s args wsX11_road RX11) (hr : meth.sig.returnType = some .int) (hlocks : meth.locks = false) (hT : rT D cy lay Γ s) : ∀ (σ : MS), u_X11_road_40 Γ post a1 a2 a3 σ → ∀ (H : Heap) (locs : List Loc) (ls : Array Slot), rG D cy lay Γ tn σ (rA cy lay Γ s.heap.size) s.heap H locs → lv_has ls 4 [(0, .ref (lay 0)), (1, .int a1), (2, .int a2), (3, .int a3)] → W p l e rm_X11_road s m args below meth c H locs 0 0 (MQ below (va_Qi post (rO D cy lay Γ) (rA cy lay Γ s.heap.size)) args s 0 0 (rA cy lay Γ s.heap.size)) (F0 m 40 ls []) := by
  intro σ h H locs ls G hl
  unfold u_X11_road_40 at h
  refine lv_aload_n hC.1 hC.2.1 dX11_road_40 rfl (lv_at hl 0 rfl) ?_
  refine lv_iconst (v := 2) hC.1 hC.2.1 dX11_road_41 (by decide) ?_
  refine rg_i G (rg_runV (As := [.int 2]) (rest := []) hC hT G (c_X11_refuse l D cy lay Γ h _) (cwV 1 hC.2.2.2.2 gX11_road_X11_refuse rfl rfl rfl hdV_X11_refuse ⟨Nat.le_of_ble_eq_true rfl, Nat.le_of_ble_eq_true rfl⟩) (rg_recv hT G (by decide) r_mo k_X11) rfl hl.1 rfl (Nat.le_of_ble_eq_true rfl) dX11_road_42 ⟨Nat.le_of_ble_eq_true rfl, Nat.le_of_ble_eq_true rfl⟩) (fun r11 σ10 H locs h G => ?_)
  (try dsimp only at h)
  exact rg_iret hC hr hlocks G h dX11_road_45
def w_X11_road (Γ : RG) (post : Int32 → MS → Prop) (σ : MS) (a1 : Int32) (a2 : Int32) (a3 : Int32) : Prop := w_X11_isTown Γ (fun r2 σ1 => ((r2 = 0 → u_X11_road_19 Γ post a1 a2 a3 σ1) ∧ (¬ r2 = 0 → w_X11_isTown Γ (fun r7 σ6 => ((r7 = 0 → u_X11_road_19 Γ post a1 a2 a3 σ6) ∧ (¬ r7 = 0 → ((a1 = a2 → u_X11_road_40 Γ post a1 a2 a3 σ6) ∧ (¬ a1 = a2 → w_X11_is Γ (fun r13 σ12 => ((r13 = 0 → u_X11_road_40 Γ post a1 a2 a3 σ12) ∧ (¬ r13 = 0 → (vp_in ((a1 * 6) + a2) 36 ∧ (vp_in ((a2 * 6) + a1) 36 ∧ w_X11_drive Γ (fun σ17 => w_X11_driveOf Γ (fun r19 σ18 => post r19 σ18) σ17 a1 a2) (up2 (up2 σ12 11 (Int32.toNatClampNeg ((a1 * 6) + a2)) a3) 11 (Int32.toNatClampNeg ((a2 * 6) + a1)) a3)))))) σ6 a3 0 9))))) σ1 a2))) (up2 σ 0 0 0) a1
set_option maxHeartbeats 4000000 in
set_option maxRecDepth 100000 in
theorem c_X11_road (l : Launch) (D : va_G) (cy : Nat → ClassId) (lay : Nat → Nat) (Γ : RG) {σ : MS} {post : Int32 → MS → Prop} {a1 : Int32} {a2 : Int32} {a3 : Int32} (h : w_X11_road Γ post σ a1 a2 a3) (sz : Nat) : Met l yX11_road wsX11_road rm_X11_road (va_Pc [.ref (lay 0), .int a1, .int a2, .int a3] (rI D cy lay Γ σ sz)) (va_Qi post (rO D cy lay Γ) (rA cy lay Γ sz)) 0 0 (rA cy lay Γ sz) := by
  refine rg_ofW (cc := cX11_road) (maxL := 4) (ret := some .int) (own := RX11) (Qc := fun sz => va_Qi post (rO D cy lay Γ) (rA cy lay Γ sz)) (by decide) rfl (Nat.le_of_ble_eq_true rfl) rfl ?_
  intro p e s m args below meth c ls hC hr hlocks hT G hl
  unfold w_X11_road at h
  have hl : lv_has ls 4 [(0, .ref (lay 0)), (1, .int a1), (2, .int a2), (3, .int a3)] := hl
  refine lv_aload_n hC.1 hC.2.1 dX11_road_0 rfl (lv_at hl 0 rfl) ?_
  refine lv_iconst (v := 0) hC.1 hC.2.1 dX11_road_1 (by decide) ?_
  refine rg_put hC hT G (by decide) r_mo k_X11 i_X11_road_X11 0 (by decide) (wm 1 rfl) rfl rfl (by simp) r_mo (by rw [up2_eq]; rfl) dX11_road_2 (fun H locs G => ?_)
  refine lv_iload_n hC.1 hC.2.1 dX11_road_5 rfl (lv_at hl 1 rfl) ?_
  refine rg_i G (rg_runS (As := [.int a1]) (rest := []) hC hT G (c_X11_isTown l D cy lay Γ h _) (va_cwS 1 hC.2.2.2.2 gX11_road_X11_isTown rfl rfl rfl hdS_X11_isTown ⟨Nat.le_of_ble_eq_true rfl, Nat.le_of_ble_eq_true rfl⟩) rfl hl.1 rfl (Nat.le_of_ble_eq_true rfl) dX11_road_6 ⟨Nat.le_of_ble_eq_true rfl, Nat.le_of_ble_eq_true rfl⟩) (fun r2 σ1 H locs h G => ?_)
  (try dsimp only at h)
  refine lv_if_eq (tgt := 19) hC.1 hC.2.1 dX11_road_9 (by decide) (fun c3 => ?_) (fun c3 => ?_)
  · replace h := h.1 c3
    exact l_X11_road_19 a1 a2 a3 hC hr hlocks hT _ h _ _ _ G (lv_sub hl [0, 1, 2, 3] rfl)
  · replace h := h.2 c3
    refine lv_iload_n hC.1 hC.2.1 dX11_road_12 rfl (lv_at hl 2 rfl) ?_
    refine rg_i G (rg_runS (As := [.int a2]) (rest := []) hC hT G (c_X11_isTown l D cy lay Γ h _) (va_cwS 1 hC.2.2.2.2 gX11_road_X11_isTown rfl rfl rfl hdS_X11_isTown ⟨Nat.le_of_ble_eq_true rfl, Nat.le_of_ble_eq_true rfl⟩) rfl hl.1 rfl (Nat.le_of_ble_eq_true rfl) dX11_road_13 ⟨Nat.le_of_ble_eq_true rfl, Nat.le_of_ble_eq_true rfl⟩) (fun r7 σ6 H locs h G => ?_)
    (try dsimp only at h)
    refine lv_if_ne (tgt := 25) hC.1 hC.2.1 dX11_road_16 (by decide) (fun c8 => ?_) (fun c8 => ?_)
    · replace h := h.2 c8
      refine lv_iload_n hC.1 hC.2.1 dX11_road_25 rfl (lv_at hl 1 rfl) ?_
      refine lv_iload_n hC.1 hC.2.1 dX11_road_26 rfl (lv_at hl 2 rfl) ?_
      refine lv_icmp_eq (tgt := 40) hC.1 hC.2.1 dX11_road_27 (by decide) (fun c9 => ?_) (fun c9 => ?_)
      · replace h := h.1 c9
        exact l_X11_road_40 a1 a2 a3 hC hr hlocks hT _ h _ _ _ G (lv_sub hl [0, 1, 2, 3] rfl)
      · replace h := h.2 c9
        refine lv_iload_n hC.1 hC.2.1 dX11_road_30 rfl (lv_at hl 3 rfl) ?_
        refine lv_iconst (v := 0) hC.1 hC.2.1 dX11_road_31 (by decide) ?_
        refine lv_bipush (v := 9) hC.1 hC.2.1 dX11_road_32 (by decide) ?_
        refine rg_i G (rg_runS (As := [.int a3, .int 0, .int 9]) (rest := []) hC hT G (c_X11_is l D cy lay Γ h _) (va_cwS 3 hC.2.2.2.2 gX11_road_X11_is rfl rfl rfl hdS_X11_is ⟨Nat.le_of_ble_eq_true rfl, Nat.le_of_ble_eq_true rfl⟩) rfl hl.1 rfl (Nat.le_of_ble_eq_true rfl) dX11_road_34 ⟨Nat.le_of_ble_eq_true rfl, Nat.le_of_ble_eq_true rfl⟩) (fun r13 σ12 H locs h G => ?_)
        (try dsimp only at h)
        refine lv_if_ne (tgt := 46) hC.1 hC.2.1 dX11_road_37 (by decide) (fun c14 => ?_) (fun c14 => ?_)
        · replace h := h.2 c14
          refine lv_aload_n hC.1 hC.2.1 dX11_road_46 rfl (lv_at hl 0 rfl) ?_
          refine rg_get hC hT G (by decide) r_mo k_X11 i_X11_road_X11 10 (by decide) (wm 2 rfl) rfl dX11_road_47 ?_
          refine lv_iload_n hC.1 hC.2.1 dX11_road_50 rfl (lv_at hl 1 rfl) ?_
          refine lv_bipush (v := 6) hC.1 hC.2.1 dX11_road_51 (by decide) ?_
          refine lv_imul hC.1 hC.2.1 dX11_road_53 ?_
          refine lv_iload_n hC.1 hC.2.1 dX11_road_54 rfl (lv_at hl 2 rfl) ?_
          refine lv_iadd hC.1 hC.2.1 dX11_road_55 ?_
          refine lv_iload_n hC.1 hC.2.1 dX11_road_56 rfl (lv_at hl 3 rfl) ?_
          obtain ⟨hn15, h⟩ := h
          refine rg_iast hC hT G (by decide) (fun _ => r_ro) hn15 dX11_road_57 (fun H locs G => ?_)
          refine lv_aload_n hC.1 hC.2.1 dX11_road_58 rfl (lv_at hl 0 rfl) ?_
          refine rg_get hC hT G (by decide) r_mo k_X11 i_X11_road_X11 10 (by decide) (wm 2 rfl) rfl dX11_road_59 ?_
          refine lv_iload_n hC.1 hC.2.1 dX11_road_62 rfl (lv_at hl 2 rfl) ?_
          refine lv_bipush (v := 6) hC.1 hC.2.1 dX11_road_63 (by decide) ?_
          refine lv_imul hC.1 hC.2.1 dX11_road_65 ?_
          refine lv_iload_n hC.1 hC.2.1 dX11_road_66 rfl (lv_at hl 1 rfl) ?_
          refine lv_iadd hC.1 hC.2.1 dX11_road_67 ?_
          refine lv_iload_n hC.1 hC.2.1 dX11_road_68 rfl (lv_at hl 3 rfl) ?_
          obtain ⟨hn16, h⟩ := h
          refine rg_iast hC hT G (by decide) (fun _ => r_ro) hn16 dX11_road_69 (fun H locs G => ?_)
          refine lv_aload_n hC.1 hC.2.1 dX11_road_70 rfl (lv_at hl 0 rfl) ?_
          refine rg_v G (rg_runV (As := []) (rest := []) hC hT G (c_X11_drive l D cy lay Γ h _) (cwV 0 hC.2.2.2.2 gX11_road_X11_drive rfl rfl rfl hdV_X11_drive ⟨Nat.le_of_ble_eq_true rfl, Nat.le_of_ble_eq_true rfl⟩) (rg_recv hT G (by decide) r_mo k_X11) rfl hl.1 rfl (Nat.le_of_ble_eq_true rfl) dX11_road_71 ⟨Nat.le_of_ble_eq_true rfl, Nat.le_of_ble_eq_true rfl⟩) (fun σ17 H locs h G => ?_)
          (try dsimp only at h)
          refine lv_aload_n hC.1 hC.2.1 dX11_road_74 rfl (lv_at hl 0 rfl) ?_
          refine lv_iload_n hC.1 hC.2.1 dX11_road_75 rfl (lv_at hl 1 rfl) ?_
          refine lv_iload_n hC.1 hC.2.1 dX11_road_76 rfl (lv_at hl 2 rfl) ?_
          refine rg_i G (rg_runV (As := [.int a1, .int a2]) (rest := []) hC hT G (c_X11_driveOf l D cy lay Γ h _) (cwV 2 hC.2.2.2.2 gX11_road_X11_driveOf rfl rfl rfl hdV_X11_driveOf ⟨Nat.le_of_ble_eq_true rfl, Nat.le_of_ble_eq_true rfl⟩) (rg_recv hT G (by decide) r_mo k_X11) rfl hl.1 rfl (Nat.le_of_ble_eq_true rfl) dX11_road_77 ⟨Nat.le_of_ble_eq_true rfl, Nat.le_of_ble_eq_true rfl⟩) (fun r19 σ18 H locs h G => ?_)
          (try dsimp only at h)
          exact rg_iret hC hr hlocks G h dX11_road_80
        · replace h := h.1 c14
          exact l_X11_road_40 a1 a2 a3 hC hr hlocks hT _ h _ _ _ G (lv_sub hl [0, 1, 2, 3] rfl)
    · replace h := h.1 c8
      exact l_X11_road_19 a1 a2 a3 hC hr hlocks hT _ h _ _ _ G (lv_sub hl [0, 1, 2, 3] rfl)
theorem hdV_X11_road : yX11_road.cls = RX11 ∧ yX11_road.cls ≠ "java/lang/invoke/MethodHandle" ∧ yX11_road.cls ≠ "java/lang/invoke/VarHandle" ∧ (parseMethodDescriptor yX11_road.desc).map (fun d => d.parameters.length) = some 3 := by decide +kernel
abbrev rm_X11_isFixed : Room := { frames := 3, cells := 0, slots := 0, locals := 64 }
theorem i_X11_isFixed_X11 : ∀ w ∈ wsX110, w ∈ wsX11_isFixed := fun _ h => List.mem_cons_of_mem _ (List.mem_append_left _ (List.mem_append_left _ (List.mem_append_right _ h)))
theorem i_X11_isFixed_X10 : ∀ w ∈ wsX100, w ∈ wsX11_isFixed := fun _ h => List.mem_cons_of_mem _ (List.mem_append_left _ (List.mem_append_right _ h))
def u_X11_isFixed_2 (Γ : RG) (post : Int32 → MS → Prop) (a1 : Int32) (a2 : Int32) : Nat → MS → Int32 → Prop
  | 0, _, _ => False
  | n + 1, σ, v3 => w_lw_Jx4a65c_size_8abf5 Γ (fun r2 σ1 => ((r2 ≤ v3 → post 0 σ1) ∧ (¬ r2 ≤ v3 → w_lw_Jx4a65c_get_915e3 Γ (fun j5 σ4 => ((j5 < 14 ∧ j5 < Γ.2.2.1) ∧ (((σ4 (33 + j5) 7) = 1 → (((σ4 (33 + j5) 0) = a1 → (((σ4 (33 + j5) 1) = a2 → post 1 σ4) ∧ (¬ (σ4 (33 + j5) 1) = a2 → u_X11_isFixed_2 Γ post a1 a2 n σ4 (v3 + 1)))) ∧ (¬ (σ4 (33 + j5) 0) = a1 → u_X11_isFixed_2 Γ post a1 a2 n σ4 (v3 + 1)))) ∧ (¬ (σ4 (33 + j5) 7) = 1 → u_X11_isFixed_2 Γ post a1 a2 n σ4 (v3 + 1))))) σ1 v3))) σ
set_option maxHeartbeats 4000000 in
set_option maxRecDepth 100000 in
theorem l_X11_isFixed_2 {p : Program} {l : Launch} {e : Env} {s : State} {m : MethodId} {args : Array Value} {below : List Frame} {meth : Method} {c : Code} {D : va_G} {cy : Nat → ClassId} {lay : Nat → Nat} {Γ : RG} {post : Int32 → MS → Prop} (a1 : Int32) (a2 : Int32) (hC : CallFix p m c cX11_isFixed 5 s args wsX11_isFixed RX11) (hr : meth.sig.returnType = some .boolean) (hlocks : meth.locks = false) (hT : rT D cy lay Γ s) : ∀ (n : Nat), ∀ (σ : MS) (v3 : Int32), u_X11_isFixed_2 Γ post a1 a2 n σ v3 → ∀ (H : Heap) (locs : List Loc) (ls : Array Slot), rG D cy lay Γ tn σ (rA cy lay Γ s.heap.size) s.heap H locs → lv_has ls 5 [(0, .ref (lay 0)), (1, .int a1), (2, .int a2), (3, .int v3)] → W p l e rm_X11_isFixed s m args below meth c H locs 0 0 (MQ below (va_Qi post (rO D cy lay Γ) (rA cy lay Γ s.heap.size)) args s 0 0 (rA cy lay Γ s.heap.size)) (F0 m 2 ls []) := by
  intro n
  induction n with
  | zero =>
    intro σ v3 h
    exact h.elim
  | succ n ih =>
    intro σ v3 h H locs ls G hl
    rw [u_X11_isFixed_2] at h
    refine lv_iload_n hC.1 hC.2.1 dX11_isFixed_2 rfl (lv_at hl 3 rfl) ?_
    refine lv_aload_n hC.1 hC.2.1 dX11_isFixed_3 rfl (lv_at hl 0 rfl) ?_
    refine rg_get hC hT G (by decide) r_mo k_X11 i_X11_isFixed_X11 5 (by decide) (wm 1 rfl) rfl dX11_isFixed_4 ?_
    refine rg_i G (rg_runV (As := []) (rest := [.int v3]) hC hT G (c_lw_Jx4a65c_size_8abf5 l D cy lay Γ h _) (cwV 0 hC.2.2.2.2 gX11_isFixed_Jx4a65c_size_8abf5 rfl rfl rfl hdV_Jx4a65c_size_8abf5 ⟨Nat.le_of_ble_eq_true rfl, Nat.le_of_ble_eq_true rfl⟩) (rg_recv hT G (by decide) r_lw k_AL) rfl hl.1 rfl (Nat.le_of_ble_eq_true rfl) dX11_isFixed_7 ⟨Nat.le_of_ble_eq_true rfl, Nat.le_of_ble_eq_true rfl⟩) (fun r2 σ1 H locs h G => ?_)
    (try dsimp only at h)
    refine lv_icmp_ge (tgt := 61) hC.1 hC.2.1 dX11_isFixed_10 (by decide) (fun c3 => ?_) (fun c3 => ?_)
    · replace h := h.1 c3
      refine lv_iconst (v := 0) hC.1 hC.2.1 dX11_isFixed_61 (by decide) ?_
      exact rg_zret hC hr hlocks G rfl h dX11_isFixed_62
    · replace h := h.2 c3
      refine lv_aload_n hC.1 hC.2.1 dX11_isFixed_13 rfl (lv_at hl 0 rfl) ?_
      refine rg_get hC hT G (by decide) r_mo k_X11 i_X11_isFixed_X11 5 (by decide) (wm 1 rfl) rfl dX11_isFixed_14 ?_
      refine lv_iload_n hC.1 hC.2.1 dX11_isFixed_17 rfl (lv_at hl 3 rfl) ?_
      refine rg_r (f := fun i => lay (33 + i)) G (rg_runV (As := [.int v3]) (rest := []) hC hT G (c_lw_Jx4a65c_get_915e3 l D cy lay Γ h _) (cwV 1 hC.2.2.2.2 gX11_isFixed_Jx4a65c_get_915e3 rfl rfl rfl hdV_Jx4a65c_get_915e3 ⟨Nat.le_of_ble_eq_true rfl, Nat.le_of_ble_eq_true rfl⟩) (rg_recv hT G (by decide) r_lw k_AL) rfl hl.1 rfl (Nat.le_of_ble_eq_true rfl) dX11_isFixed_18 ⟨Nat.le_of_ble_eq_true rfl, Nat.le_of_ble_eq_true rfl⟩) (fun j5 σ4 H locs h G => ?_)
      (try dsimp only at h)
      obtain ⟨hj6, h⟩ := h
      refine rg_cast hC hT k_X10 (wm 2 rfl) (rg_recv hT G (rk_wd hj6) (r_wd hj6) k_X10) dX11_isFixed_21 ?_
      refine lv_astore (lv' := [(4, .ref (lay (33 + j5))), (0, .ref (lay 0)), (1, .int a1), (2, .int a2), (3, .int v3)]) hC.1 hC.2.1 dX11_isFixed_24 hl (by decide) rfl (fun ls hl => ?_)
      refine lv_aload hC.1 hC.2.1 dX11_isFixed_26 (lv_at hl 0 rfl) ?_
      refine rg_getN hC hT G (rk_wd hj6) (r_wd hj6) k_X10 i_X11_isFixed_X10 7 (by decide) 17 rfl rfl dX11_isFixed_28 ?_
      refine lv_iconst (v := 1) hC.1 hC.2.1 dX11_isFixed_31 (by decide) ?_
      refine lv_icmp_ne (tgt := 55) hC.1 hC.2.1 dX11_isFixed_32 (by decide) (fun c7 => ?_) (fun c7 => ?_)
      · replace h := h.2 c7
        refine lv_iinc (v := v3 + 1) (lv' := [(3, .int (v3 + 1)), (4, .ref (lay (33 + j5))), (0, .ref (lay 0)), (1, .int a1), (2, .int a2)]) hC.1 hC.2.1 dX11_isFixed_55 hl (k := 4) rfl rfl (by decide) rfl (fun ls hl => ?_)
        refine lv_goto (tgt := 2) hC.1 hC.2.1 dX11_isFixed_58 (by decide) ?_
        exact ih _ _ h _ _ _ G (lv_sub hl [2, 3, 4, 0] rfl)
      · replace h := h.1 c7
        refine lv_aload hC.1 hC.2.1 dX11_isFixed_35 (lv_at hl 0 rfl) ?_
        refine rg_getN hC hT G (rk_wd hj6) (r_wd hj6) k_X10 i_X11_isFixed_X10 0 (by decide) 10 rfl rfl dX11_isFixed_37 ?_
        refine lv_iload_n hC.1 hC.2.1 dX11_isFixed_40 rfl (lv_at hl 2 rfl) ?_
        refine lv_icmp_ne (tgt := 55) hC.1 hC.2.1 dX11_isFixed_41 (by decide) (fun c8 => ?_) (fun c8 => ?_)
        · replace h := h.2 c8
          refine lv_iinc (v := v3 + 1) (lv' := [(3, .int (v3 + 1)), (4, .ref (lay (33 + j5))), (0, .ref (lay 0)), (1, .int a1), (2, .int a2)]) hC.1 hC.2.1 dX11_isFixed_55 hl (k := 4) rfl rfl (by decide) rfl (fun ls hl => ?_)
          refine lv_goto (tgt := 2) hC.1 hC.2.1 dX11_isFixed_58 (by decide) ?_
          exact ih _ _ h _ _ _ G (lv_sub hl [2, 3, 4, 0] rfl)
        · replace h := h.1 c8
          refine lv_aload hC.1 hC.2.1 dX11_isFixed_44 (lv_at hl 0 rfl) ?_
          refine rg_getN hC hT G (rk_wd hj6) (r_wd hj6) k_X10 i_X11_isFixed_X10 1 (by decide) 11 rfl rfl dX11_isFixed_46 ?_
          refine lv_iload_n hC.1 hC.2.1 dX11_isFixed_49 rfl (lv_at hl 3 rfl) ?_
          refine lv_icmp_ne (tgt := 55) hC.1 hC.2.1 dX11_isFixed_50 (by decide) (fun c9 => ?_) (fun c9 => ?_)
          · replace h := h.2 c9
            refine lv_iinc (v := v3 + 1) (lv' := [(3, .int (v3 + 1)), (4, .ref (lay (33 + j5))), (0, .ref (lay 0)), (1, .int a1), (2, .int a2)]) hC.1 hC.2.1 dX11_isFixed_55 hl (k := 4) rfl rfl (by decide) rfl (fun ls hl => ?_)
            refine lv_goto (tgt := 2) hC.1 hC.2.1 dX11_isFixed_58 (by decide) ?_
            exact ih _ _ h _ _ _ G (lv_sub hl [2, 3, 4, 0] rfl)
          · replace h := h.1 c9
            refine lv_iconst (v := 1) hC.1 hC.2.1 dX11_isFixed_53 (by decide) ?_
            exact rg_zret hC hr hlocks G rfl h dX11_isFixed_54
def w_X11_isFixed (Γ : RG) (post : Int32 → MS → Prop) (σ : MS) (a1 : Int32) (a2 : Int32) : Prop := (∃ k, u_X11_isFixed_2 Γ post a1 a2 k σ 0)
set_option maxHeartbeats 4000000 in
set_option maxRecDepth 100000 in
theorem c_X11_isFixed (l : Launch) (D : va_G) (cy : Nat → ClassId) (lay : Nat → Nat) (Γ : RG) {σ : MS} {post : Int32 → MS → Prop} {a1 : Int32} {a2 : Int32} (h : w_X11_isFixed Γ post σ a1 a2) (sz : Nat) : Met l yX11_isFixed wsX11_isFixed rm_X11_isFixed (va_Pc [.ref (lay 0), .int a1, .int a2] (rI D cy lay Γ σ sz)) (va_Qi post (rO D cy lay Γ) (rA cy lay Γ sz)) 0 0 (rA cy lay Γ sz) := by
  refine rg_ofW (cc := cX11_isFixed) (maxL := 5) (ret := some .boolean) (own := RX11) (Qc := fun sz => va_Qi post (rO D cy lay Γ) (rA cy lay Γ sz)) (by decide) rfl (Nat.le_of_ble_eq_true rfl) rfl ?_
  intro p e s m args below meth c ls hC hr hlocks hT G hl
  unfold w_X11_isFixed at h
  have hl : lv_has ls 5 [(0, .ref (lay 0)), (1, .int a1), (2, .int a2)] := hl
  refine lv_iconst (v := 0) hC.1 hC.2.1 dX11_isFixed_0 (by decide) ?_
  refine lv_istore_n (lv' := [(3, .int 0), (0, .ref (lay 0)), (1, .int a1), (2, .int a2)]) hC.1 hC.2.1 dX11_isFixed_1 rfl hl (by decide) rfl (fun ls hl => ?_)
  obtain ⟨n1, h⟩ := h
  exact l_X11_isFixed_2 a1 a2 hC hr hlocks hT n1 _ _ h _ _ _ G (lv_sub hl [1, 2, 3, 0] rfl)
theorem hdV_X11_isFixed : yX11_isFixed.cls = RX11 ∧ yX11_isFixed.cls ≠ "java/lang/invoke/MethodHandle" ∧ yX11_isFixed.cls ≠ "java/lang/invoke/VarHandle" ∧ (parseMethodDescriptor yX11_isFixed.desc).map (fun d => d.parameters.length) = some 2 := by decide +kernel
abbrev rm_X11_place : Room := { frames := 3, cells := 0, slots := 0, locals := 64 }
theorem i_X11_place_X11 : ∀ w ∈ wsX110, w ∈ wsX11_place := fun _ h => List.mem_cons_of_mem _ (List.mem_append_left _ (List.mem_append_left _ (List.mem_append_right _ h)))
theorem i_X11_place_X10 : ∀ w ∈ wsX100, w ∈ wsX11_place := fun _ h => List.mem_cons_of_mem _ (List.mem_append_left _ (List.mem_append_right _ h))
def u_X11_place_26 (Γ : RG) (post : Int32 → MS → Prop) (a1 : Int32) : Nat → MS → Nat → Int32 → Int32 → Prop
  | 0, _, _, _, _ => False
  | n + 1, σ, v2, v3, v4 => ((a1 ≤ v4 → post v3 σ) ∧ (¬ a1 ≤ v4 → w_lw_Jx4a65c_get_915e3 Γ (fun j7 σ6 => ((j7 < 14 ∧ j7 < Γ.2.2.1) ∧ (((σ6 (33 + j7) 7) = 0 → (((σ6 (33 + j7) 0) = (σ6 (33 + v2) 0) → (((σ6 (33 + j7) 1) = (σ6 (33 + v2) 1) → u_X11_place_26 Γ post a1 n σ6 v2 (v3 + 1) (v4 + 1)) ∧ (¬ (σ6 (33 + j7) 1) = (σ6 (33 + v2) 1) → u_X11_place_26 Γ post a1 n σ6 v2 (v3 + 0) (v4 + 1)))) ∧ (¬ (σ6 (33 + j7) 0) = (σ6 (33 + v2) 0) → u_X11_place_26 Γ post a1 n σ6 v2 (v3 + 0) (v4 + 1)))) ∧ (¬ (σ6 (33 + j7) 7) = 0 → u_X11_place_26 Γ post a1 n σ6 v2 (v3 + 0) (v4 + 1))))) σ v4))
set_option maxHeartbeats 4000000 in
set_option maxRecDepth 100000 in
theorem l_X11_place_26 {p : Program} {l : Launch} {e : Env} {s : State} {m : MethodId} {args : Array Value} {below : List Frame} {meth : Method} {c : Code} {D : va_G} {cy : Nat → ClassId} {lay : Nat → Nat} {Γ : RG} {post : Int32 → MS → Prop} (a1 : Int32) (hC : CallFix p m c cX11_place 6 s args wsX11_place RX11) (hr : meth.sig.returnType = some .int) (hlocks : meth.locks = false) (hT : rT D cy lay Γ s) : ∀ (n : Nat), ∀ (σ : MS) (v2 : Nat) (v3 : Int32) (v4 : Int32), u_X11_place_26 Γ post a1 n σ v2 v3 v4 → ∀ (hv2 : v2 < 14 ∧ v2 < Γ.2.2.1), ∀ (H : Heap) (locs : List Loc) (ls : Array Slot), rG D cy lay Γ tn σ (rA cy lay Γ s.heap.size) s.heap H locs → lv_has ls 6 [(0, .ref (lay 0)), (1, .int a1), (2, .ref (lay (33 + v2))), (3, .int v3), (4, .int v4)] → W p l e rm_X11_place s m args below meth c H locs 0 0 (MQ below (va_Qi post (rO D cy lay Γ) (rA cy lay Γ s.heap.size)) args s 0 0 (rA cy lay Γ s.heap.size)) (F0 m 26 ls []) := by
  intro n
  induction n with
  | zero =>
    intro σ v2 v3 v4 h
    exact h.elim
  | succ n ih =>
    intro σ v2 v3 v4 h hv2 H locs ls G hl
    rw [u_X11_place_26] at h
    refine lv_iload hC.1 hC.2.1 dX11_place_26 (lv_at hl 4 rfl) ?_
    refine lv_iload_n hC.1 hC.2.1 dX11_place_28 rfl (lv_at hl 1 rfl) ?_
    refine lv_icmp_ge (tgt := 92) hC.1 hC.2.1 dX11_place_29 (by decide) (fun c5 => ?_) (fun c5 => ?_)
    · replace h := h.1 c5
      refine lv_iload_n hC.1 hC.2.1 dX11_place_92 rfl (lv_at hl 3 rfl) ?_
      exact rg_iret hC hr hlocks G h dX11_place_93
    · replace h := h.2 c5
      refine lv_aload_n hC.1 hC.2.1 dX11_place_32 rfl (lv_at hl 0 rfl) ?_
      refine rg_get hC hT G (by decide) r_mo k_X11 i_X11_place_X11 5 (by decide) (wm 1 rfl) rfl dX11_place_33 ?_
      refine lv_iload hC.1 hC.2.1 dX11_place_36 (lv_at hl 4 rfl) ?_
      refine rg_r (f := fun i => lay (33 + i)) G (rg_runV (As := [.int v4]) (rest := []) hC hT G (c_lw_Jx4a65c_get_915e3 l D cy lay Γ h _) (cwV 1 hC.2.2.2.2 gX11_place_Jx4a65c_get_915e3 rfl rfl rfl hdV_Jx4a65c_get_915e3 ⟨Nat.le_of_ble_eq_true rfl, Nat.le_of_ble_eq_true rfl⟩) (rg_recv hT G (by decide) r_lw k_AL) rfl hl.1 rfl (Nat.le_of_ble_eq_true rfl) dX11_place_38 ⟨Nat.le_of_ble_eq_true rfl, Nat.le_of_ble_eq_true rfl⟩) (fun j7 σ6 H locs h G => ?_)
      (try dsimp only at h)
      obtain ⟨hj8, h⟩ := h
      refine rg_cast hC hT k_X10 (wm 2 rfl) (rg_recv hT G (rk_wd hj8) (r_wd hj8) k_X10) dX11_place_41 ?_
      refine lv_astore (lv' := [(5, .ref (lay (33 + j7))), (0, .ref (lay 0)), (1, .int a1), (2, .ref (lay (33 + v2))), (3, .int v3), (4, .int v4)]) hC.1 hC.2.1 dX11_place_44 hl (by decide) rfl (fun ls hl => ?_)
      refine lv_iload_n hC.1 hC.2.1 dX11_place_46 rfl (lv_at hl 4 rfl) ?_
      refine lv_aload hC.1 hC.2.1 dX11_place_47 (lv_at hl 0 rfl) ?_
      refine rg_getN hC hT G (rk_wd hj8) (r_wd hj8) k_X10 i_X11_place_X10 7 (by decide) 17 rfl rfl dX11_place_49 ?_
      refine lv_if_ne (tgt := 83) hC.1 hC.2.1 dX11_place_52 (by decide) (fun c9 => ?_) (fun c9 => ?_)
      · replace h := h.2 c9
        refine lv_iconst (v := 0) hC.1 hC.2.1 dX11_place_83 (by decide) ?_
        refine lv_iadd hC.1 hC.2.1 dX11_place_84 ?_
        refine lv_istore_n (lv' := [(3, .int (v3 + 0)), (5, .ref (lay (33 + j7))), (0, .ref (lay 0)), (1, .int a1), (2, .ref (lay (33 + v2))), (4, .int v4)]) hC.1 hC.2.1 dX11_place_85 rfl hl (by decide) rfl (fun ls hl => ?_)
        refine lv_iinc (v := v4 + 1) (lv' := [(4, .int (v4 + 1)), (3, .int (v3 + 0)), (5, .ref (lay (33 + j7))), (0, .ref (lay 0)), (1, .int a1), (2, .ref (lay (33 + v2)))]) hC.1 hC.2.1 dX11_place_86 hl (k := 5) rfl rfl (by decide) rfl (fun ls hl => ?_)
        refine lv_goto (tgt := 26) hC.1 hC.2.1 dX11_place_89 (by decide) ?_
        exact ih _ _ _ _ h hv2 _ _ _ G (lv_sub hl [3, 4, 5, 1, 0] rfl)
      · replace h := h.1 c9
        refine lv_aload hC.1 hC.2.1 dX11_place_55 (lv_at hl 0 rfl) ?_
        refine rg_getN hC hT G (rk_wd hj8) (r_wd hj8) k_X10 i_X11_place_X10 0 (by decide) 10 rfl rfl dX11_place_57 ?_
        refine lv_aload_n hC.1 hC.2.1 dX11_place_60 rfl (lv_at hl 3 rfl) ?_
        refine rg_getN hC hT G (rk_wd hv2) (r_wd hv2) k_X10 i_X11_place_X10 0 (by decide) 10 rfl rfl dX11_place_61 ?_
        refine lv_icmp_ne (tgt := 83) hC.1 hC.2.1 dX11_place_64 (by decide) (fun c10 => ?_) (fun c10 => ?_)
        · replace h := h.2 c10
          refine lv_iconst (v := 0) hC.1 hC.2.1 dX11_place_83 (by decide) ?_
          refine lv_iadd hC.1 hC.2.1 dX11_place_84 ?_
          refine lv_istore_n (lv' := [(3, .int (v3 + 0)), (5, .ref (lay (33 + j7))), (0, .ref (lay 0)), (1, .int a1), (2, .ref (lay (33 + v2))), (4, .int v4)]) hC.1 hC.2.1 dX11_place_85 rfl hl (by decide) rfl (fun ls hl => ?_)
          refine lv_iinc (v := v4 + 1) (lv' := [(4, .int (v4 + 1)), (3, .int (v3 + 0)), (5, .ref (lay (33 + j7))), (0, .ref (lay 0)), (1, .int a1), (2, .ref (lay (33 + v2)))]) hC.1 hC.2.1 dX11_place_86 hl (k := 5) rfl rfl (by decide) rfl (fun ls hl => ?_)
          refine lv_goto (tgt := 26) hC.1 hC.2.1 dX11_place_89 (by decide) ?_
          exact ih _ _ _ _ h hv2 _ _ _ G (lv_sub hl [3, 4, 5, 1, 0] rfl)
        · replace h := h.1 c10
          refine lv_aload hC.1 hC.2.1 dX11_place_67 (lv_at hl 0 rfl) ?_
          refine rg_getN hC hT G (rk_wd hj8) (r_wd hj8) k_X10 i_X11_place_X10 1 (by decide) 11 rfl rfl dX11_place_69 ?_
          refine lv_aload_n hC.1 hC.2.1 dX11_place_72 rfl (lv_at hl 3 rfl) ?_
          refine rg_getN hC hT G (rk_wd hv2) (r_wd hv2) k_X10 i_X11_place_X10 1 (by decide) 11 rfl rfl dX11_place_73 ?_
          refine lv_icmp_ne (tgt := 83) hC.1 hC.2.1 dX11_place_76 (by decide) (fun c11 => ?_) (fun c11 => ?_)
          · replace h := h.2 c11
            refine lv_iconst (v := 0) hC.1 hC.2.1 dX11_place_83 (by decide) ?_
            refine lv_iadd hC.1 hC.2.1 dX11_place_84 ?_
            refine lv_istore_n (lv' := [(3, .int (v3 + 0)), (5, .ref (lay (33 + j7))), (0, .ref (lay 0)), (1, .int a1), (2, .ref (lay (33 + v2))), (4, .int v4)]) hC.1 hC.2.1 dX11_place_85 rfl hl (by decide) rfl (fun ls hl => ?_)
            refine lv_iinc (v := v4 + 1) (lv' := [(4, .int (v4 + 1)), (3, .int (v3 + 0)), (5, .ref (lay (33 + j7))), (0, .ref (lay 0)), (1, .int a1), (2, .ref (lay (33 + v2)))]) hC.1 hC.2.1 dX11_place_86 hl (k := 5) rfl rfl (by decide) rfl (fun ls hl => ?_)
            refine lv_goto (tgt := 26) hC.1 hC.2.1 dX11_place_89 (by decide) ?_
            exact ih _ _ _ _ h hv2 _ _ _ G (lv_sub hl [3, 4, 5, 1, 0] rfl)
          · replace h := h.1 c11
            refine lv_iconst (v := 1) hC.1 hC.2.1 dX11_place_79 (by decide) ?_
            refine lv_goto (tgt := 84) hC.1 hC.2.1 dX11_place_80 (by decide) ?_
            refine lv_iadd hC.1 hC.2.1 dX11_place_84 ?_
            refine lv_istore_n (lv' := [(3, .int (v3 + 1)), (5, .ref (lay (33 + j7))), (0, .ref (lay 0)), (1, .int a1), (2, .ref (lay (33 + v2))), (4, .int v4)]) hC.1 hC.2.1 dX11_place_85 rfl hl (by decide) rfl (fun ls hl => ?_)
            refine lv_iinc (v := v4 + 1) (lv' := [(4, .int (v4 + 1)), (3, .int (v3 + 1)), (5, .ref (lay (33 + j7))), (0, .ref (lay 0)), (1, .int a1), (2, .ref (lay (33 + v2)))]) hC.1 hC.2.1 dX11_place_86 hl (k := 5) rfl rfl (by decide) rfl (fun ls hl => ?_)
            refine lv_goto (tgt := 26) hC.1 hC.2.1 dX11_place_89 (by decide) ?_
            exact ih _ _ _ _ h hv2 _ _ _ G (lv_sub hl [3, 4, 5, 1, 0] rfl)
def w_X11_place (Γ : RG) (post : Int32 → MS → Prop) (σ : MS) (a1 : Int32) : Prop := w_lw_Jx4a65c_get_915e3 Γ (fun j2 σ1 => ((j2 < 14 ∧ j2 < Γ.2.2.1) ∧ (((σ1 (33 + j2) 7) = 0 → (∃ k, u_X11_place_26 Γ post a1 k σ1 j2 0 0)) ∧ (¬ (σ1 (33 + j2) 7) = 0 → post (-1) σ1)))) σ a1
set_option maxHeartbeats 4000000 in
set_option maxRecDepth 100000 in
theorem c_X11_place (l : Launch) (D : va_G) (cy : Nat → ClassId) (lay : Nat → Nat) (Γ : RG) {σ : MS} {post : Int32 → MS → Prop} {a1 : Int32} (h : w_X11_place Γ post σ a1) (sz : Nat) : Met l yX11_place wsX11_place rm_X11_place (va_Pc [.ref (lay 0), .int a1] (rI D cy lay Γ σ sz)) (va_Qi post (rO D cy lay Γ) (rA cy lay Γ sz)) 0 0 (rA cy lay Γ sz) := by
  refine rg_ofW (cc := cX11_place) (maxL := 6) (ret := some .int) (own := RX11) (Qc := fun sz => va_Qi post (rO D cy lay Γ) (rA cy lay Γ sz)) (by decide) rfl (Nat.le_of_ble_eq_true rfl) rfl ?_
  intro p e s m args below meth c ls hC hr hlocks hT G hl
  unfold w_X11_place at h
  have hl : lv_has ls 6 [(0, .ref (lay 0)), (1, .int a1)] := hl
  refine lv_aload_n hC.1 hC.2.1 dX11_place_0 rfl (lv_at hl 0 rfl) ?_
  refine rg_get hC hT G (by decide) r_mo k_X11 i_X11_place_X11 5 (by decide) (wm 1 rfl) rfl dX11_place_1 ?_
  refine lv_iload_n hC.1 hC.2.1 dX11_place_4 rfl (lv_at hl 1 rfl) ?_
  refine rg_r (f := fun i => lay (33 + i)) G (rg_runV (As := [.int a1]) (rest := []) hC hT G (c_lw_Jx4a65c_get_915e3 l D cy lay Γ h _) (cwV 1 hC.2.2.2.2 gX11_place_Jx4a65c_get_915e3 rfl rfl rfl hdV_Jx4a65c_get_915e3 ⟨Nat.le_of_ble_eq_true rfl, Nat.le_of_ble_eq_true rfl⟩) (rg_recv hT G (by decide) r_lw k_AL) rfl hl.1 rfl (Nat.le_of_ble_eq_true rfl) dX11_place_5 ⟨Nat.le_of_ble_eq_true rfl, Nat.le_of_ble_eq_true rfl⟩) (fun j2 σ1 H locs h G => ?_)
  (try dsimp only at h)
  obtain ⟨hj3, h⟩ := h
  refine rg_cast hC hT k_X10 (wm 2 rfl) (rg_recv hT G (rk_wd hj3) (r_wd hj3) k_X10) dX11_place_8 ?_
  refine lv_astore_n (lv' := [(2, .ref (lay (33 + j2))), (0, .ref (lay 0)), (1, .int a1)]) hC.1 hC.2.1 dX11_place_11 rfl hl (by decide) rfl (fun ls hl => ?_)
  refine lv_aload_n hC.1 hC.2.1 dX11_place_12 rfl (lv_at hl 0 rfl) ?_
  refine rg_getN hC hT G (rk_wd hj3) (r_wd hj3) k_X10 i_X11_place_X10 7 (by decide) 17 rfl rfl dX11_place_13 ?_
  refine lv_if_eq (tgt := 21) hC.1 hC.2.1 dX11_place_16 (by decide) (fun c4 => ?_) (fun c4 => ?_)
  · replace h := h.1 c4
    refine lv_iconst (v := 0) hC.1 hC.2.1 dX11_place_21 (by decide) ?_
    refine lv_istore_n (lv' := [(3, .int 0), (2, .ref (lay (33 + j2))), (0, .ref (lay 0)), (1, .int a1)]) hC.1 hC.2.1 dX11_place_22 rfl hl (by decide) rfl (fun ls hl => ?_)
    refine lv_iconst (v := 0) hC.1 hC.2.1 dX11_place_23 (by decide) ?_
    refine lv_istore (lv' := [(4, .int 0), (3, .int 0), (2, .ref (lay (33 + j2))), (0, .ref (lay 0)), (1, .int a1)]) hC.1 hC.2.1 dX11_place_24 hl (by decide) rfl (fun ls hl => ?_)
    obtain ⟨n1, h⟩ := h
    exact l_X11_place_26 a1 hC hr hlocks hT n1 _ _ _ _ h hj3 _ _ _ G (lv_sub hl [3, 4, 2, 1, 0] rfl)
  · replace h := h.2 c4
    refine lv_iconst (v := (-1)) hC.1 hC.2.1 dX11_place_19 (by decide) ?_
    exact rg_iret hC hr hlocks G h dX11_place_20
theorem hdV_X11_place : yX11_place.cls = RX11 ∧ yX11_place.cls ≠ "java/lang/invoke/MethodHandle" ∧ yX11_place.cls ≠ "java/lang/invoke/VarHandle" ∧ (parseMethodDescriptor yX11_place.desc).map (fun d => d.parameters.length) = some 1 := by decide +kernel
abbrev rm_X11_isFree : Room := { frames := 3, cells := 0, slots := 0, locals := 64 }
theorem i_X11_isFree_X11 : ∀ w ∈ wsX110, w ∈ wsX11_isFree := fun _ h => List.mem_cons_of_mem _ (List.mem_append_left _ (List.mem_append_left _ (List.mem_append_left _ (List.mem_append_right _ h))))
theorem i_X11_isFree_X9 : ∀ w ∈ wsX90, w ∈ wsX11_isFree := fun _ h => List.mem_cons_of_mem _ (List.mem_append_left _ (List.mem_append_left _ (List.mem_append_right _ h)))
theorem i_X11_isFree_X10 : ∀ w ∈ wsX100, w ∈ wsX11_isFree := fun _ h => List.mem_cons_of_mem _ (List.mem_append_left _ (List.mem_append_right _ h))
def u_X11_isFree_189 (Γ : RG) (post : Int32 → MS → Prop) (a1 : Int32) (a2 : Int32) (K60 : MS → Nat → Int32 → Prop) (σ : MS) (v3 : Nat) (v5 : Int32) (v6 : Nat) (v8 : Nat) (t0 : Nat) : Prop := w_X11_driveOf Γ (fun r28 σ27 => ((r28 = (-1) → post 0 σ27) ∧ (¬ r28 = (-1) → (((((σ27 (33 + v8) 3) + (σ27 (33 + v8) 4)) + r28) ≤ (σ27 (33 + t0) 3) → K60 σ27 v3 (v5 + 1)) ∧ (¬ (((σ27 (33 + v8) 3) + (σ27 (33 + v8) 4)) + r28) ≤ (σ27 (33 + t0) 3) → post 0 σ27))))) σ (σ (33 + v3) 2) (σ (33 + v6) 2)
set_option maxHeartbeats 4000000 in
set_option maxRecDepth 100000 in
theorem l_X11_isFree_189 {p : Program} {l : Launch} {e : Env} {s : State} {m : MethodId} {args : Array Value} {below : List Frame} {meth : Method} {c : Code} {D : va_G} {cy : Nat → ClassId} {lay : Nat → Nat} {Γ : RG} {post : Int32 → MS → Prop} (a1 : Int32) (a2 : Int32) (K60 : MS → Nat → Int32 → Prop) (hC : CallFix p m c cX11_isFree 11 s args wsX11_isFree RX11) (hr : meth.sig.returnType = some .boolean) (hlocks : meth.locks = false) (hT : rT D cy lay Γ s) (hK60 : ∀ (σ : MS) (v3 : Nat) (v5 : Int32), K60 σ v3 v5 → ∀ (hv3 : v3 < 14 ∧ v3 < Γ.2.2.1), ∀ (H : Heap) (locs : List Loc) (ls : Array Slot), rG D cy lay Γ tn σ (rA cy lay Γ s.heap.size) s.heap H locs → lv_has ls 11 [(0, .ref (lay 0)), (1, .int a1), (2, .int a2), (3, .ref (lay (33 + v3))), (5, .int v5)] → W p l e rm_X11_isFree s m args below meth c H locs 0 0 (MQ below (va_Qi post (rO D cy lay Γ) (rA cy lay Γ s.heap.size)) args s 0 0 (rA cy lay Γ s.heap.size)) (F0 m 60 ls [])) : ∀ (σ : MS) (v3 : Nat) (v5 : Int32) (v6 : Nat) (v8 : Nat) (t0 : Nat), u_X11_isFree_189 Γ post a1 a2 K60 σ v3 v5 v6 v8 t0 → ∀ (hv3 : v3 < 14 ∧ v3 < Γ.2.2.1) (hv6 : v6 < 14 ∧ v6 < Γ.2.2.1) (hv8 : v8 < 14 ∧ v8 < Γ.2.2.1) (ht0 : t0 < 14 ∧ t0 < Γ.2.2.1), ∀ (H : Heap) (locs : List Loc) (ls : Array Slot), rG D cy lay Γ tn σ (rA cy lay Γ s.heap.size) s.heap H locs → lv_has ls 11 [(0, .ref (lay 0)), (1, .int a1), (2, .int a2), (3, .ref (lay (33 + v3))), (5, .int v5), (6, .ref (lay (33 + v6))), (8, .ref (lay (33 + v8)))] → W p l e rm_X11_isFree s m args below meth c H locs 0 0 (MQ below (va_Qi post (rO D cy lay Γ) (rA cy lay Γ s.heap.size)) args s 0 0 (rA cy lay Γ s.heap.size)) (F0 m 189 ls [.ref (lay (33 + t0))]) := by
  intro σ v3 v5 v6 v8 t0 h hv3 hv6 hv8 ht0 H locs ls G hl
  unfold u_X11_isFree_189 at h
  refine lv_astore (lv' := [(9, .ref (lay (33 + t0))), (0, .ref (lay 0)), (1, .int a1), (2, .int a2), (3, .ref (lay (33 + v3))), (5, .int v5), (6, .ref (lay (33 + v6))), (8, .ref (lay (33 + v8)))]) hC.1 hC.2.1 dX11_isFree_189 hl (by decide) rfl (fun ls hl => ?_)
  refine lv_aload_n hC.1 hC.2.1 dX11_isFree_191 rfl (lv_at hl 1 rfl) ?_
  refine lv_aload_n hC.1 hC.2.1 dX11_isFree_192 rfl (lv_at hl 4 rfl) ?_
  refine rg_getN hC hT G (rk_wd hv3) (r_wd hv3) k_X10 i_X11_isFree_X10 2 (by decide) 12 rfl rfl dX11_isFree_193 ?_
  refine lv_aload hC.1 hC.2.1 dX11_isFree_196 (lv_at hl 6 rfl) ?_
  refine rg_getN hC hT G (rk_wd hv6) (r_wd hv6) k_X10 i_X11_isFree_X10 2 (by decide) 12 rfl rfl dX11_isFree_198 ?_
  refine rg_i G (rg_runV (As := [.int (σ (33 + v3) 2), .int (σ (33 + v6) 2)]) (rest := []) hC hT G (c_X11_driveOf l D cy lay Γ h _) (cwV 2 hC.2.2.2.2 gX11_isFree_X11_driveOf rfl rfl rfl hdV_X11_driveOf ⟨Nat.le_of_ble_eq_true rfl, Nat.le_of_ble_eq_true rfl⟩) (rg_recv hT G (by decide) r_mo k_X11) rfl hl.1 rfl (Nat.le_of_ble_eq_true rfl) dX11_isFree_201 ⟨Nat.le_of_ble_eq_true rfl, Nat.le_of_ble_eq_true rfl⟩) (fun r28 σ27 H locs h G => ?_)
  (try dsimp only at h)
  refine lv_istore (lv' := [(10, .int r28), (9, .ref (lay (33 + t0))), (0, .ref (lay 0)), (1, .int a1), (2, .int a2), (3, .ref (lay (33 + v3))), (5, .int v5), (6, .ref (lay (33 + v6))), (8, .ref (lay (33 + v8)))]) hC.1 hC.2.1 dX11_isFree_204 hl (by decide) rfl (fun ls hl => ?_)
  refine lv_iload hC.1 hC.2.1 dX11_isFree_206 (lv_at hl 0 rfl) ?_
  refine lv_iconst (v := (-1)) hC.1 hC.2.1 dX11_isFree_208 (by decide) ?_
  refine lv_icmp_eq (tgt := 234) hC.1 hC.2.1 dX11_isFree_209 (by decide) (fun c29 => ?_) (fun c29 => ?_)
  · replace h := h.1 c29
    refine lv_iconst (v := 0) hC.1 hC.2.1 dX11_isFree_234 (by decide) ?_
    exact rg_zret hC hr hlocks G rfl h dX11_isFree_235
  · replace h := h.2 c29
    refine lv_aload hC.1 hC.2.1 dX11_isFree_212 (lv_at hl 8 rfl) ?_
    refine rg_getN hC hT G (rk_wd hv8) (r_wd hv8) k_X10 i_X11_isFree_X10 3 (by decide) 13 rfl rfl dX11_isFree_214 ?_
    refine lv_aload hC.1 hC.2.1 dX11_isFree_217 (lv_at hl 8 rfl) ?_
    refine rg_getN hC hT G (rk_wd hv8) (r_wd hv8) k_X10 i_X11_isFree_X10 4 (by decide) 14 rfl rfl dX11_isFree_219 ?_
    refine lv_iadd hC.1 hC.2.1 dX11_isFree_222 ?_
    refine lv_iload hC.1 hC.2.1 dX11_isFree_223 (lv_at hl 0 rfl) ?_
    refine lv_iadd hC.1 hC.2.1 dX11_isFree_225 ?_
    refine lv_aload hC.1 hC.2.1 dX11_isFree_226 (lv_at hl 1 rfl) ?_
    refine rg_getN hC hT G (rk_wd ht0) (r_wd ht0) k_X10 i_X11_isFree_X10 3 (by decide) 13 rfl rfl dX11_isFree_228 ?_
    refine lv_icmp_le (tgt := 236) hC.1 hC.2.1 dX11_isFree_231 (by decide) (fun c30 => ?_) (fun c30 => ?_)
    · replace h := h.1 c30
      refine lv_iinc (v := v5 + 1) (lv' := [(5, .int (v5 + 1)), (10, .int r28), (9, .ref (lay (33 + t0))), (0, .ref (lay 0)), (1, .int a1), (2, .int a2), (3, .ref (lay (33 + v3))), (6, .ref (lay (33 + v6))), (8, .ref (lay (33 + v8)))]) hC.1 hC.2.1 dX11_isFree_236 hl (k := 6) rfl rfl (by decide) rfl (fun ls hl => ?_)
      refine lv_goto (tgt := 60) hC.1 hC.2.1 dX11_isFree_239 (by decide) ?_
      exact hK60 _ _ _ h hv3 _ _ _ G (lv_sub hl [3, 4, 5, 6, 0] rfl)
    · replace h := h.2 c30
      refine lv_iconst (v := 0) hC.1 hC.2.1 dX11_isFree_234 (by decide) ?_
      exact rg_zret hC hr hlocks G rfl h dX11_isFree_235
def u_X11_isFree_176 (Γ : RG) (post : Int32 → MS → Prop) (a1 : Int32) (a2 : Int32) (K60 : MS → Nat → Int32 → Prop) (σ : MS) (v3 : Nat) (v5 : Int32) (v6 : Nat) (v7 : Int32) (t0 : Nat) : Prop := ((v7 = 0 → u_X11_isFree_189 Γ post a1 a2 K60 σ v3 v5 v6 t0 v6) ∧ (¬ v7 = 0 → u_X11_isFree_189 Γ post a1 a2 K60 σ v3 v5 v6 t0 v3))
set_option maxHeartbeats 4000000 in
set_option maxRecDepth 100000 in
theorem l_X11_isFree_176 {p : Program} {l : Launch} {e : Env} {s : State} {m : MethodId} {args : Array Value} {below : List Frame} {meth : Method} {c : Code} {D : va_G} {cy : Nat → ClassId} {lay : Nat → Nat} {Γ : RG} {post : Int32 → MS → Prop} (a1 : Int32) (a2 : Int32) (K60 : MS → Nat → Int32 → Prop) (hC : CallFix p m c cX11_isFree 11 s args wsX11_isFree RX11) (hr : meth.sig.returnType = some .boolean) (hlocks : meth.locks = false) (hT : rT D cy lay Γ s) (hK60 : ∀ (σ : MS) (v3 : Nat) (v5 : Int32), K60 σ v3 v5 → ∀ (hv3 : v3 < 14 ∧ v3 < Γ.2.2.1), ∀ (H : Heap) (locs : List Loc) (ls : Array Slot), rG D cy lay Γ tn σ (rA cy lay Γ s.heap.size) s.heap H locs → lv_has ls 11 [(0, .ref (lay 0)), (1, .int a1), (2, .int a2), (3, .ref (lay (33 + v3))), (5, .int v5)] → W p l e rm_X11_isFree s m args below meth c H locs 0 0 (MQ below (va_Qi post (rO D cy lay Γ) (rA cy lay Γ s.heap.size)) args s 0 0 (rA cy lay Γ s.heap.size)) (F0 m 60 ls [])) : ∀ (σ : MS) (v3 : Nat) (v5 : Int32) (v6 : Nat) (v7 : Int32) (t0 : Nat), u_X11_isFree_176 Γ post a1 a2 K60 σ v3 v5 v6 v7 t0 → ∀ (hv3 : v3 < 14 ∧ v3 < Γ.2.2.1) (hv6 : v6 < 14 ∧ v6 < Γ.2.2.1) (ht0 : t0 < 14 ∧ t0 < Γ.2.2.1), ∀ (H : Heap) (locs : List Loc) (ls : Array Slot), rG D cy lay Γ tn σ (rA cy lay Γ s.heap.size) s.heap H locs → lv_has ls 11 [(0, .ref (lay 0)), (1, .int a1), (2, .int a2), (3, .ref (lay (33 + v3))), (5, .int v5), (6, .ref (lay (33 + v6))), (7, .int v7)] → W p l e rm_X11_isFree s m args below meth c H locs 0 0 (MQ below (va_Qi post (rO D cy lay Γ) (rA cy lay Γ s.heap.size)) args s 0 0 (rA cy lay Γ s.heap.size)) (F0 m 176 ls [.ref (lay (33 + t0))]) := by
  intro σ v3 v5 v6 v7 t0 h hv3 hv6 ht0 H locs ls G hl
  unfold u_X11_isFree_176 at h
  refine lv_astore (lv' := [(8, .ref (lay (33 + t0))), (0, .ref (lay 0)), (1, .int a1), (2, .int a2), (3, .ref (lay (33 + v3))), (5, .int v5), (6, .ref (lay (33 + v6))), (7, .int v7)]) hC.1 hC.2.1 dX11_isFree_176 hl (by decide) rfl (fun ls hl => ?_)
  refine lv_iload hC.1 hC.2.1 dX11_isFree_178 (lv_at hl 7 rfl) ?_
  refine lv_if_eq (tgt := 187) hC.1 hC.2.1 dX11_isFree_180 (by decide) (fun c26 => ?_) (fun c26 => ?_)
  · replace h := h.1 c26
    refine lv_aload hC.1 hC.2.1 dX11_isFree_187 (lv_at hl 6 rfl) ?_
    exact l_X11_isFree_189 a1 a2 K60 hC hr hlocks hT hK60 _ _ _ _ _ _ h hv3 hv6 ht0 hv6 _ _ _ G (lv_sub hl [1, 2, 3, 4, 5, 6, 0] rfl)
  · replace h := h.2 c26
    refine lv_aload_n hC.1 hC.2.1 dX11_isFree_183 rfl (lv_at hl 4 rfl) ?_
    refine lv_goto (tgt := 189) hC.1 hC.2.1 dX11_isFree_184 (by decide) ?_
    exact l_X11_isFree_189 a1 a2 K60 hC hr hlocks hT hK60 _ _ _ _ _ _ h hv3 hv6 ht0 hv3 _ _ _ G (lv_sub hl [1, 2, 3, 4, 5, 6, 0] rfl)
def u_X11_isFree_163 (Γ : RG) (post : Int32 → MS → Prop) (a1 : Int32) (a2 : Int32) (K60 : MS → Nat → Int32 → Prop) (σ : MS) (v3 : Nat) (v5 : Int32) (v6 : Nat) (t0 : Int32) : Prop := ((t0 = 0 → u_X11_isFree_176 Γ post a1 a2 K60 σ v3 v5 v6 t0 v3) ∧ (¬ t0 = 0 → u_X11_isFree_176 Γ post a1 a2 K60 σ v3 v5 v6 t0 v6))
set_option maxHeartbeats 4000000 in
set_option maxRecDepth 100000 in
theorem l_X11_isFree_163 {p : Program} {l : Launch} {e : Env} {s : State} {m : MethodId} {args : Array Value} {below : List Frame} {meth : Method} {c : Code} {D : va_G} {cy : Nat → ClassId} {lay : Nat → Nat} {Γ : RG} {post : Int32 → MS → Prop} (a1 : Int32) (a2 : Int32) (K60 : MS → Nat → Int32 → Prop) (hC : CallFix p m c cX11_isFree 11 s args wsX11_isFree RX11) (hr : meth.sig.returnType = some .boolean) (hlocks : meth.locks = false) (hT : rT D cy lay Γ s) (hK60 : ∀ (σ : MS) (v3 : Nat) (v5 : Int32), K60 σ v3 v5 → ∀ (hv3 : v3 < 14 ∧ v3 < Γ.2.2.1), ∀ (H : Heap) (locs : List Loc) (ls : Array Slot), rG D cy lay Γ tn σ (rA cy lay Γ s.heap.size) s.heap H locs → lv_has ls 11 [(0, .ref (lay 0)), (1, .int a1), (2, .int a2), (3, .ref (lay (33 + v3))), (5, .int v5)] → W p l e rm_X11_isFree s m args below meth c H locs 0 0 (MQ below (va_Qi post (rO D cy lay Γ) (rA cy lay Γ s.heap.size)) args s 0 0 (rA cy lay Γ s.heap.size)) (F0 m 60 ls [])) : ∀ (σ : MS) (v3 : Nat) (v5 : Int32) (v6 : Nat) (t0 : Int32), u_X11_isFree_163 Γ post a1 a2 K60 σ v3 v5 v6 t0 → ∀ (hv3 : v3 < 14 ∧ v3 < Γ.2.2.1) (hv6 : v6 < 14 ∧ v6 < Γ.2.2.1), ∀ (H : Heap) (locs : List Loc) (ls : Array Slot), rG D cy lay Γ tn σ (rA cy lay Γ s.heap.size) s.heap H locs → lv_has ls 11 [(0, .ref (lay 0)), (1, .int a1), (2, .int a2), (3, .ref (lay (33 + v3))), (5, .int v5), (6, .ref (lay (33 + v6)))] → W p l e rm_X11_isFree s m args below meth c H locs 0 0 (MQ below (va_Qi post (rO D cy lay Γ) (rA cy lay Γ s.heap.size)) args s 0 0 (rA cy lay Γ s.heap.size)) (F0 m 163 ls [.int t0]) := by
  intro σ v3 v5 v6 t0 h hv3 hv6 H locs ls G hl
  unfold u_X11_isFree_163 at h
  refine lv_istore (lv' := [(7, .int t0), (0, .ref (lay 0)), (1, .int a1), (2, .int a2), (3, .ref (lay (33 + v3))), (5, .int v5), (6, .ref (lay (33 + v6)))]) hC.1 hC.2.1 dX11_isFree_163 hl (by decide) rfl (fun ls hl => ?_)
  refine lv_iload hC.1 hC.2.1 dX11_isFree_165 (lv_at hl 0 rfl) ?_
  refine lv_if_eq (tgt := 175) hC.1 hC.2.1 dX11_isFree_167 (by decide) (fun c25 => ?_) (fun c25 => ?_)
  · replace h := h.1 c25
    refine lv_aload_n hC.1 hC.2.1 dX11_isFree_175 rfl (lv_at hl 4 rfl) ?_
    exact l_X11_isFree_176 a1 a2 K60 hC hr hlocks hT hK60 _ _ _ _ _ _ h hv3 hv6 hv3 _ _ _ G (lv_sub hl [1, 2, 3, 4, 5, 6, 0] rfl)
  · replace h := h.2 c25
    refine lv_aload hC.1 hC.2.1 dX11_isFree_170 (lv_at hl 6 rfl) ?_
    refine lv_goto (tgt := 176) hC.1 hC.2.1 dX11_isFree_172 (by decide) ?_
    exact l_X11_isFree_176 a1 a2 K60 hC hr hlocks hT hK60 _ _ _ _ _ _ h hv3 hv6 hv6 _ _ _ G (lv_sub hl [1, 2, 3, 4, 5, 6, 0] rfl)
def u_X11_isFree_158 (Γ : RG) (post : Int32 → MS → Prop) (a1 : Int32) (a2 : Int32) (K60 : MS → Nat → Int32 → Prop) (σ : MS) (v3 : Nat) (v5 : Int32) (v6 : Nat) : Prop := u_X11_isFree_163 Γ post a1 a2 K60 σ v3 v5 v6 1
set_option maxHeartbeats 4000000 in
set_option maxRecDepth 100000 in
theorem l_X11_isFree_158 {p : Program} {l : Launch} {e : Env} {s : State} {m : MethodId} {args : Array Value} {below : List Frame} {meth : Method} {c : Code} {D : va_G} {cy : Nat → ClassId} {lay : Nat → Nat} {Γ : RG} {post : Int32 → MS → Prop} (a1 : Int32) (a2 : Int32) (K60 : MS → Nat → Int32 → Prop) (hC : CallFix p m c cX11_isFree 11 s args wsX11_isFree RX11) (hr : meth.sig.returnType = some .boolean) (hlocks : meth.locks = false) (hT : rT D cy lay Γ s) (hK60 : ∀ (σ : MS) (v3 : Nat) (v5 : Int32), K60 σ v3 v5 → ∀ (hv3 : v3 < 14 ∧ v3 < Γ.2.2.1), ∀ (H : Heap) (locs : List Loc) (ls : Array Slot), rG D cy lay Γ tn σ (rA cy lay Γ s.heap.size) s.heap H locs → lv_has ls 11 [(0, .ref (lay 0)), (1, .int a1), (2, .int a2), (3, .ref (lay (33 + v3))), (5, .int v5)] → W p l e rm_X11_isFree s m args below meth c H locs 0 0 (MQ below (va_Qi post (rO D cy lay Γ) (rA cy lay Γ s.heap.size)) args s 0 0 (rA cy lay Γ s.heap.size)) (F0 m 60 ls [])) : ∀ (σ : MS) (v3 : Nat) (v5 : Int32) (v6 : Nat), u_X11_isFree_158 Γ post a1 a2 K60 σ v3 v5 v6 → ∀ (hv3 : v3 < 14 ∧ v3 < Γ.2.2.1) (hv6 : v6 < 14 ∧ v6 < Γ.2.2.1), ∀ (H : Heap) (locs : List Loc) (ls : Array Slot), rG D cy lay Γ tn σ (rA cy lay Γ s.heap.size) s.heap H locs → lv_has ls 11 [(0, .ref (lay 0)), (1, .int a1), (2, .int a2), (3, .ref (lay (33 + v3))), (5, .int v5), (6, .ref (lay (33 + v6)))] → W p l e rm_X11_isFree s m args below meth c H locs 0 0 (MQ below (va_Qi post (rO D cy lay Γ) (rA cy lay Γ s.heap.size)) args s 0 0 (rA cy lay Γ s.heap.size)) (F0 m 158 ls []) := by
  intro σ v3 v5 v6 h hv3 hv6 H locs ls G hl
  unfold u_X11_isFree_158 at h
  refine lv_iconst (v := 1) hC.1 hC.2.1 dX11_isFree_158 (by decide) ?_
  refine lv_goto (tgt := 163) hC.1 hC.2.1 dX11_isFree_159 (by decide) ?_
  exact l_X11_isFree_163 a1 a2 K60 hC hr hlocks hT hK60 _ _ _ _ _ h hv3 hv6 _ _ _ G (lv_sub hl [0, 1, 2, 3, 4, 5] rfl)
def u_X11_isFree_162 (Γ : RG) (post : Int32 → MS → Prop) (a1 : Int32) (a2 : Int32) (K60 : MS → Nat → Int32 → Prop) (σ : MS) (v3 : Nat) (v5 : Int32) (v6 : Nat) : Prop := u_X11_isFree_163 Γ post a1 a2 K60 σ v3 v5 v6 0
set_option maxHeartbeats 4000000 in
set_option maxRecDepth 100000 in
theorem l_X11_isFree_162 {p : Program} {l : Launch} {e : Env} {s : State} {m : MethodId} {args : Array Value} {below : List Frame} {meth : Method} {c : Code} {D : va_G} {cy : Nat → ClassId} {lay : Nat → Nat} {Γ : RG} {post : Int32 → MS → Prop} (a1 : Int32) (a2 : Int32) (K60 : MS → Nat → Int32 → Prop) (hC : CallFix p m c cX11_isFree 11 s args wsX11_isFree RX11) (hr : meth.sig.returnType = some .boolean) (hlocks : meth.locks = false) (hT : rT D cy lay Γ s) (hK60 : ∀ (σ : MS) (v3 : Nat) (v5 : Int32), K60 σ v3 v5 → ∀ (hv3 : v3 < 14 ∧ v3 < Γ.2.2.1), ∀ (H : Heap) (locs : List Loc) (ls : Array Slot), rG D cy lay Γ tn σ (rA cy lay Γ s.heap.size) s.heap H locs → lv_has ls 11 [(0, .ref (lay 0)), (1, .int a1), (2, .int a2), (3, .ref (lay (33 + v3))), (5, .int v5)] → W p l e rm_X11_isFree s m args below meth c H locs 0 0 (MQ below (va_Qi post (rO D cy lay Γ) (rA cy lay Γ s.heap.size)) args s 0 0 (rA cy lay Γ s.heap.size)) (F0 m 60 ls [])) : ∀ (σ : MS) (v3 : Nat) (v5 : Int32) (v6 : Nat), u_X11_isFree_162 Γ post a1 a2 K60 σ v3 v5 v6 → ∀ (hv3 : v3 < 14 ∧ v3 < Γ.2.2.1) (hv6 : v6 < 14 ∧ v6 < Γ.2.2.1), ∀ (H : Heap) (locs : List Loc) (ls : Array Slot), rG D cy lay Γ tn σ (rA cy lay Γ s.heap.size) s.heap H locs → lv_has ls 11 [(0, .ref (lay 0)), (1, .int a1), (2, .int a2), (3, .ref (lay (33 + v3))), (5, .int v5), (6, .ref (lay (33 + v6)))] → W p l e rm_X11_isFree s m args below meth c H locs 0 0 (MQ below (va_Qi post (rO D cy lay Γ) (rA cy lay Γ s.heap.size)) args s 0 0 (rA cy lay Γ s.heap.size)) (F0 m 162 ls []) := by
  intro σ v3 v5 v6 h hv3 hv6 H locs ls G hl
  unfold u_X11_isFree_162 at h
  refine lv_iconst (v := 0) hC.1 hC.2.1 dX11_isFree_162 (by decide) ?_
  exact l_X11_isFree_163 a1 a2 K60 hC hr hlocks hT hK60 _ _ _ _ _ h hv3 hv6 _ _ _ G (lv_sub hl [0, 1, 2, 3, 4, 5] rfl)
def u_X11_isFree_60 (Γ : RG) (post : Int32 → MS → Prop) (a1 : Int32) (a2 : Int32) : Nat → MS → Nat → Int32 → Prop
  | 0, _, _, _ => False
  | n + 1, σ, v3, v5 => w_lw_Jx4a65c_size_8abf5 Γ (fun r13 σ12 => ((r13 ≤ v5 → post 1 σ12) ∧ (¬ r13 ≤ v5 → w_lw_Jx4a65c_get_915e3 Γ (fun j16 σ15 => ((j16 < 14 ∧ j16 < Γ.2.2.1) ∧ ((v5 = a2 → u_X11_isFree_60 Γ post a1 a2 n σ15 v3 (v5 + 1)) ∧ (¬ v5 = a2 → (((σ15 (33 + j16) 7) = 1 → (((σ15 (33 + j16) 1) = (σ15 (33 + v3) 1) → w_X11_isIn Γ (fun r22 σ21 => ((r22 = 0 → u_X11_isFree_60 Γ post a1 a2 n σ21 v3 (v5 + 1)) ∧ (¬ r22 = 0 → (((σ21 (33 + j16) 3) < (σ21 (33 + v3) 3) → u_X11_isFree_158 Γ post a1 a2 (fun σ w0 w1 => u_X11_isFree_60 Γ post a1 a2 n σ w0 w1) σ21 v3 v5 j16) ∧ (¬ (σ21 (33 + j16) 3) < (σ21 (33 + v3) 3) → (((σ21 (33 + j16) 3) = (σ21 (33 + v3) 3) → ((a2 ≤ v5 → u_X11_isFree_162 Γ post a1 a2 (fun σ w0 w1 => u_X11_isFree_60 Γ post a1 a2 n σ w0 w1) σ21 v3 v5 j16) ∧ (¬ a2 ≤ v5 → u_X11_isFree_158 Γ post a1 a2 (fun σ w0 w1 => u_X11_isFree_60 Γ post a1 a2 n σ w0 w1) σ21 v3 v5 j16))) ∧ (¬ (σ21 (33 + j16) 3) = (σ21 (33 + v3) 3) → u_X11_isFree_162 Γ post a1 a2 (fun σ w0 w1 => u_X11_isFree_60 Γ post a1 a2 n σ w0 w1) σ21 v3 v5 j16))))))) σ15 (σ15 (33 + j16) 8) a1) ∧ (¬ (σ15 (33 + j16) 1) = (σ15 (33 + v3) 1) → u_X11_isFree_60 Γ post a1 a2 n σ15 v3 (v5 + 1)))) ∧ (¬ (σ15 (33 + j16) 7) = 1 → u_X11_isFree_60 Γ post a1 a2 n σ15 v3 (v5 + 1))))))) σ12 v5))) σ
set_option maxHeartbeats 4000000 in
set_option maxRecDepth 100000 in
theorem l_X11_isFree_60 {p : Program} {l : Launch} {e : Env} {s : State} {m : MethodId} {args : Array Value} {below : List Frame} {meth : Method} {c : Code} {D : va_G} {cy : Nat → ClassId} {lay : Nat → Nat} {Γ : RG} {post : Int32 → MS → Prop} (a1 : Int32) (a2 : Int32) (hC : CallFix p m c cX11_isFree 11 s args wsX11_isFree RX11) (hr : meth.sig.returnType = some .boolean) (hlocks : meth.locks = false) (hT : rT D cy lay Γ s) : ∀ (n : Nat), ∀ (σ : MS) (v3 : Nat) (v5 : Int32), u_X11_isFree_60 Γ post a1 a2 n σ v3 v5 → ∀ (hv3 : v3 < 14 ∧ v3 < Γ.2.2.1), ∀ (H : Heap) (locs : List Loc) (ls : Array Slot), rG D cy lay Γ tn σ (rA cy lay Γ s.heap.size) s.heap H locs → lv_has ls 11 [(0, .ref (lay 0)), (1, .int a1), (2, .int a2), (3, .ref (lay (33 + v3))), (5, .int v5)] → W p l e rm_X11_isFree s m args below meth c H locs 0 0 (MQ below (va_Qi post (rO D cy lay Γ) (rA cy lay Γ s.heap.size)) args s 0 0 (rA cy lay Γ s.heap.size)) (F0 m 60 ls []) := by
  intro n
  induction n with
  | zero =>
    intro σ v3 v5 h
    exact h.elim
  | succ n ih =>
    intro σ v3 v5 h hv3 H locs ls G hl
    rw [u_X11_isFree_60] at h
    refine lv_iload hC.1 hC.2.1 dX11_isFree_60 (lv_at hl 4 rfl) ?_
    refine lv_aload_n hC.1 hC.2.1 dX11_isFree_62 rfl (lv_at hl 0 rfl) ?_
    refine rg_get hC hT G (by decide) r_mo k_X11 i_X11_isFree_X11 5 (by decide) (wm 1 rfl) rfl dX11_isFree_63 ?_
    refine rg_i G (rg_runV (As := []) (rest := [.int v5]) hC hT G (c_lw_Jx4a65c_size_8abf5 l D cy lay Γ h _) (cwV 0 hC.2.2.2.2 gX11_isFree_Jx4a65c_size_8abf5 rfl rfl rfl hdV_Jx4a65c_size_8abf5 ⟨Nat.le_of_ble_eq_true rfl, Nat.le_of_ble_eq_true rfl⟩) (rg_recv hT G (by decide) r_lw k_AL) rfl hl.1 rfl (Nat.le_of_ble_eq_true rfl) dX11_isFree_66 ⟨Nat.le_of_ble_eq_true rfl, Nat.le_of_ble_eq_true rfl⟩) (fun r13 σ12 H locs h G => ?_)
    (try dsimp only at h)
    refine lv_icmp_ge (tgt := 242) hC.1 hC.2.1 dX11_isFree_69 (by decide) (fun c14 => ?_) (fun c14 => ?_)
    · replace h := h.1 c14
      refine lv_iconst (v := 1) hC.1 hC.2.1 dX11_isFree_242 (by decide) ?_
      exact rg_zret hC hr hlocks G rfl h dX11_isFree_243
    · replace h := h.2 c14
      refine lv_aload_n hC.1 hC.2.1 dX11_isFree_72 rfl (lv_at hl 0 rfl) ?_
      refine rg_get hC hT G (by decide) r_mo k_X11 i_X11_isFree_X11 5 (by decide) (wm 1 rfl) rfl dX11_isFree_73 ?_
      refine lv_iload hC.1 hC.2.1 dX11_isFree_76 (lv_at hl 4 rfl) ?_
      refine rg_r (f := fun i => lay (33 + i)) G (rg_runV (As := [.int v5]) (rest := []) hC hT G (c_lw_Jx4a65c_get_915e3 l D cy lay Γ h _) (cwV 1 hC.2.2.2.2 gX11_isFree_Jx4a65c_get_915e3 rfl rfl rfl hdV_Jx4a65c_get_915e3 ⟨Nat.le_of_ble_eq_true rfl, Nat.le_of_ble_eq_true rfl⟩) (rg_recv hT G (by decide) r_lw k_AL) rfl hl.1 rfl (Nat.le_of_ble_eq_true rfl) dX11_isFree_78 ⟨Nat.le_of_ble_eq_true rfl, Nat.le_of_ble_eq_true rfl⟩) (fun j16 σ15 H locs h G => ?_)
      (try dsimp only at h)
      obtain ⟨hj17, h⟩ := h
      refine rg_cast hC hT k_X10 (wm 2 rfl) (rg_recv hT G (rk_wd hj17) (r_wd hj17) k_X10) dX11_isFree_81 ?_
      refine lv_astore (lv' := [(6, .ref (lay (33 + j16))), (0, .ref (lay 0)), (1, .int a1), (2, .int a2), (3, .ref (lay (33 + v3))), (5, .int v5)]) hC.1 hC.2.1 dX11_isFree_84 hl (by decide) rfl (fun ls hl => ?_)
      refine lv_iload hC.1 hC.2.1 dX11_isFree_86 (lv_at hl 5 rfl) ?_
      refine lv_iload_n hC.1 hC.2.1 dX11_isFree_88 rfl (lv_at hl 3 rfl) ?_
      refine lv_icmp_eq (tgt := 236) hC.1 hC.2.1 dX11_isFree_89 (by decide) (fun c18 => ?_) (fun c18 => ?_)
      · replace h := h.1 c18
        refine lv_iinc (v := v5 + 1) (lv' := [(5, .int (v5 + 1)), (6, .ref (lay (33 + j16))), (0, .ref (lay 0)), (1, .int a1), (2, .int a2), (3, .ref (lay (33 + v3)))]) hC.1 hC.2.1 dX11_isFree_236 hl (k := 5) rfl rfl (by decide) rfl (fun ls hl => ?_)
        refine lv_goto (tgt := 60) hC.1 hC.2.1 dX11_isFree_239 (by decide) ?_
        exact ih _ _ _ h hv3 _ _ _ G (lv_sub hl [2, 3, 4, 5, 0] rfl)
      · replace h := h.2 c18
        refine lv_aload hC.1 hC.2.1 dX11_isFree_92 (lv_at hl 0 rfl) ?_
        refine rg_getN hC hT G (rk_wd hj17) (r_wd hj17) k_X10 i_X11_isFree_X10 7 (by decide) 17 rfl rfl dX11_isFree_94 ?_
        refine lv_iconst (v := 1) hC.1 hC.2.1 dX11_isFree_97 (by decide) ?_
        refine lv_icmp_ne (tgt := 236) hC.1 hC.2.1 dX11_isFree_98 (by decide) (fun c19 => ?_) (fun c19 => ?_)
        · replace h := h.2 c19
          refine lv_iinc (v := v5 + 1) (lv' := [(5, .int (v5 + 1)), (6, .ref (lay (33 + j16))), (0, .ref (lay 0)), (1, .int a1), (2, .int a2), (3, .ref (lay (33 + v3)))]) hC.1 hC.2.1 dX11_isFree_236 hl (k := 5) rfl rfl (by decide) rfl (fun ls hl => ?_)
          refine lv_goto (tgt := 60) hC.1 hC.2.1 dX11_isFree_239 (by decide) ?_
          exact ih _ _ _ h hv3 _ _ _ G (lv_sub hl [2, 3, 4, 5, 0] rfl)
        · replace h := h.1 c19
          refine lv_aload hC.1 hC.2.1 dX11_isFree_101 (lv_at hl 0 rfl) ?_
          refine rg_getN hC hT G (rk_wd hj17) (r_wd hj17) k_X10 i_X11_isFree_X10 1 (by decide) 11 rfl rfl dX11_isFree_103 ?_
          refine lv_aload_n hC.1 hC.2.1 dX11_isFree_106 rfl (lv_at hl 4 rfl) ?_
          refine rg_getN hC hT G (rk_wd hv3) (r_wd hv3) k_X10 i_X11_isFree_X10 1 (by decide) 11 rfl rfl dX11_isFree_107 ?_
          refine lv_icmp_ne (tgt := 236) hC.1 hC.2.1 dX11_isFree_110 (by decide) (fun c20 => ?_) (fun c20 => ?_)
          · replace h := h.2 c20
            refine lv_iinc (v := v5 + 1) (lv' := [(5, .int (v5 + 1)), (6, .ref (lay (33 + j16))), (0, .ref (lay 0)), (1, .int a1), (2, .int a2), (3, .ref (lay (33 + v3)))]) hC.1 hC.2.1 dX11_isFree_236 hl (k := 5) rfl rfl (by decide) rfl (fun ls hl => ?_)
            refine lv_goto (tgt := 60) hC.1 hC.2.1 dX11_isFree_239 (by decide) ?_
            exact ih _ _ _ h hv3 _ _ _ G (lv_sub hl [2, 3, 4, 5, 0] rfl)
          · replace h := h.1 c20
            refine lv_aload hC.1 hC.2.1 dX11_isFree_113 (lv_at hl 0 rfl) ?_
            refine rg_getN hC hT G (rk_wd hj17) (r_wd hj17) k_X10 i_X11_isFree_X10 8 (by decide) 18 rfl rfl dX11_isFree_115 ?_
            refine lv_iload_n hC.1 hC.2.1 dX11_isFree_118 rfl (lv_at hl 2 rfl) ?_
            refine rg_i G (rg_runS (As := [.int (σ15 (33 + j16) 8), .int a1]) (rest := []) hC hT G (c_X11_isIn l D cy lay Γ h _) (va_cwS 2 hC.2.2.2.2 gX11_isFree_X11_isIn rfl rfl rfl hdS_X11_isIn ⟨Nat.le_of_ble_eq_true rfl, Nat.le_of_ble_eq_true rfl⟩) rfl hl.1 rfl (Nat.le_of_ble_eq_true rfl) dX11_isFree_119 ⟨Nat.le_of_ble_eq_true rfl, Nat.le_of_ble_eq_true rfl⟩) (fun r22 σ21 H locs h G => ?_)
            (try dsimp only at h)
            refine lv_if_ne (tgt := 128) hC.1 hC.2.1 dX11_isFree_122 (by decide) (fun c23 => ?_) (fun c23 => ?_)
            · replace h := h.2 c23
              refine lv_aload hC.1 hC.2.1 dX11_isFree_128 (lv_at hl 0 rfl) ?_
              refine rg_getN hC hT G (rk_wd hj17) (r_wd hj17) k_X10 i_X11_isFree_X10 3 (by decide) 13 rfl rfl dX11_isFree_130 ?_
              refine lv_aload_n hC.1 hC.2.1 dX11_isFree_133 rfl (lv_at hl 4 rfl) ?_
              refine rg_getN hC hT G (rk_wd hv3) (r_wd hv3) k_X10 i_X11_isFree_X10 3 (by decide) 13 rfl rfl dX11_isFree_134 ?_
              refine lv_icmp_lt (tgt := 158) hC.1 hC.2.1 dX11_isFree_137 (by decide) (fun c24 => ?_) (fun c24 => ?_)
              · replace h := h.1 c24
                exact l_X11_isFree_158 a1 a2 (fun σ w0 w1 => u_X11_isFree_60 Γ post a1 a2 n σ w0 w1) hC hr hlocks hT ih _ _ _ _ h hv3 hj17 _ _ _ G (lv_sub hl [1, 2, 3, 4, 5, 0] rfl)
              · replace h := h.2 c24
                refine lv_aload hC.1 hC.2.1 dX11_isFree_140 (lv_at hl 0 rfl) ?_
                refine rg_getN hC hT G (rk_wd hj17) (r_wd hj17) k_X10 i_X11_isFree_X10 3 (by decide) 13 rfl rfl dX11_isFree_142 ?_
                refine lv_aload_n hC.1 hC.2.1 dX11_isFree_145 rfl (lv_at hl 4 rfl) ?_
                refine rg_getN hC hT G (rk_wd hv3) (r_wd hv3) k_X10 i_X11_isFree_X10 3 (by decide) 13 rfl rfl dX11_isFree_146 ?_
                refine lv_icmp_ne (tgt := 162) hC.1 hC.2.1 dX11_isFree_149 (by decide) (fun c31 => ?_) (fun c31 => ?_)
                · replace h := h.2 c31
                  exact l_X11_isFree_162 a1 a2 (fun σ w0 w1 => u_X11_isFree_60 Γ post a1 a2 n σ w0 w1) hC hr hlocks hT ih _ _ _ _ h hv3 hj17 _ _ _ G (lv_sub hl [1, 2, 3, 4, 5, 0] rfl)
                · replace h := h.1 c31
                  refine lv_iload hC.1 hC.2.1 dX11_isFree_152 (lv_at hl 5 rfl) ?_
                  refine lv_iload_n hC.1 hC.2.1 dX11_isFree_154 rfl (lv_at hl 3 rfl) ?_
                  refine lv_icmp_ge (tgt := 162) hC.1 hC.2.1 dX11_isFree_155 (by decide) (fun c32 => ?_) (fun c32 => ?_)
                  · replace h := h.1 c32
                    exact l_X11_isFree_162 a1 a2 (fun σ w0 w1 => u_X11_isFree_60 Γ post a1 a2 n σ w0 w1) hC hr hlocks hT ih _ _ _ _ h hv3 hj17 _ _ _ G (lv_sub hl [1, 2, 3, 4, 5, 0] rfl)
                  · replace h := h.2 c32
                    exact l_X11_isFree_158 a1 a2 (fun σ w0 w1 => u_X11_isFree_60 Γ post a1 a2 n σ w0 w1) hC hr hlocks hT ih _ _ _ _ h hv3 hj17 _ _ _ G (lv_sub hl [1, 2, 3, 4, 5, 0] rfl)
            · replace h := h.1 c23
              refine lv_goto (tgt := 236) hC.1 hC.2.1 dX11_isFree_125 (by decide) ?_
              refine lv_iinc (v := v5 + 1) (lv' := [(5, .int (v5 + 1)), (6, .ref (lay (33 + j16))), (0, .ref (lay 0)), (1, .int a1), (2, .int a2), (3, .ref (lay (33 + v3)))]) hC.1 hC.2.1 dX11_isFree_236 hl (k := 5) rfl rfl (by decide) rfl (fun ls hl => ?_)
              refine lv_goto (tgt := 60) hC.1 hC.2.1 dX11_isFree_239 (by decide) ?_
              exact ih _ _ _ h hv3 _ _ _ G (lv_sub hl [2, 3, 4, 5, 0] rfl)
def w_X11_isFree (Γ : RG) (post : Int32 → MS → Prop) (σ : MS) (a1 : Int32) (a2 : Int32) : Prop := w_lw_Jx4a65c_get_915e3 Γ (fun j2 σ1 => ((j2 < 14 ∧ j2 < Γ.2.2.1) ∧ w_lp_Jx4a65c_get_915e3 Γ (fun j5 σ4 => ((j5 < 10 ∧ j5 < Γ.1) ∧ (vp_in (σ4 (33 + j2) 1) 366 ∧ (((σ4 (23 + j5) (Int32.toNatClampNeg (σ4 (33 + j2) 1))) = 0 → w_X11_driveOf Γ (fun r10 σ9 => ((r10 = (-1) → post 0 σ9) ∧ (¬ r10 = (-1) → (∃ k, u_X11_isFree_60 Γ post a1 a2 k σ9 j2 0)))) σ4 (σ4 (13 + j5) 2) (σ4 (33 + j2) 2)) ∧ (¬ (σ4 (23 + j5) (Int32.toNatClampNeg (σ4 (33 + j2) 1))) = 0 → post 0 σ4))))) σ1 a1)) σ a2
set_option maxHeartbeats 4000000 in
set_option maxRecDepth 100000 in
theorem c_X11_isFree (l : Launch) (D : va_G) (cy : Nat → ClassId) (lay : Nat → Nat) (Γ : RG) {σ : MS} {post : Int32 → MS → Prop} {a1 : Int32} {a2 : Int32} (h : w_X11_isFree Γ post σ a1 a2) (sz : Nat) : Met l yX11_isFree wsX11_isFree rm_X11_isFree (va_Pc [.ref (lay 0), .int a1, .int a2] (rI D cy lay Γ σ sz)) (va_Qi post (rO D cy lay Γ) (rA cy lay Γ sz)) 0 0 (rA cy lay Γ sz) := by
  refine rg_ofW (cc := cX11_isFree) (maxL := 11) (ret := some .boolean) (own := RX11) (Qc := fun sz => va_Qi post (rO D cy lay Γ) (rA cy lay Γ sz)) (by decide) rfl (Nat.le_of_ble_eq_true rfl) rfl ?_
  intro p e s m args below meth c ls hC hr hlocks hT G hl
  unfold w_X11_isFree at h
  have hl : lv_has ls 11 [(0, .ref (lay 0)), (1, .int a1), (2, .int a2)] := hl
  refine lv_aload_n hC.1 hC.2.1 dX11_isFree_0 rfl (lv_at hl 0 rfl) ?_
  refine rg_get hC hT G (by decide) r_mo k_X11 i_X11_isFree_X11 5 (by decide) (wm 1 rfl) rfl dX11_isFree_1 ?_
  refine lv_iload_n hC.1 hC.2.1 dX11_isFree_4 rfl (lv_at hl 2 rfl) ?_
  refine rg_r (f := fun i => lay (33 + i)) G (rg_runV (As := [.int a2]) (rest := []) hC hT G (c_lw_Jx4a65c_get_915e3 l D cy lay Γ h _) (cwV 1 hC.2.2.2.2 gX11_isFree_Jx4a65c_get_915e3 rfl rfl rfl hdV_Jx4a65c_get_915e3 ⟨Nat.le_of_ble_eq_true rfl, Nat.le_of_ble_eq_true rfl⟩) (rg_recv hT G (by decide) r_lw k_AL) rfl hl.1 rfl (Nat.le_of_ble_eq_true rfl) dX11_isFree_5 ⟨Nat.le_of_ble_eq_true rfl, Nat.le_of_ble_eq_true rfl⟩) (fun j2 σ1 H locs h G => ?_)
  (try dsimp only at h)
  obtain ⟨hj3, h⟩ := h
  refine rg_cast hC hT k_X10 (wm 2 rfl) (rg_recv hT G (rk_wd hj3) (r_wd hj3) k_X10) dX11_isFree_8 ?_
  refine lv_astore_n (lv' := [(3, .ref (lay (33 + j2))), (0, .ref (lay 0)), (1, .int a1), (2, .int a2)]) hC.1 hC.2.1 dX11_isFree_11 rfl hl (by decide) rfl (fun ls hl => ?_)
  refine lv_aload_n hC.1 hC.2.1 dX11_isFree_12 rfl (lv_at hl 1 rfl) ?_
  refine rg_get hC hT G (by decide) r_mo k_X11 i_X11_isFree_X11 3 (by decide) (wm 3 rfl) rfl dX11_isFree_13 ?_
  refine lv_iload_n hC.1 hC.2.1 dX11_isFree_16 rfl (lv_at hl 2 rfl) ?_
  refine rg_r (f := fun i => lay (13 + i)) G (rg_runV (As := [.int a1]) (rest := []) hC hT G (c_lp_Jx4a65c_get_915e3 l D cy lay Γ h _) (cwV 1 hC.2.2.2.2 gX11_isFree_Jx4a65c_get_915e3 rfl rfl rfl hdV_Jx4a65c_get_915e3 ⟨Nat.le_of_ble_eq_true rfl, Nat.le_of_ble_eq_true rfl⟩) (rg_recv hT G (by decide) r_lp k_AL) rfl hl.1 rfl (Nat.le_of_ble_eq_true rfl) dX11_isFree_17 ⟨Nat.le_of_ble_eq_true rfl, Nat.le_of_ble_eq_true rfl⟩) (fun j5 σ4 H locs h G => ?_)
  (try dsimp only at h)
  obtain ⟨hj6, h⟩ := h
  refine rg_cast hC hT k_X9 (wm 4 rfl) (rg_recv hT G (rk_pl hj6) (r_pl hj6) k_X9) dX11_isFree_20 ?_
  refine lv_astore (lv' := [(4, .ref (lay (13 + j5))), (3, .ref (lay (33 + j2))), (0, .ref (lay 0)), (1, .int a1), (2, .int a2)]) hC.1 hC.2.1 dX11_isFree_23 hl (by decide) rfl (fun ls hl => ?_)
  refine lv_aload hC.1 hC.2.1 dX11_isFree_25 (lv_at hl 0 rfl) ?_
  refine rg_getN hC hT G (rk_pl hj6) (r_pl hj6) k_X9 i_X11_isFree_X9 6 (by decide) 8 rfl rfl dX11_isFree_27 ?_
  refine lv_aload_n hC.1 hC.2.1 dX11_isFree_30 rfl (lv_at hl 1 rfl) ?_
  refine rg_getN hC hT G (rk_wd hj3) (r_wd hj3) k_X10 i_X11_isFree_X10 1 (by decide) 11 rfl rfl dX11_isFree_31 ?_
  obtain ⟨hn7, h⟩ := h
  refine rg_zald hC hT G (rk_of hj6) (r_of hj6) hn7 dX11_isFree_34 ?_
  refine lv_if_ne (tgt := 55) hC.1 hC.2.1 dX11_isFree_35 (by decide) (fun c8 => ?_) (fun c8 => ?_)
  · replace h := h.2 c8
    refine lv_iconst (v := 0) hC.1 hC.2.1 dX11_isFree_55 (by decide) ?_
    exact rg_zret hC hr hlocks G rfl h dX11_isFree_56
  · replace h := h.1 c8
    refine lv_aload_n hC.1 hC.2.1 dX11_isFree_38 rfl (lv_at hl 2 rfl) ?_
    refine lv_aload hC.1 hC.2.1 dX11_isFree_39 (lv_at hl 0 rfl) ?_
    refine rg_getN hC hT G (rk_pl hj6) (r_pl hj6) k_X9 i_X11_isFree_X9 2 (by decide) 4 rfl rfl dX11_isFree_41 ?_
    refine lv_aload_n hC.1 hC.2.1 dX11_isFree_44 rfl (lv_at hl 1 rfl) ?_
    refine rg_getN hC hT G (rk_wd hj3) (r_wd hj3) k_X10 i_X11_isFree_X10 2 (by decide) 12 rfl rfl dX11_isFree_45 ?_
    refine rg_i G (rg_runV (As := [.int (σ4 (13 + j5) 2), .int (σ4 (33 + j2) 2)]) (rest := []) hC hT G (c_X11_driveOf l D cy lay Γ h _) (cwV 2 hC.2.2.2.2 gX11_isFree_X11_driveOf rfl rfl rfl hdV_X11_driveOf ⟨Nat.le_of_ble_eq_true rfl, Nat.le_of_ble_eq_true rfl⟩) (rg_recv hT G (by decide) r_mo k_X11) rfl hl.1 rfl (Nat.le_of_ble_eq_true rfl) dX11_isFree_48 ⟨Nat.le_of_ble_eq_true rfl, Nat.le_of_ble_eq_true rfl⟩) (fun r10 σ9 H locs h G => ?_)
    (try dsimp only at h)
    refine lv_iconst (v := (-1)) hC.1 hC.2.1 dX11_isFree_51 (by decide) ?_
    refine lv_icmp_ne (tgt := 57) hC.1 hC.2.1 dX11_isFree_52 (by decide) (fun c11 => ?_) (fun c11 => ?_)
    · replace h := h.2 c11
      refine lv_iconst (v := 0) hC.1 hC.2.1 dX11_isFree_57 (by decide) ?_
      refine lv_istore (lv' := [(5, .int 0), (4, .ref (lay (13 + j5))), (3, .ref (lay (33 + j2))), (0, .ref (lay 0)), (1, .int a1), (2, .int a2)]) hC.1 hC.2.1 dX11_isFree_58 hl (by decide) rfl (fun ls hl => ?_)
      obtain ⟨n1, h⟩ := h
      exact l_X11_isFree_60 a1 a2 hC hr hlocks hT n1 _ _ _ h hj3 _ _ _ G (lv_sub hl [3, 4, 5, 2, 0] rfl)
    · replace h := h.1 c11
      refine lv_iconst (v := 0) hC.1 hC.2.1 dX11_isFree_55 (by decide) ?_
      exact rg_zret hC hr hlocks G rfl h dX11_isFree_56
theorem hdV_X11_isFree : yX11_isFree.cls = RX11 ∧ yX11_isFree.cls ≠ "java/lang/invoke/MethodHandle" ∧ yX11_isFree.cls ≠ "java/lang/invoke/VarHandle" ∧ (parseMethodDescriptor yX11_isFree.desc).map (fun d => d.parameters.length) = some 2 := by decide +kernel
abbrev rm_X11_freeFor : Room := { frames := 4, cells := 0, slots := 0, locals := 94 }
theorem i_X11_freeFor_X11 : ∀ w ∈ wsX110, w ∈ wsX11_freeFor := fun _ h => List.mem_cons_of_mem _ (List.mem_append_left _ (List.mem_append_left _ (List.mem_append_left _ (List.mem_append_right _ h))))
def u_X11_freeFor_4 (Γ : RG) (post : Int32 → MS → Prop) (a1 : Int32) : Nat → MS → Int32 → Int32 → Prop
  | 0, _, _, _ => False
  | n + 1, σ, v2, v3 => w_lp_Jx4a65c_size_8abf5 Γ (fun r2 σ1 => ((r2 ≤ v3 → post v2 σ1) ∧ (¬ r2 ≤ v3 → w_X11_isFree Γ (fun r5 σ4 => ((r5 = 0 → u_X11_freeFor_4 Γ post a1 n σ4 (v2 ||| 0) (v3 + 1)) ∧ (¬ r5 = 0 → u_X11_freeFor_4 Γ post a1 n σ4 (v2 ||| (1 <<< (v3 &&& 31))) (v3 + 1)))) σ1 v3 a1))) σ
set_option maxHeartbeats 4000000 in
set_option maxRecDepth 100000 in
theorem l_X11_freeFor_4 {p : Program} {l : Launch} {e : Env} {s : State} {m : MethodId} {args : Array Value} {below : List Frame} {meth : Method} {c : Code} {D : va_G} {cy : Nat → ClassId} {lay : Nat → Nat} {Γ : RG} {post : Int32 → MS → Prop} (a1 : Int32) (hC : CallFix p m c cX11_freeFor 4 s args wsX11_freeFor RX11) (hr : meth.sig.returnType = some .int) (hlocks : meth.locks = false) (hT : rT D cy lay Γ s) : ∀ (n : Nat), ∀ (σ : MS) (v2 : Int32) (v3 : Int32), u_X11_freeFor_4 Γ post a1 n σ v2 v3 → ∀ (H : Heap) (locs : List Loc) (ls : Array Slot), rG D cy lay Γ tn σ (rA cy lay Γ s.heap.size) s.heap H locs → lv_has ls 4 [(0, .ref (lay 0)), (1, .int a1), (2, .int v2), (3, .int v3)] → W p l e rm_X11_freeFor s m args below meth c H locs 0 0 (MQ below (va_Qi post (rO D cy lay Γ) (rA cy lay Γ s.heap.size)) args s 0 0 (rA cy lay Γ s.heap.size)) (F0 m 4 ls []) := by
  intro n
  induction n with
  | zero =>
    intro σ v2 v3 h
    exact h.elim
  | succ n ih =>
    intro σ v2 v3 h H locs ls G hl
    rw [u_X11_freeFor_4] at h
    refine lv_iload_n hC.1 hC.2.1 dX11_freeFor_4 rfl (lv_at hl 3 rfl) ?_
    refine lv_aload_n hC.1 hC.2.1 dX11_freeFor_5 rfl (lv_at hl 0 rfl) ?_
    refine rg_get hC hT G (by decide) r_mo k_X11 i_X11_freeFor_X11 3 (by decide) (wm 1 rfl) rfl dX11_freeFor_6 ?_
    refine rg_i G (rg_runV (As := []) (rest := [.int v3]) hC hT G (c_lp_Jx4a65c_size_8abf5 l D cy lay Γ h _) (cwV 0 hC.2.2.2.2 gX11_freeFor_Jx4a65c_size_8abf5 rfl rfl rfl hdV_Jx4a65c_size_8abf5 ⟨Nat.le_of_ble_eq_true rfl, Nat.le_of_ble_eq_true rfl⟩) (rg_recv hT G (by decide) r_lp k_AL) rfl hl.1 rfl (Nat.le_of_ble_eq_true rfl) dX11_freeFor_9 ⟨Nat.le_of_ble_eq_true rfl, Nat.le_of_ble_eq_true rfl⟩) (fun r2 σ1 H locs h G => ?_)
    (try dsimp only at h)
    refine lv_icmp_ge (tgt := 40) hC.1 hC.2.1 dX11_freeFor_12 (by decide) (fun c3 => ?_) (fun c3 => ?_)
    · replace h := h.1 c3
      refine lv_iload_n hC.1 hC.2.1 dX11_freeFor_40 rfl (lv_at hl 2 rfl) ?_
      exact rg_iret hC hr hlocks G h dX11_freeFor_41
    · replace h := h.2 c3
      refine lv_iload_n hC.1 hC.2.1 dX11_freeFor_15 rfl (lv_at hl 2 rfl) ?_
      refine lv_aload_n hC.1 hC.2.1 dX11_freeFor_16 rfl (lv_at hl 0 rfl) ?_
      refine lv_iload_n hC.1 hC.2.1 dX11_freeFor_17 rfl (lv_at hl 3 rfl) ?_
      refine lv_iload_n hC.1 hC.2.1 dX11_freeFor_18 rfl (lv_at hl 1 rfl) ?_
      refine rg_i G (rg_runV (As := [.int v3, .int a1]) (rest := [.int v2]) hC hT G (c_X11_isFree l D cy lay Γ h _) (cwV 2 hC.2.2.2.2 gX11_freeFor_X11_isFree rfl rfl rfl hdV_X11_isFree ⟨Nat.le_of_ble_eq_true rfl, Nat.le_of_ble_eq_true rfl⟩) (rg_recv hT G (by decide) r_mo k_X11) rfl hl.1 rfl (Nat.le_of_ble_eq_true rfl) dX11_freeFor_19 ⟨Nat.le_of_ble_eq_true rfl, Nat.le_of_ble_eq_true rfl⟩) (fun r5 σ4 H locs h G => ?_)
      (try dsimp only at h)
      refine lv_if_eq (tgt := 31) hC.1 hC.2.1 dX11_freeFor_22 (by decide) (fun c6 => ?_) (fun c6 => ?_)
      · replace h := h.1 c6
        refine lv_iconst (v := 0) hC.1 hC.2.1 dX11_freeFor_31 (by decide) ?_
        refine lv_ior hC.1 hC.2.1 dX11_freeFor_32 ?_
        refine lv_istore_n (lv' := [(2, .int (v2 ||| 0)), (0, .ref (lay 0)), (1, .int a1), (3, .int v3)]) hC.1 hC.2.1 dX11_freeFor_33 rfl hl (by decide) rfl (fun ls hl => ?_)
        refine lv_iinc (v := v3 + 1) (lv' := [(3, .int (v3 + 1)), (2, .int (v2 ||| 0)), (0, .ref (lay 0)), (1, .int a1)]) hC.1 hC.2.1 dX11_freeFor_34 hl (k := 3) rfl rfl (by decide) rfl (fun ls hl => ?_)
        refine lv_goto (tgt := 4) hC.1 hC.2.1 dX11_freeFor_37 (by decide) ?_
        exact ih _ _ _ h _ _ _ G (lv_sub hl [2, 3, 1, 0] rfl)
      · replace h := h.2 c6
        refine lv_iconst (v := 1) hC.1 hC.2.1 dX11_freeFor_25 (by decide) ?_
        refine lv_iload_n hC.1 hC.2.1 dX11_freeFor_26 rfl (lv_at hl 3 rfl) ?_
        refine lv_ishl hC.1 hC.2.1 dX11_freeFor_27 ?_
        refine lv_goto (tgt := 32) hC.1 hC.2.1 dX11_freeFor_28 (by decide) ?_
        refine lv_ior hC.1 hC.2.1 dX11_freeFor_32 ?_
        refine lv_istore_n (lv' := [(2, .int (v2 ||| (1 <<< (v3 &&& 31)))), (0, .ref (lay 0)), (1, .int a1), (3, .int v3)]) hC.1 hC.2.1 dX11_freeFor_33 rfl hl (by decide) rfl (fun ls hl => ?_)
        refine lv_iinc (v := v3 + 1) (lv' := [(3, .int (v3 + 1)), (2, .int (v2 ||| (1 <<< (v3 &&& 31)))), (0, .ref (lay 0)), (1, .int a1)]) hC.1 hC.2.1 dX11_freeFor_34 hl (k := 3) rfl rfl (by decide) rfl (fun ls hl => ?_)
        refine lv_goto (tgt := 4) hC.1 hC.2.1 dX11_freeFor_37 (by decide) ?_
        exact ih _ _ _ h _ _ _ G (lv_sub hl [2, 3, 1, 0] rfl)
def w_X11_freeFor (Γ : RG) (post : Int32 → MS → Prop) (σ : MS) (a1 : Int32) : Prop := (∃ k, u_X11_freeFor_4 Γ post a1 k σ 0 0)
set_option maxHeartbeats 4000000 in
set_option maxRecDepth 100000 in
theorem c_X11_freeFor (l : Launch) (D : va_G) (cy : Nat → ClassId) (lay : Nat → Nat) (Γ : RG) {σ : MS} {post : Int32 → MS → Prop} {a1 : Int32} (h : w_X11_freeFor Γ post σ a1) (sz : Nat) : Met l yX11_freeFor wsX11_freeFor rm_X11_freeFor (va_Pc [.ref (lay 0), .int a1] (rI D cy lay Γ σ sz)) (va_Qi post (rO D cy lay Γ) (rA cy lay Γ sz)) 0 0 (rA cy lay Γ sz) := by
  refine rg_ofW (cc := cX11_freeFor) (maxL := 4) (ret := some .int) (own := RX11) (Qc := fun sz => va_Qi post (rO D cy lay Γ) (rA cy lay Γ sz)) (by decide) rfl (Nat.le_of_ble_eq_true rfl) rfl ?_
  intro p e s m args below meth c ls hC hr hlocks hT G hl
  unfold w_X11_freeFor at h
  have hl : lv_has ls 4 [(0, .ref (lay 0)), (1, .int a1)] := hl
  refine lv_iconst (v := 0) hC.1 hC.2.1 dX11_freeFor_0 (by decide) ?_
  refine lv_istore_n (lv' := [(2, .int 0), (0, .ref (lay 0)), (1, .int a1)]) hC.1 hC.2.1 dX11_freeFor_1 rfl hl (by decide) rfl (fun ls hl => ?_)
  refine lv_iconst (v := 0) hC.1 hC.2.1 dX11_freeFor_2 (by decide) ?_
  refine lv_istore_n (lv' := [(3, .int 0), (2, .int 0), (0, .ref (lay 0)), (1, .int a1)]) hC.1 hC.2.1 dX11_freeFor_3 rfl hl (by decide) rfl (fun ls hl => ?_)
  obtain ⟨n1, h⟩ := h
  exact l_X11_freeFor_4 a1 hC hr hlocks hT n1 _ _ _ h _ _ _ G (lv_sub hl [2, 3, 1, 0] rfl)
theorem hdV_X11_freeFor : yX11_freeFor.cls = RX11 ∧ yX11_freeFor.cls ≠ "java/lang/invoke/MethodHandle" ∧ yX11_freeFor.cls ≠ "java/lang/invoke/VarHandle" ∧ (parseMethodDescriptor yX11_freeFor.desc).map (fun d => d.parameters.length) = some 1 := by decide +kernel
