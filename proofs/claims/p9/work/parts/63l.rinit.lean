/-! THE REFERENCE: its constructor, from the loop on -/
abbrev rm_X11_init : Room := { frames := 4, cells := 9, slots := 145, locals := 120 }
theorem i_X11_init_X11 : ∀ w ∈ wsX110, w ∈ wsX11_init := fun _ h => List.mem_cons_of_mem _ (List.mem_append_right _ h)
theorem i_X11_init_AL : ∀ w ∈ wsJx4a65c0, w ∈ wsX11_init := fun _ h => List.mem_cons_of_mem _ (List.mem_append_left _ (List.mem_append_right _ h))
def u_X11_init_87 (Γ : RG) (post : MS → Prop) : Nat → MS → Int32 → Prop
  | 0, _, _ => False
  | k + 1, σ, i => (16 ≤ i → w_X11_drive Γ post σ) ∧ (¬ 16 ≤ i → vp_in i 16 ∧ u_X11_init_87 Γ post k (up2 (up2 (up2 σ 7 i.toNatClampNeg (i - i / 12 * 12)) 8 i.toNatClampNeg 5) 9 i.toNatClampNeg 3) (i + 1))
section XIN
variable {p : Program} {l : Launch} {e : Env} {s : State} {m : MethodId} {args : Array Value} {below : List Frame} {meth : Method} {c : Code} {D : va_G} {cy : Nat → ClassId} {lay : Nat → Nat} {Γ : RG}
theorem rk_vret {R : Room} {H : Heap} {cells slots : Nat} {cc : ByteArray} {nL pc : Nat} {Ts : List Cond} {own : String} {ls : Array Slot} {post : RY → Prop} {Y : RY} {locs : List Loc} {A : Nat → Prop} {z0 : Nat} (hz : Y.1 0 = z0) (hC : CallFix p m c cc nL s args Ts own) (hr : meth.sig.returnType = none) (hlocks : meth.locks = false) (G : gG D Y.1 (rX cy Y.1 Y.2.1 tn Y.2.2) A s.heap H locs) (hS : rS D cy Y.2.1 (rA cy Y.1 Y.2.1 H.size) s H) (hB : rB Y.2.1) (h : post Y) (hdg : decode cc pc = .ok (.return_, 1)) :
    W p l e R s m args below meth c H locs cells slots (MQ below (va_Qv post (rOz z0 D cy A) A) args s cells slots A) (F0 m pc ls []) :=
  W.vret hC.1 hC.2.1 hr (fun t ht hW => ⟨⟨Y, rfl, h, ⟨by rw [ht]; exact G.1, G.2.1, by rw [ht]; exact rS_moved hW.alike hS, hB⟩, hz⟩, G.2.2.F ht⟩) G.2.2.2.2 hdg hlocks
set_option maxHeartbeats 4000000 in
set_option maxRecDepth 100000 in
theorem l_X11_init_87 {post : RY → Prop} {z0 : Nat} (hz : lay 0 = z0) (hC : CallFix p m c cX11_init 2 s args wsX11_init RX11) (hr : meth.sig.returnType = none) (hlocks : meth.locks = false) (hT : rT D cy lay Γ s) : ∀ (k : Nat) (σ : MS) (i : Int32), u_X11_init_87 Γ (fun σ => post (lay, Γ, σ)) k σ i → ∀ (H : Heap) (locs : List Loc) (ls : Array Slot), rG D cy lay Γ tn σ (rA cy lay Γ s.heap.size) s.heap H locs → lv_has ls 2 [(1, .int i), (0, .ref (lay 0))] → W p l e rm_X11_init s m args below meth c H locs 9 145 (MQ below (va_Qv post (rOz z0 D cy (rA cy lay Γ s.heap.size)) (rA cy lay Γ s.heap.size)) args s 9 145 (rA cy lay Γ s.heap.size)) (F0 m 87 ls []) := by
  intro k
  induction k with
  | zero =>
    intro σ i h
    exact absurd h (by unfold u_X11_init_87; exact id)
  | succ k ih =>
    intro σ i h H locs ls G hl
    unfold u_X11_init_87 at h
    refine lv_iload_n hC.1 hC.2.1 dX11_init_87 rfl (lv_at hl 0 rfl) ?_
    refine lv_bipush (v := 16) hC.1 hC.2.1 dX11_init_88 (by decide) ?_
    refine lv_icmp_ge (tgt := 123) hC.1 hC.2.1 dX11_init_90 (by decide) (fun c1 => ?_) (fun c1 => ?_)
    · replace h := h.1 c1
      refine lv_aload_n hC.1 hC.2.1 dX11_init_123 rfl (lv_at hl 1 rfl) ?_
      refine rg_v G (rg_runV (As := []) (rest := []) hC hT G (c_X11_drive l D cy lay Γ h _) (cwV 0 hC.2.2.2.2 gX11_init_X11_drive rfl rfl rfl hdV_X11_drive ⟨Nat.le_of_ble_eq_true rfl, Nat.le_of_ble_eq_true rfl⟩) (rg_recv hT G (by decide) r_mo k_X11) rfl hl.1 rfl (Nat.le_of_ble_eq_true rfl) dX11_init_124 ⟨Nat.le_of_ble_eq_true rfl, Nat.le_of_ble_eq_true rfl⟩) (fun σ' H locs h G => ?_)
      exact rk_vret (Y := (lay, Γ, σ')) hz hC hr hlocks G (rS_grow hT.2.2.1 G rfl rfl) hT.2.2.2 h dX11_init_127
    · replace h := h.2 c1
      obtain ⟨hin, h⟩ := h
      refine lv_aload_n hC.1 hC.2.1 dX11_init_93 rfl (lv_at hl 1 rfl) ?_
      refine rg_get hC hT G (by decide) r_mo k_X11 i_X11_init_X11 6 (by decide) (wm 11 rfl) rfl dX11_init_94 ?_
      refine lv_iload_n hC.1 hC.2.1 dX11_init_97 rfl (lv_at hl 0 rfl) ?_
      refine lv_iload_n hC.1 hC.2.1 dX11_init_98 rfl (lv_at hl 0 rfl) ?_
      refine lv_bipush (v := 12) hC.1 hC.2.1 dX11_init_99 (by decide) ?_
      refine lv_irem hC.1 hC.2.1 dX11_init_101 (by decide) ?_
      refine rg_iast hC hT G (by decide) (fun _ => r_ky) hin dX11_init_102 (fun H locs G => ?_)
      refine lv_aload_n hC.1 hC.2.1 dX11_init_103 rfl (lv_at hl 1 rfl) ?_
      refine rg_get hC hT G (by decide) r_mo k_X11 i_X11_init_X11 7 (by decide) (wm 12 rfl) rfl dX11_init_104 ?_
      refine lv_iload_n hC.1 hC.2.1 dX11_init_107 rfl (lv_at hl 0 rfl) ?_
      refine lv_iconst (v := 5) hC.1 hC.2.1 dX11_init_108 (by decide) ?_
      refine rg_iast hC hT G (by decide) (fun _ => r_en) hin dX11_init_109 (fun H locs G => ?_)
      refine lv_aload_n hC.1 hC.2.1 dX11_init_110 rfl (lv_at hl 1 rfl) ?_
      refine rg_get hC hT G (by decide) r_mo k_X11 i_X11_init_X11 8 (by decide) (wm 13 rfl) rfl dX11_init_111 ?_
      refine lv_iload_n hC.1 hC.2.1 dX11_init_114 rfl (lv_at hl 0 rfl) ?_
      refine lv_iconst (v := 3) hC.1 hC.2.1 dX11_init_115 (by decide) ?_
      refine rg_iast hC hT G (by decide) (fun _ => r_mi) hin dX11_init_116 (fun H locs G => ?_)
      refine lv_iinc (v := i + 1) (lv' := [(1, .int (i + 1)), (0, .ref (lay 0))]) hC.1 hC.2.1 dX11_init_117 hl (k := 0) rfl rfl (by decide) rfl (fun ls hl => ?_)
      refine lv_goto (tgt := 87) hC.1 hC.2.1 dX11_init_120 (by decide) ?_
      exact ih _ _ h _ _ _ G hl
end XIN
