section
abbrev rm_X11_fix : Room := { frames := 12, cells := 1, slots := 16, locals := 311 }
theorem i_X11_fix_X11 : ∀ w ∈ wsX110, w ∈ wsX11_fix := fun _ h => List.mem_cons_of_mem _ (List.mem_append_left _ (List.mem_append_left _ (List.mem_append_left _ (List.mem_append_left _ (List.mem_append_left _ (List.mem_append_right _ h))))))
theorem i_X11_fix_X10 : ∀ w ∈ wsX100, w ∈ wsX11_fix := fun _ h => List.mem_cons_of_mem _ (List.mem_append_left _ (List.mem_append_left _ (List.mem_append_left _ (List.mem_append_left _ (List.mem_append_right _ h)))))
def u_X11_fix_77 (Γ : RG) (post : Int32 → MS → Prop) (a1 : Int32) : Nat → MS → Nat → Prop
  | 0, _, _ => False
  | n + 1, σ, v3 => (((b01 (!decide (σ 64 0 = σ 3 2))) = 0 → post (σ (33 + v3) 9) σ) ∧ (¬ (b01 (!decide (σ 64 0 = σ 3 2))) = 0 → (∃ j13 : Nat, (σ 64 0 = nI j13 ∧ j13 < Γ.2.2.1) ∧ σ 64 2 = σ 3 0 ∧ σ 3 2 = nI Γ.2.2.1 ∧ ((((up2 (up2 σ 64 0 (nI (j13 + 1))) 64 1 (nI j13)) (33 + j13) 7) = 0 → ((((up2 (up2 σ 64 0 (nI (j13 + 1))) 64 1 (nI j13)) (33 + j13) 0) = ((up2 (up2 σ 64 0 (nI (j13 + 1))) 64 1 (nI j13)) (33 + v3) 0) → ((((up2 (up2 σ 64 0 (nI (j13 + 1))) 64 1 (nI j13)) (33 + j13) 1) = ((up2 (up2 σ 64 0 (nI (j13 + 1))) 64 1 (nI j13)) (33 + v3) 1) → u_X11_fix_77 Γ post a1 n (up2 (up2 (up2 σ 64 0 (nI (j13 + 1))) 64 1 (nI j13)) (33 + j13) 7 3) v3) ∧ (¬ ((up2 (up2 σ 64 0 (nI (j13 + 1))) 64 1 (nI j13)) (33 + j13) 1) = ((up2 (up2 σ 64 0 (nI (j13 + 1))) 64 1 (nI j13)) (33 + v3) 1) → u_X11_fix_77 Γ post a1 n (up2 (up2 σ 64 0 (nI (j13 + 1))) 64 1 (nI j13)) v3))) ∧ (¬ ((up2 (up2 σ 64 0 (nI (j13 + 1))) 64 1 (nI j13)) (33 + j13) 0) = ((up2 (up2 σ 64 0 (nI (j13 + 1))) 64 1 (nI j13)) (33 + v3) 0) → u_X11_fix_77 Γ post a1 n (up2 (up2 σ 64 0 (nI (j13 + 1))) 64 1 (nI j13)) v3))) ∧ (¬ ((up2 (up2 σ 64 0 (nI (j13 + 1))) 64 1 (nI j13)) (33 + j13) 7) = 0 → u_X11_fix_77 Γ post a1 n (up2 (up2 σ 64 0 (nI (j13 + 1))) 64 1 (nI j13)) v3)))))
set_option maxHeartbeats 4000000 in
set_option maxRecDepth 100000 in
theorem l_X11_fix_77 {p : Program} {l : Launch} {e : Env} {s : State} {m : MethodId} {args : Array Value} {below : List Frame} {meth : Method} {c : Code} {D : va_G} {cy : Nat → ClassId} {lay : Nat → Nat} {Γ : RG} {post : Int32 → MS → Prop} (a1 : Int32) (hC : CallFix p m c cX11_fix 6 s args wsX11_fix RX11) (hr : meth.sig.returnType = some .int) (hlocks : meth.locks = false) (hT : rT D cy lay Γ s) : ∀ (n : Nat), ∀ (σ : MS) (v3 : Nat), u_X11_fix_77 Γ post a1 n σ v3 → ∀ (hv3 : v3 < 14 ∧ v3 < Γ.2.2.1), ∀ (H : Heap) (locs : List Loc) (ls : Array Slot), rG D cy lay Γ (gU tn 64 (some (2, 3))) σ (rA cy lay Γ s.heap.size) s.heap H locs → lv_has ls 6 [(0, .ref (lay 0)), (1, .int a1), (3, .ref (lay (33 + v3))), (4, .ref (lay 64))] → W p l e rm_X11_fix s m args below meth c H locs 1 16 (MQ below (va_Qi post (rO D cy lay Γ) (rA cy lay Γ s.heap.size)) args s 1 16 (rA cy lay Γ s.heap.size)) (F0 m 77 ls []) := by
  intro n
  induction n with
  | zero =>
    intro σ v3 h
    exact h.elim
  | succ n ih =>
    intro σ v3 h hv3 H locs ls G hl
    rw [u_X11_fix_77] at h
    refine lv_aload hC.1 hC.2.1 dX11_fix_77 (lv_at hl 3 rfl) ?_
    refine rg_hasNext hC hT G (k := 64) (by decide) (by decide) rfl (va_cwF 0 hC.2.2.2.2 gX11_fix_Jx35411_hasNext_aae02_f230Jx35411 rfl rfl rfl hT.2.1.2.1 hdF_hasNext ⟨Nat.le_of_ble_eq_true rfl, Nat.le_of_ble_eq_true rfl⟩) hl.1 (Nat.le_of_ble_eq_true rfl) dX11_fix_79 ⟨Nat.le_of_ble_eq_true rfl, Nat.le_of_ble_eq_true rfl⟩ (fun H locs G => ?_)
    refine lv_if_eq (tgt := 140) hC.1 hC.2.1 dX11_fix_84 (by decide) (fun c12 => ?_) (fun c12 => ?_)
    · replace h := h.1 c12
      refine lv_aload_n hC.1 hC.2.1 dX11_fix_140 rfl (lv_at hl 2 rfl) ?_
      refine rg_getN hC hT G (rk_wd hv3) (r_wd hv3) k_X10 i_X11_fix_X10 9 (by decide) 19 rfl rfl dX11_fix_141 ?_
      refine W.widen (k := 1) (n := 16) (by decide) (by decide) ?_
      exact rg_iret hC hr hlocks (rG_drop G hT.2.2.2) h dX11_fix_144
    · replace h := h.2 c12
      refine lv_aload hC.1 hC.2.1 dX11_fix_87 (lv_at hl 3 rfl) ?_
      obtain ⟨j13, hj14, hj14a, hj14b, h⟩ := h
      have hj14c : j13 < 14 := Nat.lt_of_lt_of_le hj14.2 hT.2.2.2.2.2
      refine rg_next hC hT G (k := 64) (ci := j13) (by decide) (by decide) rfl hj14 hj14a hj14b (va_cwF 0 hC.2.2.2.2 gX11_fix_Jx35411_next_0502b_f236Jx35411 rfl rfl rfl hT.2.1.2.2 hdF_next ⟨Nat.le_of_ble_eq_true rfl, Nat.le_of_ble_eq_true rfl⟩) hl.1 (Nat.le_of_ble_eq_true rfl) dX11_fix_89 ⟨Nat.le_of_ble_eq_true rfl, Nat.le_of_ble_eq_true rfl⟩ (fun H locs G => ?_)
      refine rg_cast hC hT k_X10 (wm 3 rfl) (rg_recv hT G (rk_wd ⟨Nat.lt_of_lt_of_le hj14.2 hT.2.2.2.2.2, hj14.2⟩) (r_wd ⟨Nat.lt_of_lt_of_le hj14.2 hT.2.2.2.2.2, hj14.2⟩) k_X10) dX11_fix_94 ?_
      refine lv_astore (lv' := [(5, .ref (lay (33 + j13))), (0, .ref (lay 0)), (1, .int a1), (3, .ref (lay (33 + v3))), (4, .ref (lay 64))]) hC.1 hC.2.1 dX11_fix_97 hl (by decide) rfl (fun ls hl => ?_)
      refine lv_aload hC.1 hC.2.1 dX11_fix_99 (lv_at hl 0 rfl) ?_
      refine rg_getN hC hT G (rk_wd ⟨Nat.lt_of_lt_of_le hj14.2 hT.2.2.2.2.2, hj14.2⟩) (r_wd ⟨Nat.lt_of_lt_of_le hj14.2 hT.2.2.2.2.2, hj14.2⟩) k_X10 i_X11_fix_X10 7 (by decide) 17 rfl rfl dX11_fix_101 ?_
      refine lv_if_ne (tgt := 137) hC.1 hC.2.1 dX11_fix_104 (by decide) (fun c15 => ?_) (fun c15 => ?_)
      · replace h := h.2 c15
        refine lv_goto (tgt := 77) hC.1 hC.2.1 dX11_fix_137 (by decide) ?_
        exact ih _ _ h hv3 _ _ _ G (lv_sub hl [1, 2, 3, 4] rfl)
      · replace h := h.1 c15
        refine lv_aload hC.1 hC.2.1 dX11_fix_107 (lv_at hl 0 rfl) ?_
        refine rg_getN hC hT G (rk_wd ⟨Nat.lt_of_lt_of_le hj14.2 hT.2.2.2.2.2, hj14.2⟩) (r_wd ⟨Nat.lt_of_lt_of_le hj14.2 hT.2.2.2.2.2, hj14.2⟩) k_X10 i_X11_fix_X10 0 (by decide) 10 rfl rfl dX11_fix_109 ?_
        refine lv_aload_n hC.1 hC.2.1 dX11_fix_112 rfl (lv_at hl 3 rfl) ?_
        refine rg_getN hC hT G (rk_wd hv3) (r_wd hv3) k_X10 i_X11_fix_X10 0 (by decide) 10 rfl rfl dX11_fix_113 ?_
        refine lv_icmp_ne (tgt := 137) hC.1 hC.2.1 dX11_fix_116 (by decide) (fun c16 => ?_) (fun c16 => ?_)
        · replace h := h.2 c16
          refine lv_goto (tgt := 77) hC.1 hC.2.1 dX11_fix_137 (by decide) ?_
          exact ih _ _ h hv3 _ _ _ G (lv_sub hl [1, 2, 3, 4] rfl)
        · replace h := h.1 c16
          refine lv_aload hC.1 hC.2.1 dX11_fix_119 (lv_at hl 0 rfl) ?_
          refine rg_getN hC hT G (rk_wd ⟨Nat.lt_of_lt_of_le hj14.2 hT.2.2.2.2.2, hj14.2⟩) (r_wd ⟨Nat.lt_of_lt_of_le hj14.2 hT.2.2.2.2.2, hj14.2⟩) k_X10 i_X11_fix_X10 1 (by decide) 11 rfl rfl dX11_fix_121 ?_
          refine lv_aload_n hC.1 hC.2.1 dX11_fix_124 rfl (lv_at hl 3 rfl) ?_
          refine rg_getN hC hT G (rk_wd hv3) (r_wd hv3) k_X10 i_X11_fix_X10 1 (by decide) 11 rfl rfl dX11_fix_125 ?_
          refine lv_icmp_ne (tgt := 137) hC.1 hC.2.1 dX11_fix_128 (by decide) (fun c17 => ?_) (fun c17 => ?_)
          · replace h := h.2 c17
            refine lv_goto (tgt := 77) hC.1 hC.2.1 dX11_fix_137 (by decide) ?_
            exact ih _ _ h hv3 _ _ _ G (lv_sub hl [1, 2, 3, 4] rfl)
          · replace h := h.1 c17
            refine lv_aload hC.1 hC.2.1 dX11_fix_131 (lv_at hl 0 rfl) ?_
            refine lv_iconst (v := 3) hC.1 hC.2.1 dX11_fix_133 (by decide) ?_
            refine rg_putN hC hT G (rk_wd ⟨Nat.lt_of_lt_of_le hj14.2 hT.2.2.2.2.2, hj14.2⟩) (r_wd ⟨Nat.lt_of_lt_of_le hj14.2 hT.2.2.2.2.2, hj14.2⟩) k_X10 i_X11_fix_X10 7 (by decide) 17 rfl rfl rfl (by simp) (r_wd ⟨Nat.lt_of_lt_of_le hj14.2 hT.2.2.2.2.2, hj14.2⟩) (by rw [up2_eq]; rfl) dX11_fix_134 (fun H locs G => ?_)
            refine lv_goto (tgt := 77) hC.1 hC.2.1 dX11_fix_137 (by decide) ?_
            exact ih _ _ h hv3 _ _ _ G (lv_sub hl [1, 2, 3, 4] rfl)
def u_X11_fix_38 (Γ : RG) (post : Int32 → MS → Prop) (a1 : Int32) (σ : MS) (t0 : Int32) : Prop := ((t0 = (-1) → w_X11_refuse Γ (fun r19 σ18 => post r19 σ18) σ 2) ∧ (¬ t0 = (-1) → w_X11_fixNow Γ (fun σ8 => w_lw_Jx4a65c_get_915e3 Γ (fun j10 σ9 => ((j10 < 14 ∧ j10 < Γ.2.2.1) ∧ (∃ k, u_X11_fix_77 Γ post a1 k (rw0 σ9 64 (itR (σ9 3 0))) j10))) σ8 a1) σ a1 t0))
set_option maxHeartbeats 4000000 in
set_option maxRecDepth 100000 in
theorem l_X11_fix_38 {p : Program} {l : Launch} {e : Env} {s : State} {m : MethodId} {args : Array Value} {below : List Frame} {meth : Method} {c : Code} {D : va_G} {cy : Nat → ClassId} {lay : Nat → Nat} {Γ : RG} {post : Int32 → MS → Prop} (a1 : Int32) (hC : CallFix p m c cX11_fix 6 s args wsX11_fix RX11) (hr : meth.sig.returnType = some .int) (hlocks : meth.locks = false) (hT : rT D cy lay Γ s) : ∀ (σ : MS) (t0 : Int32), u_X11_fix_38 Γ post a1 σ t0 → ∀ (H : Heap) (locs : List Loc) (ls : Array Slot), rG D cy lay Γ tn σ (rA cy lay Γ s.heap.size) s.heap H locs → lv_has ls 6 [(0, .ref (lay 0)), (1, .int a1)] → W p l e rm_X11_fix s m args below meth c H locs 0 0 (MQ below (va_Qi post (rO D cy lay Γ) (rA cy lay Γ s.heap.size)) args s 1 16 (rA cy lay Γ s.heap.size)) (F0 m 38 ls [.int t0]) := by
  intro σ t0 h H locs ls G hl
  unfold u_X11_fix_38 at h
  refine lv_istore_n (lv' := [(2, .int t0), (0, .ref (lay 0)), (1, .int a1)]) hC.1 hC.2.1 dX11_fix_38 rfl hl (by decide) rfl (fun ls hl => ?_)
  refine lv_iload_n hC.1 hC.2.1 dX11_fix_39 rfl (lv_at hl 0 rfl) ?_
  refine lv_iconst (v := (-1)) hC.1 hC.2.1 dX11_fix_40 (by decide) ?_
  refine lv_icmp_ne (tgt := 50) hC.1 hC.2.1 dX11_fix_41 (by decide) (fun c7 => ?_) (fun c7 => ?_)
  · replace h := h.2 c7
    refine lv_aload_n hC.1 hC.2.1 dX11_fix_50 rfl (lv_at hl 1 rfl) ?_
    refine lv_iload_n hC.1 hC.2.1 dX11_fix_51 rfl (lv_at hl 2 rfl) ?_
    refine lv_iload_n hC.1 hC.2.1 dX11_fix_52 rfl (lv_at hl 0 rfl) ?_
    refine rg_v G (rg_runV (As := [.int a1, .int t0]) (rest := []) hC hT G (c_X11_fixNow l D cy lay Γ h _) (cwV 2 hC.2.2.2.2 gX11_fix_X11_fixNow rfl rfl rfl hdV_X11_fixNow ⟨Nat.le_of_ble_eq_true rfl, Nat.le_of_ble_eq_true rfl⟩) (rg_recv hT G (by decide) r_mo k_X11) rfl hl.1 rfl (Nat.le_of_ble_eq_true rfl) dX11_fix_53 ⟨Nat.le_of_ble_eq_true rfl, Nat.le_of_ble_eq_true rfl⟩) (fun σ8 H locs h G => ?_)
    (try dsimp only at h)
    refine lv_aload_n hC.1 hC.2.1 dX11_fix_56 rfl (lv_at hl 1 rfl) ?_
    refine rg_get hC hT G (by decide) r_mo k_X11 i_X11_fix_X11 5 (by decide) (wm 2 rfl) rfl dX11_fix_57 ?_
    refine lv_iload_n hC.1 hC.2.1 dX11_fix_60 rfl (lv_at hl 2 rfl) ?_
    refine rg_r (f := fun i => lay (33 + i)) G (rg_runV (As := [.int a1]) (rest := []) hC hT G (c_lw_Jx4a65c_get_915e3 l D cy lay Γ h _) (cwV 1 hC.2.2.2.2 gX11_fix_Jx4a65c_get_915e3 rfl rfl rfl hdV_Jx4a65c_get_915e3 ⟨Nat.le_of_ble_eq_true rfl, Nat.le_of_ble_eq_true rfl⟩) (rg_recv hT G (by decide) r_lw k_AL) rfl hl.1 rfl (Nat.le_of_ble_eq_true rfl) dX11_fix_61 ⟨Nat.le_of_ble_eq_true rfl, Nat.le_of_ble_eq_true rfl⟩) (fun j10 σ9 H locs h G => ?_)
    (try dsimp only at h)
    obtain ⟨hj11, h⟩ := h
    refine rg_cast hC hT k_X10 (wm 3 rfl) (rg_recv hT G (rk_wd hj11) (r_wd hj11) k_X10) dX11_fix_64 ?_
    refine lv_astore_n (lv' := [(3, .ref (lay (33 + j10))), (2, .int t0), (0, .ref (lay 0)), (1, .int a1)]) hC.1 hC.2.1 dX11_fix_67 rfl hl (by decide) rfl (fun ls hl => ?_)
    refine lv_aload_n hC.1 hC.2.1 dX11_fix_68 rfl (lv_at hl 2 rfl) ?_
    refine rg_get hC hT G (by decide) r_mo k_X11 i_X11_fix_X11 5 (by decide) (wm 2 rfl) rfl dX11_fix_69 ?_
    refine rg_iter (Q := fun lay => MQ below (va_Qi post (rO D cy lay Γ) (rA cy lay Γ s.heap.size)) args s 1 16 (rA cy lay Γ s.heap.size)) (ql_i hT.2.2.2) hC hT G tmO_n (k := 64) (by decide) (by decide) rfl (cwV 0 hC.2.2.2.2 gX11_fix_Jx4a65c_iterator_32c93 rfl rfl rfl hdV_Jx4a65c_iterator_32c93 ⟨Nat.le_of_ble_eq_true rfl, Nat.le_of_ble_eq_true rfl⟩) hl.1 (Nat.le_of_ble_eq_true rfl) dX11_fix_72 ⟨Nat.le_of_ble_eq_true rfl, Nat.le_of_ble_eq_true rfl⟩ (fun lay hly hT H locs G => ?_)
    refine W.widen (k := 1) (n := 16) (by omega) (by omega) ?_
    replace hl : lv_has ls 6 [(3, .ref (lay (33 + j10))), (2, .int t0), (0, .ref (lay 0)), (1, .int a1)] := by rw [hly (33 + j10) (by have := (hj11).1; omega), hly 0 (by decide)]; exact hl
    refine lv_astore (lv' := [(4, .ref (lay 64)), (3, .ref (lay (33 + j10))), (2, .int t0), (0, .ref (lay 0)), (1, .int a1)]) hC.1 hC.2.1 dX11_fix_75 hl (by decide) rfl (fun ls hl => ?_)
    obtain ⟨n1, h⟩ := h
    exact l_X11_fix_77 a1 hC hr hlocks hT n1 _ _ h hj11 _ _ _ G (lv_sub hl [3, 4, 1, 0] rfl)
  · replace h := h.1 c7
    refine lv_aload_n hC.1 hC.2.1 dX11_fix_44 rfl (lv_at hl 1 rfl) ?_
    refine lv_iconst (v := 2) hC.1 hC.2.1 dX11_fix_45 (by decide) ?_
    refine rg_i G (rg_runV (As := [.int 2]) (rest := []) hC hT G (c_X11_refuse l D cy lay Γ h _) (cwV 1 hC.2.2.2.2 gX11_fix_X11_refuse rfl rfl rfl hdV_X11_refuse ⟨Nat.le_of_ble_eq_true rfl, Nat.le_of_ble_eq_true rfl⟩) (rg_recv hT G (by decide) r_mo k_X11) rfl hl.1 rfl (Nat.le_of_ble_eq_true rfl) dX11_fix_46 ⟨Nat.le_of_ble_eq_true rfl, Nat.le_of_ble_eq_true rfl⟩) (fun r19 σ18 H locs h G => ?_)
    (try dsimp only at h)
    refine W.widen (k := 1) (n := 16) (by decide) (by decide) ?_
    exact rg_iret hC hr hlocks G h dX11_fix_49
def w_X11_fix (Γ : RG) (post : Int32 → MS → Prop) (σ : MS) (a1 : Int32) : Prop := w_X11_isWedding Γ (fun r2 σ1 => ((r2 = 0 → w_X11_refuse Γ (fun r23 σ22 => post r23 σ22) σ1 1) ∧ (¬ r2 = 0 → w_X11_place Γ (fun r5 σ4 => ((r5 = 0 → w_X11_best Γ (fun r21 σ20 => u_X11_fix_38 Γ post a1 σ20 r21) σ4 a1 0 0) ∧ (¬ r5 = 0 → u_X11_fix_38 Γ post a1 σ4 (-1)))) σ1 a1))) (up2 σ 0 0 0) a1
set_option maxHeartbeats 4000000 in
set_option maxRecDepth 100000 in
theorem c_X11_fix (l : Launch) (D : va_G) (cy : Nat → ClassId) (lay : Nat → Nat) (Γ : RG) {σ : MS} {post : Int32 → MS → Prop} {a1 : Int32} (h : w_X11_fix Γ post σ a1) (sz : Nat) : Met l yX11_fix wsX11_fix rm_X11_fix (va_Pc [.ref (lay 0), .int a1] (rI D cy lay Γ σ sz)) (va_Qi post (rO D cy lay Γ) (rA cy lay Γ sz)) 1 16 (rA cy lay Γ sz) := by
  refine rg_ofW (cc := cX11_fix) (maxL := 6) (ret := some .int) (own := RX11) (Qc := fun sz => va_Qi post (rO D cy lay Γ) (rA cy lay Γ sz)) (by decide) rfl (Nat.le_of_ble_eq_true rfl) rfl ?_
  intro p e s m args below meth c ls hC hr hlocks hT G hl
  unfold w_X11_fix at h
  have hl : lv_has ls 6 [(0, .ref (lay 0)), (1, .int a1)] := hl
  refine lv_aload_n hC.1 hC.2.1 dX11_fix_0 rfl (lv_at hl 0 rfl) ?_
  refine lv_iconst (v := 0) hC.1 hC.2.1 dX11_fix_1 (by decide) ?_
  refine rg_put hC hT G (by decide) r_mo k_X11 i_X11_fix_X11 0 (by decide) (wm 1 rfl) rfl rfl (by simp) r_mo (by rw [up2_eq]; rfl) dX11_fix_2 (fun H locs G => ?_)
  refine lv_aload_n hC.1 hC.2.1 dX11_fix_5 rfl (lv_at hl 0 rfl) ?_
  refine lv_iload_n hC.1 hC.2.1 dX11_fix_6 rfl (lv_at hl 1 rfl) ?_
  refine rg_i G (rg_runV (As := [.int a1]) (rest := []) hC hT G (c_X11_isWedding l D cy lay Γ h _) (cwV 1 hC.2.2.2.2 gX11_fix_X11_isWedding rfl rfl rfl hdV_X11_isWedding ⟨Nat.le_of_ble_eq_true rfl, Nat.le_of_ble_eq_true rfl⟩) (rg_recv hT G (by decide) r_mo k_X11) rfl hl.1 rfl (Nat.le_of_ble_eq_true rfl) dX11_fix_7 ⟨Nat.le_of_ble_eq_true rfl, Nat.le_of_ble_eq_true rfl⟩) (fun r2 σ1 H locs h G => ?_)
  (try dsimp only at h)
  refine lv_if_ne (tgt := 19) hC.1 hC.2.1 dX11_fix_10 (by decide) (fun c3 => ?_) (fun c3 => ?_)
  · replace h := h.2 c3
    refine lv_aload_n hC.1 hC.2.1 dX11_fix_19 rfl (lv_at hl 0 rfl) ?_
    refine lv_iload_n hC.1 hC.2.1 dX11_fix_20 rfl (lv_at hl 1 rfl) ?_
    refine rg_i G (rg_runV (As := [.int a1]) (rest := []) hC hT G (c_X11_place l D cy lay Γ h _) (cwV 1 hC.2.2.2.2 gX11_fix_X11_place rfl rfl rfl hdV_X11_place ⟨Nat.le_of_ble_eq_true rfl, Nat.le_of_ble_eq_true rfl⟩) (rg_recv hT G (by decide) r_mo k_X11) rfl hl.1 rfl (Nat.le_of_ble_eq_true rfl) dX11_fix_21 ⟨Nat.le_of_ble_eq_true rfl, Nat.le_of_ble_eq_true rfl⟩) (fun r5 σ4 H locs h G => ?_)
    (try dsimp only at h)
    refine lv_if_ne (tgt := 37) hC.1 hC.2.1 dX11_fix_24 (by decide) (fun c6 => ?_) (fun c6 => ?_)
    · replace h := h.2 c6
      refine lv_iconst (v := (-1)) hC.1 hC.2.1 dX11_fix_37 (by decide) ?_
      exact l_X11_fix_38 a1 hC hr hlocks hT _ _ h _ _ _ G (lv_sub hl [0, 1] rfl)
    · replace h := h.1 c6
      refine lv_aload_n hC.1 hC.2.1 dX11_fix_27 rfl (lv_at hl 0 rfl) ?_
      refine lv_iload_n hC.1 hC.2.1 dX11_fix_28 rfl (lv_at hl 1 rfl) ?_
      refine lv_iconst (v := 0) hC.1 hC.2.1 dX11_fix_29 (by decide) ?_
      refine lv_iconst (v := 0) hC.1 hC.2.1 dX11_fix_30 (by decide) ?_
      refine rg_i G (rg_runV (As := [.int a1, .int 0, .int 0]) (rest := []) hC hT G (c_X11_best l D cy lay Γ h _) (cwV 3 hC.2.2.2.2 gX11_fix_X11_best rfl rfl rfl hdV_X11_best ⟨Nat.le_of_ble_eq_true rfl, Nat.le_of_ble_eq_true rfl⟩) (rg_recv hT G (by decide) r_mo k_X11) rfl hl.1 rfl (Nat.le_of_ble_eq_true rfl) dX11_fix_31 ⟨Nat.le_of_ble_eq_true rfl, Nat.le_of_ble_eq_true rfl⟩) (fun r21 σ20 H locs h G => ?_)
      (try dsimp only at h)
      refine lv_goto (tgt := 38) hC.1 hC.2.1 dX11_fix_34 (by decide) ?_
      exact l_X11_fix_38 a1 hC hr hlocks hT _ _ h _ _ _ G (lv_sub hl [0, 1] rfl)
  · replace h := h.1 c3
    refine lv_aload_n hC.1 hC.2.1 dX11_fix_13 rfl (lv_at hl 0 rfl) ?_
    refine lv_iconst (v := 1) hC.1 hC.2.1 dX11_fix_14 (by decide) ?_
    refine rg_i G (rg_runV (As := [.int 1]) (rest := []) hC hT G (c_X11_refuse l D cy lay Γ h _) (cwV 1 hC.2.2.2.2 gX11_fix_X11_refuse rfl rfl rfl hdV_X11_refuse ⟨Nat.le_of_ble_eq_true rfl, Nat.le_of_ble_eq_true rfl⟩) (rg_recv hT G (by decide) r_mo k_X11) rfl hl.1 rfl (Nat.le_of_ble_eq_true rfl) dX11_fix_15 ⟨Nat.le_of_ble_eq_true rfl, Nat.le_of_ble_eq_true rfl⟩) (fun r23 σ22 H locs h G => ?_)
    (try dsimp only at h)
    refine W.widen (k := 1) (n := 16) (by decide) (by decide) ?_
    exact rg_iret hC hr hlocks G h dX11_fix_18
theorem hdV_X11_fix : yX11_fix.cls = RX11 ∧ yX11_fix.cls ≠ "java/lang/invoke/MethodHandle" ∧ yX11_fix.cls ≠ "java/lang/invoke/VarHandle" ∧ (parseMethodDescriptor yX11_fix.desc).map (fun d => d.parameters.length) = some 1 := by decide +kernel
abbrev rm_X11_tried : Room := { frames := 12, cells := 0, slots := 0, locals := 311 }
theorem i_X11_tried_X11 : ∀ w ∈ wsX110, w ∈ wsX11_tried := fun _ h => List.mem_cons_of_mem _ (List.mem_append_left _ (List.mem_append_left _ (List.mem_append_left _ (List.mem_append_left _ (List.mem_append_right _ h)))))
theorem i_X11_tried_X10 : ∀ w ∈ wsX100, w ∈ wsX11_tried := fun _ h => List.mem_cons_of_mem _ (List.mem_append_left _ (List.mem_append_left _ (List.mem_append_left _ (List.mem_append_right _ h))))
def u_X11_tried_115 (Γ : RG) (post : Int32 → MS → Prop) (af : Nat → Int32) (a2 : Int32) (a3 : Int32) : Nat → MS → Int32 → Int32 → Int32 → Int32 → Prop
  | 0, _, _, _, _, _ => False
  | n + 1, σ, v4, v5, v6, v7 => ((a3 ≤ v7 → post v4 (up2 σ 0 2 v6)) ∧ (¬ a3 ≤ v7 → w_X11_isIn Γ (fun r4 σ3 => ((r4 = 0 → u_X11_tried_115 Γ post af a2 a3 n σ3 v4 v5 v6 (v7 + 1)) ∧ (¬ r4 = 0 → (vp_in v7 3 ∧ w_lw_Jx4a65c_get_915e3 Γ (fun j8 σ7 => ((j8 < 14 ∧ j8 < Γ.2.2.1) ∧ u_X11_tried_115 Γ post af a2 a3 n (up2 (up2 (up2 (up2 σ7 (33 + j8) 7 0) (33 + j8) 8 0) (33 + j8) 9 0) (33 + j8) 11 0) v4 v5 v6 (v7 + 1))) σ3 (af (Int32.toNatClampNeg v7)))))) σ v5 v7))
set_option maxHeartbeats 4000000 in
set_option maxRecDepth 100000 in
theorem l_X11_tried_115 {p : Program} {l : Launch} {e : Env} {s : State} {m : MethodId} {args : Array Value} {below : List Frame} {meth : Method} {c : Code} {D : va_G} {cy : Nat → ClassId} {lay : Nat → Nat} {Γ : RG} {aq : Nat} {post : Int32 → MS → Prop} (af : Nat → Int32) (a2 : Int32) (a3 : Int32) (hC : CallFix p m c cX11_tried 9 s args wsX11_tried RX11) (hr : meth.sig.returnType = some .int) (hlocks : meth.locks = false) (hT : rT D cy lay Γ s) (hra : va_at D vwCl (aq, .inl (cy 0, 3, .inl af)) s.heap ∧ ¬ rA cy lay Γ s.heap.size aq) : ∀ (n : Nat), ∀ (σ : MS) (v4 : Int32) (v5 : Int32) (v6 : Int32) (v7 : Int32), u_X11_tried_115 Γ post af a2 a3 n σ v4 v5 v6 v7 → ∀ (H : Heap) (locs : List Loc) (ls : Array Slot), rG D cy lay Γ tn σ (rA cy lay Γ s.heap.size) s.heap H locs → lv_has ls 9 [(0, .ref (lay 0)), (1, .ref aq), (2, .int a2), (3, .int a3), (4, .int v4), (5, .int v5), (6, .int v6), (7, .int v7)] → W p l e rm_X11_tried s m args below meth c H locs 0 0 (MQ below (va_Qi post (rO D cy lay Γ) (rA cy lay Γ s.heap.size)) args s 0 0 (rA cy lay Γ s.heap.size)) (F0 m 115 ls []) := by
  intro n
  induction n with
  | zero =>
    intro σ v4 v5 v6 v7 h
    exact h.elim
  | succ n ih =>
    intro σ v4 v5 v6 v7 h H locs ls G hl
    rw [u_X11_tried_115] at h
    refine lv_iload hC.1 hC.2.1 dX11_tried_115 (lv_at hl 7 rfl) ?_
    refine lv_iload_n hC.1 hC.2.1 dX11_tried_117 rfl (lv_at hl 3 rfl) ?_
    refine lv_icmp_ge (tgt := 180) hC.1 hC.2.1 dX11_tried_118 (by decide) (fun c2 => ?_) (fun c2 => ?_)
    · replace h := h.1 c2
      refine lv_aload_n hC.1 hC.2.1 dX11_tried_180 rfl (lv_at hl 0 rfl) ?_
      refine lv_iload hC.1 hC.2.1 dX11_tried_181 (lv_at hl 6 rfl) ?_
      refine rg_put hC hT G (by decide) r_mo k_X11 i_X11_tried_X11 2 (by decide) (wm 1 rfl) rfl rfl (by simp) r_mo (by rw [up2_eq]; rfl) dX11_tried_183 (fun H locs G => ?_)
      refine lv_iload hC.1 hC.2.1 dX11_tried_186 (lv_at hl 4 rfl) ?_
      exact rg_iret hC hr hlocks G h dX11_tried_188
    · replace h := h.2 c2
      refine lv_iload hC.1 hC.2.1 dX11_tried_121 (lv_at hl 5 rfl) ?_
      refine lv_iload hC.1 hC.2.1 dX11_tried_123 (lv_at hl 7 rfl) ?_
      refine rg_i G (rg_runS (As := [.int v5, .int v7]) (rest := []) hC hT G (c_X11_isIn l D cy lay Γ h _) (va_cwS 2 hC.2.2.2.2 gX11_tried_X11_isIn rfl rfl rfl hdS_X11_isIn ⟨Nat.le_of_ble_eq_true rfl, Nat.le_of_ble_eq_true rfl⟩) rfl hl.1 rfl (Nat.le_of_ble_eq_true rfl) dX11_tried_125 ⟨Nat.le_of_ble_eq_true rfl, Nat.le_of_ble_eq_true rfl⟩) (fun r4 σ3 H locs h G => ?_)
      (try dsimp only at h)
      refine lv_if_ne (tgt := 134) hC.1 hC.2.1 dX11_tried_128 (by decide) (fun c5 => ?_) (fun c5 => ?_)
      · replace h := h.2 c5
        refine lv_aload_n hC.1 hC.2.1 dX11_tried_134 rfl (lv_at hl 0 rfl) ?_
        refine rg_get hC hT G (by decide) r_mo k_X11 i_X11_tried_X11 5 (by decide) (wm 3 rfl) rfl dX11_tried_135 ?_
        refine lv_aload_n hC.1 hC.2.1 dX11_tried_138 rfl (lv_at hl 1 rfl) ?_
        refine lv_iload hC.1 hC.2.1 dX11_tried_139 (lv_at hl 7 rfl) ?_
        obtain ⟨hn6, h⟩ := h
        refine rg_raload hC hT G hra hn6 dX11_tried_141 ?_
        refine rg_r (f := fun i => lay (33 + i)) G (rg_runV (As := [.int (af (Int32.toNatClampNeg v7))]) (rest := []) hC hT G (c_lw_Jx4a65c_get_915e3 l D cy lay Γ h _) (cwV 1 hC.2.2.2.2 gX11_tried_Jx4a65c_get_915e3 rfl rfl rfl hdV_Jx4a65c_get_915e3 ⟨Nat.le_of_ble_eq_true rfl, Nat.le_of_ble_eq_true rfl⟩) (rg_recv hT G (by decide) r_lw k_AL) rfl hl.1 rfl (Nat.le_of_ble_eq_true rfl) dX11_tried_142 ⟨Nat.le_of_ble_eq_true rfl, Nat.le_of_ble_eq_true rfl⟩) (fun j8 σ7 H locs h G => ?_)
        (try dsimp only at h)
        obtain ⟨hj9, h⟩ := h
        refine rg_cast hC hT k_X10 (wm 4 rfl) (rg_recv hT G (rk_wd hj9) (r_wd hj9) k_X10) dX11_tried_145 ?_
        refine lv_astore (lv' := [(8, .ref (lay (33 + j8))), (0, .ref (lay 0)), (1, .ref aq), (2, .int a2), (3, .int a3), (4, .int v4), (5, .int v5), (6, .int v6), (7, .int v7)]) hC.1 hC.2.1 dX11_tried_148 hl (by decide) rfl (fun ls hl => ?_)
        refine lv_aload hC.1 hC.2.1 dX11_tried_150 (lv_at hl 0 rfl) ?_
        refine lv_iconst (v := 0) hC.1 hC.2.1 dX11_tried_152 (by decide) ?_
        refine rg_putN hC hT G (rk_wd hj9) (r_wd hj9) k_X10 i_X11_tried_X10 7 (by decide) 17 rfl rfl rfl (by simp) (r_wd hj9) (by rw [up2_eq]; rfl) dX11_tried_153 (fun H locs G => ?_)
        refine lv_aload hC.1 hC.2.1 dX11_tried_156 (lv_at hl 0 rfl) ?_
        refine lv_iconst (v := 0) hC.1 hC.2.1 dX11_tried_158 (by decide) ?_
        refine rg_putN hC hT G (rk_wd hj9) (r_wd hj9) k_X10 i_X11_tried_X10 8 (by decide) 18 rfl rfl rfl (by simp) (r_wd hj9) (by rw [up2_eq]; rfl) dX11_tried_159 (fun H locs G => ?_)
        refine lv_aload hC.1 hC.2.1 dX11_tried_162 (lv_at hl 0 rfl) ?_
        refine lv_iconst (v := 0) hC.1 hC.2.1 dX11_tried_164 (by decide) ?_
        refine rg_putN hC hT G (rk_wd hj9) (r_wd hj9) k_X10 i_X11_tried_X10 9 (by decide) 19 rfl rfl rfl (by simp) (r_wd hj9) (by rw [up2_eq]; rfl) dX11_tried_165 (fun H locs G => ?_)
        refine lv_aload hC.1 hC.2.1 dX11_tried_168 (lv_at hl 0 rfl) ?_
        refine lv_iconst (v := 0) hC.1 hC.2.1 dX11_tried_170 (by decide) ?_
        refine rg_putN hC hT G (rk_wd hj9) (r_wd hj9) k_X10 i_X11_tried_X10 11 (by decide) 21 rfl rfl rfl (by simp) (r_wd hj9) (by rw [up2_eq]; rfl) dX11_tried_171 (fun H locs G => ?_)
        refine lv_iinc (v := v7 + 1) (lv' := [(7, .int (v7 + 1)), (8, .ref (lay (33 + j8))), (0, .ref (lay 0)), (1, .ref aq), (2, .int a2), (3, .int a3), (4, .int v4), (5, .int v5), (6, .int v6)]) hC.1 hC.2.1 dX11_tried_174 hl (k := 8) rfl rfl (by decide) rfl (fun ls hl => ?_)
        refine lv_goto (tgt := 115) hC.1 hC.2.1 dX11_tried_177 (by decide) ?_
        exact ih _ _ _ _ _ h _ _ _ G (lv_sub hl [2, 3, 4, 5, 6, 7, 8, 0] rfl)
      · replace h := h.1 c5
        refine lv_goto (tgt := 174) hC.1 hC.2.1 dX11_tried_131 (by decide) ?_
        refine lv_iinc (v := v7 + 1) (lv' := [(7, .int (v7 + 1)), (0, .ref (lay 0)), (1, .ref aq), (2, .int a2), (3, .int a3), (4, .int v4), (5, .int v5), (6, .int v6)]) hC.1 hC.2.1 dX11_tried_174 hl (k := 7) rfl rfl (by decide) rfl (fun ls hl => ?_)
        refine lv_goto (tgt := 115) hC.1 hC.2.1 dX11_tried_177 (by decide) ?_
        exact ih _ _ _ _ _ h _ _ _ G (lv_sub hl [1, 2, 3, 4, 5, 6, 7, 0] rfl)
def u_X11_tried_56 (Γ : RG) (post : Int32 → MS → Prop) (af : Nat → Int32) (a2 : Int32) (a3 : Int32) (K15 : MS → Int32 → Int32 → Int32 → Int32 → Prop) (σ : MS) (v4 : Int32) (v5 : Int32) (v6 : Int32) (v7 : Int32) (v8 : Int32) : Prop := ((v8 = (-1) → K15 σ v4 v5 v6 (v7 + 1)) ∧ (¬ v8 = (-1) → (vp_in v7 3 ∧ w_X11_fixNow Γ (fun σ19 => (vp_in v7 3 ∧ w_lw_Jx4a65c_get_915e3 Γ (fun j22 σ21 => ((j22 < 14 ∧ j22 < Γ.2.2.1) ∧ K15 σ21 (v4 + (σ21 (33 + j22) 9)) (v5 ||| (1 <<< (v7 &&& 31))) v6 (v7 + 1))) σ19 (af (Int32.toNatClampNeg v7)))) σ (af (Int32.toNatClampNeg v7)) v8)))
set_option maxHeartbeats 4000000 in
set_option maxRecDepth 100000 in
theorem l_X11_tried_56 {p : Program} {l : Launch} {e : Env} {s : State} {m : MethodId} {args : Array Value} {below : List Frame} {meth : Method} {c : Code} {D : va_G} {cy : Nat → ClassId} {lay : Nat → Nat} {Γ : RG} {aq : Nat} {post : Int32 → MS → Prop} (af : Nat → Int32) (a2 : Int32) (a3 : Int32) (K15 : MS → Int32 → Int32 → Int32 → Int32 → Prop) (hC : CallFix p m c cX11_tried 9 s args wsX11_tried RX11) (hr : meth.sig.returnType = some .int) (hlocks : meth.locks = false) (hT : rT D cy lay Γ s) (hra : va_at D vwCl (aq, .inl (cy 0, 3, .inl af)) s.heap ∧ ¬ rA cy lay Γ s.heap.size aq) (hK15 : ∀ (σ : MS) (v4 : Int32) (v5 : Int32) (v6 : Int32) (v7 : Int32), K15 σ v4 v5 v6 v7 → ∀ (H : Heap) (locs : List Loc) (ls : Array Slot), rG D cy lay Γ tn σ (rA cy lay Γ s.heap.size) s.heap H locs → lv_has ls 9 [(0, .ref (lay 0)), (1, .ref aq), (2, .int a2), (3, .int a3), (4, .int v4), (5, .int v5), (6, .int v6), (7, .int v7)] → W p l e rm_X11_tried s m args below meth c H locs 0 0 (MQ below (va_Qi post (rO D cy lay Γ) (rA cy lay Γ s.heap.size)) args s 0 0 (rA cy lay Γ s.heap.size)) (F0 m 15 ls [])) : ∀ (σ : MS) (v4 : Int32) (v5 : Int32) (v6 : Int32) (v7 : Int32) (v8 : Int32), u_X11_tried_56 Γ post af a2 a3 K15 σ v4 v5 v6 v7 v8 → ∀ (H : Heap) (locs : List Loc) (ls : Array Slot), rG D cy lay Γ tn σ (rA cy lay Γ s.heap.size) s.heap H locs → lv_has ls 9 [(0, .ref (lay 0)), (1, .ref aq), (2, .int a2), (3, .int a3), (4, .int v4), (5, .int v5), (6, .int v6), (7, .int v7), (8, .int v8)] → W p l e rm_X11_tried s m args below meth c H locs 0 0 (MQ below (va_Qi post (rO D cy lay Γ) (rA cy lay Γ s.heap.size)) args s 0 0 (rA cy lay Γ s.heap.size)) (F0 m 56 ls []) := by
  intro σ v4 v5 v6 v7 v8 h H locs ls G hl
  unfold u_X11_tried_56 at h
  refine lv_iload hC.1 hC.2.1 dX11_tried_56 (lv_at hl 8 rfl) ?_
  refine lv_iconst (v := (-1)) hC.1 hC.2.1 dX11_tried_58 (by decide) ?_
  refine lv_icmp_ne (tgt := 65) hC.1 hC.2.1 dX11_tried_59 (by decide) (fun c17 => ?_) (fun c17 => ?_)
  · replace h := h.2 c17
    refine lv_aload_n hC.1 hC.2.1 dX11_tried_65 rfl (lv_at hl 0 rfl) ?_
    refine lv_aload_n hC.1 hC.2.1 dX11_tried_66 rfl (lv_at hl 1 rfl) ?_
    refine lv_iload hC.1 hC.2.1 dX11_tried_67 (lv_at hl 7 rfl) ?_
    obtain ⟨hn18, h⟩ := h
    refine rg_raload hC hT G hra hn18 dX11_tried_69 ?_
    refine lv_iload hC.1 hC.2.1 dX11_tried_70 (lv_at hl 8 rfl) ?_
    refine rg_v G (rg_runV (As := [.int (af (Int32.toNatClampNeg v7)), .int v8]) (rest := []) hC hT G (c_X11_fixNow l D cy lay Γ h _) (cwV 2 hC.2.2.2.2 gX11_tried_X11_fixNow rfl rfl rfl hdV_X11_fixNow ⟨Nat.le_of_ble_eq_true rfl, Nat.le_of_ble_eq_true rfl⟩) (rg_recv hT G (by decide) r_mo k_X11) rfl hl.1 rfl (Nat.le_of_ble_eq_true rfl) dX11_tried_72 ⟨Nat.le_of_ble_eq_true rfl, Nat.le_of_ble_eq_true rfl⟩) (fun σ19 H locs h G => ?_)
    (try dsimp only at h)
    refine lv_iload hC.1 hC.2.1 dX11_tried_75 (lv_at hl 5 rfl) ?_
    refine lv_iconst (v := 1) hC.1 hC.2.1 dX11_tried_77 (by decide) ?_
    refine lv_iload hC.1 hC.2.1 dX11_tried_78 (lv_at hl 7 rfl) ?_
    refine lv_ishl hC.1 hC.2.1 dX11_tried_80 ?_
    refine lv_ior hC.1 hC.2.1 dX11_tried_81 ?_
    refine lv_istore (lv' := [(5, .int (v5 ||| (1 <<< (v7 &&& 31)))), (0, .ref (lay 0)), (1, .ref aq), (2, .int a2), (3, .int a3), (4, .int v4), (6, .int v6), (7, .int v7), (8, .int v8)]) hC.1 hC.2.1 dX11_tried_82 hl (by decide) rfl (fun ls hl => ?_)
    refine lv_iload hC.1 hC.2.1 dX11_tried_84 (lv_at hl 5 rfl) ?_
    refine lv_aload_n hC.1 hC.2.1 dX11_tried_86 rfl (lv_at hl 1 rfl) ?_
    refine rg_get hC hT G (by decide) r_mo k_X11 i_X11_tried_X11 5 (by decide) (wm 3 rfl) rfl dX11_tried_87 ?_
    refine lv_aload_n hC.1 hC.2.1 dX11_tried_90 rfl (lv_at hl 2 rfl) ?_
    refine lv_iload hC.1 hC.2.1 dX11_tried_91 (lv_at hl 7 rfl) ?_
    obtain ⟨hn20, h⟩ := h
    refine rg_raload hC hT G hra hn20 dX11_tried_93 ?_
    refine rg_r (f := fun i => lay (33 + i)) G (rg_runV (As := [.int (af (Int32.toNatClampNeg v7))]) (rest := [.int v4]) hC hT G (c_lw_Jx4a65c_get_915e3 l D cy lay Γ h _) (cwV 1 hC.2.2.2.2 gX11_tried_Jx4a65c_get_915e3 rfl rfl rfl hdV_Jx4a65c_get_915e3 ⟨Nat.le_of_ble_eq_true rfl, Nat.le_of_ble_eq_true rfl⟩) (rg_recv hT G (by decide) r_lw k_AL) rfl hl.1 rfl (Nat.le_of_ble_eq_true rfl) dX11_tried_94 ⟨Nat.le_of_ble_eq_true rfl, Nat.le_of_ble_eq_true rfl⟩) (fun j22 σ21 H locs h G => ?_)
    (try dsimp only at h)
    obtain ⟨hj23, h⟩ := h
    refine rg_cast hC hT k_X10 (wm 4 rfl) (rg_recv hT G (rk_wd hj23) (r_wd hj23) k_X10) dX11_tried_97 ?_
    refine rg_getN hC hT G (rk_wd hj23) (r_wd hj23) k_X10 i_X11_tried_X10 9 (by decide) 19 rfl rfl dX11_tried_100 ?_
    refine lv_iadd hC.1 hC.2.1 dX11_tried_103 ?_
    refine lv_istore (lv' := [(4, .int (v4 + (σ21 (33 + j22) 9))), (5, .int (v5 ||| (1 <<< (v7 &&& 31)))), (0, .ref (lay 0)), (1, .ref aq), (2, .int a2), (3, .int a3), (6, .int v6), (7, .int v7), (8, .int v8)]) hC.1 hC.2.1 dX11_tried_104 hl (by decide) rfl (fun ls hl => ?_)
    refine lv_iinc (v := v7 + 1) (lv' := [(7, .int (v7 + 1)), (4, .int (v4 + (σ21 (33 + j22) 9))), (5, .int (v5 ||| (1 <<< (v7 &&& 31)))), (0, .ref (lay 0)), (1, .ref aq), (2, .int a2), (3, .int a3), (6, .int v6), (8, .int v8)]) hC.1 hC.2.1 dX11_tried_106 hl (k := 7) rfl rfl (by decide) rfl (fun ls hl => ?_)
    refine lv_goto (tgt := 15) hC.1 hC.2.1 dX11_tried_109 (by decide) ?_
    exact hK15 _ _ _ _ _ h _ _ _ G (lv_sub hl [3, 4, 5, 6, 1, 2, 7, 0] rfl)
  · replace h := h.1 c17
    refine lv_goto (tgt := 106) hC.1 hC.2.1 dX11_tried_62 (by decide) ?_
    refine lv_iinc (v := v7 + 1) (lv' := [(7, .int (v7 + 1)), (0, .ref (lay 0)), (1, .ref aq), (2, .int a2), (3, .int a3), (4, .int v4), (5, .int v5), (6, .int v6), (8, .int v8)]) hC.1 hC.2.1 dX11_tried_106 hl (k := 7) rfl rfl (by decide) rfl (fun ls hl => ?_)
    refine lv_goto (tgt := 15) hC.1 hC.2.1 dX11_tried_109 (by decide) ?_
    exact hK15 _ _ _ _ _ h _ _ _ G (lv_sub hl [1, 2, 3, 4, 5, 6, 7, 0] rfl)
def u_X11_tried_15 (Γ : RG) (post : Int32 → MS → Prop) (af : Nat → Int32) (a2 : Int32) (a3 : Int32) : Nat → MS → Int32 → Int32 → Int32 → Int32 → Prop
  | 0, _, _, _, _, _ => False
  | n + 1, σ, v4, v5, v6, v7 => ((a3 ≤ v7 → (∃ k, u_X11_tried_115 Γ post af a2 a3 k σ v4 v5 v6 0)) ∧ (¬ a3 ≤ v7 → w_X11_isIn Γ (fun r11 σ10 => ((r11 = 0 → u_X11_tried_15 Γ post af a2 a3 n σ10 v4 v5 v6 (v7 + 1)) ∧ (¬ r11 = 0 → (vp_in v7 3 ∧ w_X11_best Γ (fun r15 σ14 => ((r15 = (-1) → u_X11_tried_56 Γ post af a2 a3 (fun σ w0 w1 w2 w3 => u_X11_tried_15 Γ post af a2 a3 n σ w0 w1 w2 w3) σ14 (-999999) v5 v6 v7 r15) ∧ (¬ r15 = (-1) → u_X11_tried_56 Γ post af a2 a3 (fun σ w0 w1 w2 w3 => u_X11_tried_15 Γ post af a2 a3 n σ w0 w1 w2 w3) σ14 v4 v5 v6 v7 r15))) σ10 (af (Int32.toNatClampNeg v7)) 0 0)))) σ a2 v7))
set_option maxHeartbeats 4000000 in
set_option maxRecDepth 100000 in
theorem l_X11_tried_15 {p : Program} {l : Launch} {e : Env} {s : State} {m : MethodId} {args : Array Value} {below : List Frame} {meth : Method} {c : Code} {D : va_G} {cy : Nat → ClassId} {lay : Nat → Nat} {Γ : RG} {aq : Nat} {post : Int32 → MS → Prop} (af : Nat → Int32) (a2 : Int32) (a3 : Int32) (hC : CallFix p m c cX11_tried 9 s args wsX11_tried RX11) (hr : meth.sig.returnType = some .int) (hlocks : meth.locks = false) (hT : rT D cy lay Γ s) (hra : va_at D vwCl (aq, .inl (cy 0, 3, .inl af)) s.heap ∧ ¬ rA cy lay Γ s.heap.size aq) : ∀ (n : Nat), ∀ (σ : MS) (v4 : Int32) (v5 : Int32) (v6 : Int32) (v7 : Int32), u_X11_tried_15 Γ post af a2 a3 n σ v4 v5 v6 v7 → ∀ (H : Heap) (locs : List Loc) (ls : Array Slot), rG D cy lay Γ tn σ (rA cy lay Γ s.heap.size) s.heap H locs → lv_has ls 9 [(0, .ref (lay 0)), (1, .ref aq), (2, .int a2), (3, .int a3), (4, .int v4), (5, .int v5), (6, .int v6), (7, .int v7)] → W p l e rm_X11_tried s m args below meth c H locs 0 0 (MQ below (va_Qi post (rO D cy lay Γ) (rA cy lay Γ s.heap.size)) args s 0 0 (rA cy lay Γ s.heap.size)) (F0 m 15 ls []) := by
  intro n
  induction n with
  | zero =>
    intro σ v4 v5 v6 v7 h
    exact h.elim
  | succ n ih =>
    intro σ v4 v5 v6 v7 h H locs ls G hl
    rw [u_X11_tried_15] at h
    refine lv_iload hC.1 hC.2.1 dX11_tried_15 (lv_at hl 7 rfl) ?_
    refine lv_iload_n hC.1 hC.2.1 dX11_tried_17 rfl (lv_at hl 3 rfl) ?_
    refine lv_icmp_ge (tgt := 112) hC.1 hC.2.1 dX11_tried_18 (by decide) (fun c1 => ?_) (fun c1 => ?_)
    · replace h := h.1 c1
      refine lv_iconst (v := 0) hC.1 hC.2.1 dX11_tried_112 (by decide) ?_
      refine lv_istore (lv' := [(7, .int 0), (0, .ref (lay 0)), (1, .ref aq), (2, .int a2), (3, .int a3), (4, .int v4), (5, .int v5), (6, .int v6)]) hC.1 hC.2.1 dX11_tried_113 hl (by decide) rfl (fun ls hl => ?_)
      obtain ⟨n1, h⟩ := h
      exact l_X11_tried_115 af a2 a3 hC hr hlocks hT hra n1 _ _ _ _ _ h _ _ _ G (lv_sub hl [1, 2, 3, 4, 5, 6, 7, 0] rfl)
    · replace h := h.2 c1
      refine lv_iload_n hC.1 hC.2.1 dX11_tried_21 rfl (lv_at hl 2 rfl) ?_
      refine lv_iload hC.1 hC.2.1 dX11_tried_22 (lv_at hl 7 rfl) ?_
      refine rg_i G (rg_runS (As := [.int a2, .int v7]) (rest := []) hC hT G (c_X11_isIn l D cy lay Γ h _) (va_cwS 2 hC.2.2.2.2 gX11_tried_X11_isIn rfl rfl rfl hdS_X11_isIn ⟨Nat.le_of_ble_eq_true rfl, Nat.le_of_ble_eq_true rfl⟩) rfl hl.1 rfl (Nat.le_of_ble_eq_true rfl) dX11_tried_24 ⟨Nat.le_of_ble_eq_true rfl, Nat.le_of_ble_eq_true rfl⟩) (fun r11 σ10 H locs h G => ?_)
      (try dsimp only at h)
      refine lv_if_ne (tgt := 33) hC.1 hC.2.1 dX11_tried_27 (by decide) (fun c12 => ?_) (fun c12 => ?_)
      · replace h := h.2 c12
        refine lv_aload_n hC.1 hC.2.1 dX11_tried_33 rfl (lv_at hl 0 rfl) ?_
        refine lv_aload_n hC.1 hC.2.1 dX11_tried_34 rfl (lv_at hl 1 rfl) ?_
        refine lv_iload hC.1 hC.2.1 dX11_tried_35 (lv_at hl 7 rfl) ?_
        obtain ⟨hn13, h⟩ := h
        refine rg_raload hC hT G hra hn13 dX11_tried_37 ?_
        refine lv_iconst (v := 0) hC.1 hC.2.1 dX11_tried_38 (by decide) ?_
        refine lv_iconst (v := 0) hC.1 hC.2.1 dX11_tried_39 (by decide) ?_
        refine rg_i G (rg_runV (As := [.int (af (Int32.toNatClampNeg v7)), .int 0, .int 0]) (rest := []) hC hT G (c_X11_best l D cy lay Γ h _) (cwV 3 hC.2.2.2.2 gX11_tried_X11_best rfl rfl rfl hdV_X11_best ⟨Nat.le_of_ble_eq_true rfl, Nat.le_of_ble_eq_true rfl⟩) (rg_recv hT G (by decide) r_mo k_X11) rfl hl.1 rfl (Nat.le_of_ble_eq_true rfl) dX11_tried_40 ⟨Nat.le_of_ble_eq_true rfl, Nat.le_of_ble_eq_true rfl⟩) (fun r15 σ14 H locs h G => ?_)
        (try dsimp only at h)
        refine lv_istore (lv' := [(8, .int r15), (0, .ref (lay 0)), (1, .ref aq), (2, .int a2), (3, .int a3), (4, .int v4), (5, .int v5), (6, .int v6), (7, .int v7)]) hC.1 hC.2.1 dX11_tried_43 hl (by decide) rfl (fun ls hl => ?_)
        refine lv_iload hC.1 hC.2.1 dX11_tried_45 (lv_at hl 0 rfl) ?_
        refine lv_iconst (v := (-1)) hC.1 hC.2.1 dX11_tried_47 (by decide) ?_
        refine lv_icmp_ne (tgt := 56) hC.1 hC.2.1 dX11_tried_48 (by decide) (fun c16 => ?_) (fun c16 => ?_)
        · replace h := h.2 c16
          exact l_X11_tried_56 af a2 a3 (fun σ w0 w1 w2 w3 => u_X11_tried_15 Γ post af a2 a3 n σ w0 w1 w2 w3) hC hr hlocks hT hra ih _ _ _ _ _ _ h _ _ _ G (lv_sub hl [1, 2, 3, 4, 5, 6, 7, 8, 0] rfl)
        · replace h := h.1 c16
          refine lv_ldcw (v := (-999999)) hC.1 hC.2.1 hC.2.2.2.1 (hC.2.2.2.2 _ (wm 2 rfl)) dX11_tried_51 ?_
          refine lv_istore (lv' := [(4, .int (-999999)), (8, .int r15), (0, .ref (lay 0)), (1, .ref aq), (2, .int a2), (3, .int a3), (5, .int v5), (6, .int v6), (7, .int v7)]) hC.1 hC.2.1 dX11_tried_54 hl (by decide) rfl (fun ls hl => ?_)
          exact l_X11_tried_56 af a2 a3 (fun σ w0 w1 w2 w3 => u_X11_tried_15 Γ post af a2 a3 n σ w0 w1 w2 w3) hC hr hlocks hT hra ih _ _ _ _ _ _ h _ _ _ G (lv_sub hl [2, 3, 4, 5, 0, 6, 7, 8, 1] rfl)
      · replace h := h.1 c12
        refine lv_goto (tgt := 106) hC.1 hC.2.1 dX11_tried_30 (by decide) ?_
        refine lv_iinc (v := v7 + 1) (lv' := [(7, .int (v7 + 1)), (0, .ref (lay 0)), (1, .ref aq), (2, .int a2), (3, .int a3), (4, .int v4), (5, .int v5), (6, .int v6)]) hC.1 hC.2.1 dX11_tried_106 hl (k := 7) rfl rfl (by decide) rfl (fun ls hl => ?_)
        refine lv_goto (tgt := 15) hC.1 hC.2.1 dX11_tried_109 (by decide) ?_
        exact ih _ _ _ _ _ h _ _ _ G (lv_sub hl [1, 2, 3, 4, 5, 6, 7, 0] rfl)
def w_X11_tried (Γ : RG) (post : Int32 → MS → Prop) (σ : MS) (af : Nat → Int32) (a2 : Int32) (a3 : Int32) : Prop := (∃ k, u_X11_tried_15 Γ post af a2 a3 k σ 0 0 (σ 0 2) 0)
set_option maxHeartbeats 4000000 in
set_option maxRecDepth 100000 in
theorem c_X11_tried (l : Launch) (D : va_G) (cy : Nat → ClassId) (lay : Nat → Nat) (Γ : RG) {aq : Nat} {σ : MS} {post : Int32 → MS → Prop} {af : Nat → Int32} {a2 : Int32} {a3 : Int32} (h : w_X11_tried Γ post σ af a2 a3) (sz : Nat) : Met l yX11_tried wsX11_tried rm_X11_tried (va_Pc [.ref (lay 0), .ref aq, .int a2, .int a3] (rIa D cy lay Γ aq af σ sz)) (va_Qi post (rO D cy lay Γ) (rA cy lay Γ sz)) 0 0 (rA cy lay Γ sz) := by
  refine rg_ofA (cc := cX11_tried) (maxL := 9) (ret := some .int) (own := RX11) (Qc := fun sz => va_Qi post (rO D cy lay Γ) (rA cy lay Γ sz)) (by decide) rfl (Nat.le_of_ble_eq_true rfl) rfl ?_
  intro p e s m args below meth c ls hC hr hlocks hT hra G hl
  unfold w_X11_tried at h
  have hl : lv_has ls 9 [(0, .ref (lay 0)), (1, .ref aq), (2, .int a2), (3, .int a3)] := hl
  refine lv_iconst (v := 0) hC.1 hC.2.1 dX11_tried_0 (by decide) ?_
  refine lv_istore (lv' := [(4, .int 0), (0, .ref (lay 0)), (1, .ref aq), (2, .int a2), (3, .int a3)]) hC.1 hC.2.1 dX11_tried_1 hl (by decide) rfl (fun ls hl => ?_)
  refine lv_iconst (v := 0) hC.1 hC.2.1 dX11_tried_3 (by decide) ?_
  refine lv_istore (lv' := [(5, .int 0), (4, .int 0), (0, .ref (lay 0)), (1, .ref aq), (2, .int a2), (3, .int a3)]) hC.1 hC.2.1 dX11_tried_4 hl (by decide) rfl (fun ls hl => ?_)
  refine lv_aload_n hC.1 hC.2.1 dX11_tried_6 rfl (lv_at hl 2 rfl) ?_
  refine rg_get hC hT G (by decide) r_mo k_X11 i_X11_tried_X11 2 (by decide) (wm 1 rfl) rfl dX11_tried_7 ?_
  refine lv_istore (lv' := [(6, .int (σ 0 2)), (5, .int 0), (4, .int 0), (0, .ref (lay 0)), (1, .ref aq), (2, .int a2), (3, .int a3)]) hC.1 hC.2.1 dX11_tried_10 hl (by decide) rfl (fun ls hl => ?_)
  refine lv_iconst (v := 0) hC.1 hC.2.1 dX11_tried_12 (by decide) ?_
  refine lv_istore (lv' := [(7, .int 0), (6, .int (σ 0 2)), (5, .int 0), (4, .int 0), (0, .ref (lay 0)), (1, .ref aq), (2, .int a2), (3, .int a3)]) hC.1 hC.2.1 dX11_tried_13 hl (by decide) rfl (fun ls hl => ?_)
  obtain ⟨n1, h⟩ := h
  exact l_X11_tried_15 af a2 a3 hC hr hlocks hT hra n1 _ _ _ _ _ h _ _ _ G (lv_sub hl [4, 5, 6, 7, 3, 2, 1, 0] rfl)
theorem hdV_X11_tried : yX11_tried.cls = RX11 ∧ yX11_tried.cls ≠ "java/lang/invoke/MethodHandle" ∧ yX11_tried.cls ≠ "java/lang/invoke/VarHandle" ∧ (parseMethodDescriptor yX11_tried.desc).map (fun d => d.parameters.length) = some 3 := by decide +kernel
abbrev rm_X11_plan : Room := { frames := 13, cells := 1, slots := 16, locals := 339 }
theorem i_X11_plan_X11 : ∀ w ∈ wsX110, w ∈ wsX11_plan := fun _ h => List.mem_cons_of_mem _ (List.mem_append_left _ (List.mem_append_left _ (List.mem_append_left _ (List.mem_append_left _ (List.mem_append_right _ h)))))
theorem i_X11_plan_X10 : ∀ w ∈ wsX100, w ∈ wsX11_plan := fun _ h => List.mem_cons_of_mem _ (List.mem_append_left _ (List.mem_append_left _ (List.mem_append_left _ (List.mem_append_right _ h))))
def u_X11_plan_155 (Γ : RG) (post : Int32 → MS → Prop) (a1 : Int32) (a2 : Int32) : Nat → MS → Int32 → Int32 → Int32 → Int32 → Int32 → Prop
  | 0, _, _, _, _, _, _ => False
  | n + 1, σ, v4, v5, v6, v7, v8 => ((v4 ≤ v8 → ((a2 = 0 → post v6 σ) ∧ (¬ a2 = 0 → post v7 σ))) ∧ (¬ v4 ≤ v8 → w_X11_isIn Γ (fun r11 σ10 => ((r11 = 0 → u_X11_plan_155 Γ post a1 a2 n (mrg σ10 σ) v4 v5 v6 (v7 ||| 0) (v8 + 1)) ∧ (¬ r11 = 0 → (vp_in v8 3 ∧ u_X11_plan_155 Γ post a1 a2 n (mrg σ10 σ) v4 v5 v6 (v7 ||| (1 <<< (((mrg σ10 σ) 64 (Int32.toNatClampNeg v8)) &&& 31))) (v8 + 1))))) σ v5 v8))
set_option maxHeartbeats 4000000 in
set_option maxRecDepth 100000 in
theorem l_X11_plan_155 {p : Program} {l : Launch} {e : Env} {s : State} {m : MethodId} {args : Array Value} {below : List Frame} {meth : Method} {c : Code} {D : va_G} {cy : Nat → ClassId} {lay : Nat → Nat} {Γ : RG} {post : Int32 → MS → Prop} (a1 : Int32) (a2 : Int32) (hC : CallFix p m c cX11_plan 9 s args wsX11_plan RX11) (hr : meth.sig.returnType = some .int) (hlocks : meth.locks = false) (hT : rT D cy lay Γ s) : ∀ (n : Nat), ∀ (σ : MS) (v4 : Int32) (v5 : Int32) (v6 : Int32) (v7 : Int32) (v8 : Int32), u_X11_plan_155 Γ post a1 a2 n σ v4 v5 v6 v7 v8 → ∀ (H : Heap) (locs : List Loc) (ls : Array Slot), rG D cy lay Γ (gU tn 64 (some (0, 3))) σ (rA cy lay Γ s.heap.size) s.heap H locs → lv_has ls 9 [(0, .ref (lay 0)), (1, .int a1), (2, .int a2), (3, .ref (lay 64)), (4, .int v4), (5, .int v5), (6, .int v6), (7, .int v7), (8, .int v8)] → W p l e rm_X11_plan s m args below meth c H locs 1 16 (MQ below (va_Qi post (rO D cy lay Γ) (rA cy lay Γ s.heap.size)) args s 1 16 (rA cy lay Γ s.heap.size)) (F0 m 155 ls []) := by
  intro n
  induction n with
  | zero =>
    intro σ v4 v5 v6 v7 v8 h
    exact h.elim
  | succ n ih =>
    intro σ v4 v5 v6 v7 v8 h H locs ls G hl
    rw [u_X11_plan_155] at h
    refine lv_iload hC.1 hC.2.1 dX11_plan_155 (lv_at hl 8 rfl) ?_
    refine lv_iload hC.1 hC.2.1 dX11_plan_157 (lv_at hl 4 rfl) ?_
    refine lv_icmp_ge (tgt := 193) hC.1 hC.2.1 dX11_plan_159 (by decide) (fun c8 => ?_) (fun c8 => ?_)
    · replace h := h.1 c8
      refine lv_iload_n hC.1 hC.2.1 dX11_plan_193 rfl (lv_at hl 2 rfl) ?_
      refine lv_if_eq (tgt := 202) hC.1 hC.2.1 dX11_plan_194 (by decide) (fun c9 => ?_) (fun c9 => ?_)
      · replace h := h.1 c9
        refine lv_iload hC.1 hC.2.1 dX11_plan_202 (lv_at hl 6 rfl) ?_
        refine W.widen (k := 1) (n := 16) (by decide) (by decide) ?_
        exact rg_iret hC hr hlocks (rG_drop G hT.2.2.2) h dX11_plan_204
      · replace h := h.2 c9
        refine lv_iload hC.1 hC.2.1 dX11_plan_197 (lv_at hl 7 rfl) ?_
        refine lv_goto (tgt := 204) hC.1 hC.2.1 dX11_plan_199 (by decide) ?_
        refine W.widen (k := 1) (n := 16) (by decide) (by decide) ?_
        exact rg_iret hC hr hlocks (rG_drop G hT.2.2.2) h dX11_plan_204
    · replace h := h.2 c8
      refine lv_iload hC.1 hC.2.1 dX11_plan_162 (lv_at hl 7 rfl) ?_
      refine lv_iload hC.1 hC.2.1 dX11_plan_164 (lv_at hl 5 rfl) ?_
      refine lv_iload hC.1 hC.2.1 dX11_plan_166 (lv_at hl 8 rfl) ?_
      refine rg_iM hT G (rg_runS (As := [.int v5, .int v8]) (rest := [.int v7]) hC hT (rG_drop G hT.2.2.2) (c_X11_isIn l D cy lay Γ h _) (va_cwS 2 hC.2.2.2.2 gX11_plan_X11_isIn rfl rfl rfl hdS_X11_isIn ⟨Nat.le_of_ble_eq_true rfl, Nat.le_of_ble_eq_true rfl⟩) rfl hl.1 rfl (Nat.le_of_ble_eq_true rfl) dX11_plan_168 ⟨Nat.le_of_ble_eq_true rfl, Nat.le_of_ble_eq_true rfl⟩) (fun r11 σ10 H locs h G => ?_)
      (try dsimp only at h)
      refine lv_if_eq (tgt := 183) hC.1 hC.2.1 dX11_plan_171 (by decide) (fun c12 => ?_) (fun c12 => ?_)
      · replace h := h.1 c12
        refine lv_iconst (v := 0) hC.1 hC.2.1 dX11_plan_183 (by decide) ?_
        refine lv_ior hC.1 hC.2.1 dX11_plan_184 ?_
        refine lv_istore (lv' := [(7, .int (v7 ||| 0)), (0, .ref (lay 0)), (1, .int a1), (2, .int a2), (3, .ref (lay 64)), (4, .int v4), (5, .int v5), (6, .int v6), (8, .int v8)]) hC.1 hC.2.1 dX11_plan_185 hl (by decide) rfl (fun ls hl => ?_)
        refine lv_iinc (v := v8 + 1) (lv' := [(8, .int (v8 + 1)), (7, .int (v7 ||| 0)), (0, .ref (lay 0)), (1, .int a1), (2, .int a2), (3, .ref (lay 64)), (4, .int v4), (5, .int v5), (6, .int v6)]) hC.1 hC.2.1 dX11_plan_187 hl (k := 8) rfl rfl (by decide) rfl (fun ls hl => ?_)
        refine lv_goto (tgt := 155) hC.1 hC.2.1 dX11_plan_190 (by decide) ?_
        exact ih _ _ _ _ _ _ h _ _ _ G (lv_sub hl [2, 3, 4, 5, 6, 7, 8, 1, 0] rfl)
      · replace h := h.2 c12
        refine lv_iconst (v := 1) hC.1 hC.2.1 dX11_plan_174 (by decide) ?_
        refine lv_aload_n hC.1 hC.2.1 dX11_plan_175 rfl (lv_at hl 3 rfl) ?_
        refine lv_iload hC.1 hC.2.1 dX11_plan_176 (lv_at hl 8 rfl) ?_
        obtain ⟨hn13, h⟩ := h
        refine rg_iald hC hT G (by decide) (r_ti (by decide) rfl) hn13 dX11_plan_178 ?_
        refine lv_ishl hC.1 hC.2.1 dX11_plan_179 ?_
        refine lv_goto (tgt := 184) hC.1 hC.2.1 dX11_plan_180 (by decide) ?_
        refine lv_ior hC.1 hC.2.1 dX11_plan_184 ?_
        refine lv_istore (lv' := [(7, .int (v7 ||| (1 <<< (((mrg σ10 σ) 64 (Int32.toNatClampNeg v8)) &&& 31)))), (0, .ref (lay 0)), (1, .int a1), (2, .int a2), (3, .ref (lay 64)), (4, .int v4), (5, .int v5), (6, .int v6), (8, .int v8)]) hC.1 hC.2.1 dX11_plan_185 hl (by decide) rfl (fun ls hl => ?_)
        refine lv_iinc (v := v8 + 1) (lv' := [(8, .int (v8 + 1)), (7, .int (v7 ||| (1 <<< (((mrg σ10 σ) 64 (Int32.toNatClampNeg v8)) &&& 31)))), (0, .ref (lay 0)), (1, .int a1), (2, .int a2), (3, .ref (lay 64)), (4, .int v4), (5, .int v5), (6, .int v6)]) hC.1 hC.2.1 dX11_plan_187 hl (k := 8) rfl rfl (by decide) rfl (fun ls hl => ?_)
        refine lv_goto (tgt := 155) hC.1 hC.2.1 dX11_plan_190 (by decide) ?_
        exact ih _ _ _ _ _ _ h _ _ _ G (lv_sub hl [2, 3, 4, 5, 6, 7, 8, 1, 0] rfl)
def u_X11_plan_105 (Γ : RG) (post : Int32 → MS → Prop) (a1 : Int32) (a2 : Int32) : Nat → MS → Int32 → Int32 → Int32 → Int32 → Prop
  | 0, _, _, _, _, _ => False
  | n + 1, σ, v4, v5, v6, v7 => (((1 <<< (v4 &&& 31)) ≤ v7 → (∃ k, u_X11_plan_155 Γ post a1 a2 k σ v4 v5 v6 0 0)) ∧ (¬ (1 <<< (v4 &&& 31)) ≤ v7 → w_X11_tried Γ (fun r15 σ14 => ((v6 < r15 → u_X11_plan_105 Γ post a1 a2 n (mrg σ14 σ) v4 v7 r15 (v7 + 1)) ∧ (¬ v6 < r15 → u_X11_plan_105 Γ post a1 a2 n (mrg σ14 σ) v4 v5 v6 (v7 + 1)))) σ (σ 64) v7 v4))
set_option maxHeartbeats 4000000 in
set_option maxRecDepth 100000 in
theorem l_X11_plan_105 {p : Program} {l : Launch} {e : Env} {s : State} {m : MethodId} {args : Array Value} {below : List Frame} {meth : Method} {c : Code} {D : va_G} {cy : Nat → ClassId} {lay : Nat → Nat} {Γ : RG} {post : Int32 → MS → Prop} (a1 : Int32) (a2 : Int32) (hC : CallFix p m c cX11_plan 9 s args wsX11_plan RX11) (hr : meth.sig.returnType = some .int) (hlocks : meth.locks = false) (hT : rT D cy lay Γ s) : ∀ (n : Nat), ∀ (σ : MS) (v4 : Int32) (v5 : Int32) (v6 : Int32) (v7 : Int32), u_X11_plan_105 Γ post a1 a2 n σ v4 v5 v6 v7 → ∀ (H : Heap) (locs : List Loc) (ls : Array Slot), rG D cy lay Γ (gU tn 64 (some (0, 3))) σ (rA cy lay Γ s.heap.size) s.heap H locs → lv_has ls 9 [(0, .ref (lay 0)), (1, .int a1), (2, .int a2), (3, .ref (lay 64)), (4, .int v4), (5, .int v5), (6, .int v6), (7, .int v7)] → W p l e rm_X11_plan s m args below meth c H locs 1 16 (MQ below (va_Qi post (rO D cy lay Γ) (rA cy lay Γ s.heap.size)) args s 1 16 (rA cy lay Γ s.heap.size)) (F0 m 105 ls []) := by
  intro n
  induction n with
  | zero =>
    intro σ v4 v5 v6 v7 h
    exact h.elim
  | succ n ih =>
    intro σ v4 v5 v6 v7 h H locs ls G hl
    rw [u_X11_plan_105] at h
    refine lv_iload hC.1 hC.2.1 dX11_plan_105 (lv_at hl 7 rfl) ?_
    refine lv_iconst (v := 1) hC.1 hC.2.1 dX11_plan_107 (by decide) ?_
    refine lv_iload hC.1 hC.2.1 dX11_plan_108 (lv_at hl 4 rfl) ?_
    refine lv_ishl hC.1 hC.2.1 dX11_plan_110 ?_
    refine lv_icmp_ge (tgt := 149) hC.1 hC.2.1 dX11_plan_111 (by decide) (fun c7 => ?_) (fun c7 => ?_)
    · replace h := h.1 c7
      refine lv_iconst (v := 0) hC.1 hC.2.1 dX11_plan_149 (by decide) ?_
      refine lv_istore (lv' := [(7, .int 0), (0, .ref (lay 0)), (1, .int a1), (2, .int a2), (3, .ref (lay 64)), (4, .int v4), (5, .int v5), (6, .int v6)]) hC.1 hC.2.1 dX11_plan_150 hl (by decide) rfl (fun ls hl => ?_)
      refine lv_iconst (v := 0) hC.1 hC.2.1 dX11_plan_152 (by decide) ?_
      refine lv_istore (lv' := [(8, .int 0), (7, .int 0), (0, .ref (lay 0)), (1, .int a1), (2, .int a2), (3, .ref (lay 64)), (4, .int v4), (5, .int v5), (6, .int v6)]) hC.1 hC.2.1 dX11_plan_153 hl (by decide) rfl (fun ls hl => ?_)
      obtain ⟨n1, h⟩ := h
      exact l_X11_plan_155 a1 a2 hC hr hlocks hT n1 _ _ _ _ _ _ h _ _ _ G (lv_sub hl [2, 3, 4, 5, 6, 7, 8, 1, 0] rfl)
    · replace h := h.2 c7
      refine lv_aload_n hC.1 hC.2.1 dX11_plan_114 rfl (lv_at hl 0 rfl) ?_
      refine lv_aload_n hC.1 hC.2.1 dX11_plan_115 rfl (lv_at hl 3 rfl) ?_
      refine lv_iload hC.1 hC.2.1 dX11_plan_116 (lv_at hl 7 rfl) ?_
      refine lv_iload hC.1 hC.2.1 dX11_plan_118 (lv_at hl 4 rfl) ?_
      refine rg_iM hT G (rg_runVA (k := 64) (As := [.ref (lay 64), .int v7, .int v4]) (rest := []) hC hT G (by decide) (by decide) rfl (c_X11_tried l D cy lay Γ h _) (cwV 3 hC.2.2.2.2 gX11_plan_X11_tried rfl rfl rfl hdV_X11_tried ⟨Nat.le_of_ble_eq_true rfl, Nat.le_of_ble_eq_true rfl⟩) (rg_recv hT G (by decide) r_mo k_X11) rfl hl.1 rfl (Nat.le_of_ble_eq_true rfl) dX11_plan_120 ⟨Nat.le_of_ble_eq_true rfl, Nat.le_of_ble_eq_true rfl⟩) (fun r15 σ14 H locs h G => ?_)
      (try dsimp only at h)
      refine lv_istore (lv' := [(8, .int r15), (0, .ref (lay 0)), (1, .int a1), (2, .int a2), (3, .ref (lay 64)), (4, .int v4), (5, .int v5), (6, .int v6), (7, .int v7)]) hC.1 hC.2.1 dX11_plan_123 hl (by decide) rfl (fun ls hl => ?_)
      refine lv_iload hC.1 hC.2.1 dX11_plan_125 (lv_at hl 0 rfl) ?_
      refine lv_iload hC.1 hC.2.1 dX11_plan_127 (lv_at hl 7 rfl) ?_
      refine lv_icmp_gt (tgt := 135) hC.1 hC.2.1 dX11_plan_129 (by decide) (fun c16 => ?_) (fun c16 => ?_)
      · replace h := h.1 c16
        refine lv_iload hC.1 hC.2.1 dX11_plan_135 (lv_at hl 0 rfl) ?_
        refine lv_istore (lv' := [(6, .int r15), (8, .int r15), (0, .ref (lay 0)), (1, .int a1), (2, .int a2), (3, .ref (lay 64)), (4, .int v4), (5, .int v5), (7, .int v7)]) hC.1 hC.2.1 dX11_plan_137 hl (by decide) rfl (fun ls hl => ?_)
        refine lv_iload hC.1 hC.2.1 dX11_plan_139 (lv_at hl 8 rfl) ?_
        refine lv_istore (lv' := [(5, .int v7), (6, .int r15), (8, .int r15), (0, .ref (lay 0)), (1, .int a1), (2, .int a2), (3, .ref (lay 64)), (4, .int v4), (7, .int v7)]) hC.1 hC.2.1 dX11_plan_141 hl (by decide) rfl (fun ls hl => ?_)
        refine lv_iinc (v := v7 + 1) (lv' := [(7, .int (v7 + 1)), (5, .int v7), (6, .int r15), (8, .int r15), (0, .ref (lay 0)), (1, .int a1), (2, .int a2), (3, .ref (lay 64)), (4, .int v4)]) hC.1 hC.2.1 dX11_plan_143 hl (k := 8) rfl rfl (by decide) rfl (fun ls hl => ?_)
        refine lv_goto (tgt := 105) hC.1 hC.2.1 dX11_plan_146 (by decide) ?_
        exact ih _ _ _ _ _ h _ _ _ G (lv_sub hl [4, 5, 6, 7, 8, 1, 2, 0] rfl)
      · replace h := h.2 c16
        refine lv_goto (tgt := 143) hC.1 hC.2.1 dX11_plan_132 (by decide) ?_
        refine lv_iinc (v := v7 + 1) (lv' := [(7, .int (v7 + 1)), (8, .int r15), (0, .ref (lay 0)), (1, .int a1), (2, .int a2), (3, .ref (lay 64)), (4, .int v4), (5, .int v5), (6, .int v6)]) hC.1 hC.2.1 dX11_plan_143 hl (k := 8) rfl rfl (by decide) rfl (fun ls hl => ?_)
        refine lv_goto (tgt := 105) hC.1 hC.2.1 dX11_plan_146 (by decide) ?_
        exact ih _ _ _ _ _ h _ _ _ G (lv_sub hl [2, 3, 4, 5, 6, 7, 8, 0] rfl)
def u_X11_plan_32 (Γ : RG) (post : Int32 → MS → Prop) (a1 : Int32) (a2 : Int32) : Nat → MS → Int32 → Int32 → Prop
  | 0, _, _, _ => False
  | n + 1, σ, v4, v5 => w_lw_Jx4a65c_size_8abf5 Γ (fun r5 σ4 => ((r5 ≤ v5 → (∃ k, u_X11_plan_105 Γ post a1 a2 k (mrg σ4 σ) v4 0 0 1)) ∧ (¬ r5 ≤ v5 → ((3 ≤ v4 → (∃ k, u_X11_plan_105 Γ post a1 a2 k (mrg σ4 σ) v4 0 0 1)) ∧ (¬ 3 ≤ v4 → w_lw_Jx4a65c_get_915e3 Γ (fun j19 σ18 => ((j19 < 14 ∧ j19 < Γ.2.2.1) ∧ ((((mrg σ18 (mrg σ4 σ)) (33 + j19) 1) = a1 → w_X11_place Γ (fun r23 σ22 => ((r23 = 0 → (vp_in v4 3 ∧ u_X11_plan_32 Γ post a1 a2 n (up2 (mrg σ22 (mrg σ18 (mrg σ4 σ))) 64 (Int32.toNatClampNeg v4) v5) (v4 + 1) (v5 + 1))) ∧ (¬ r23 = 0 → u_X11_plan_32 Γ post a1 a2 n (mrg σ22 (mrg σ18 (mrg σ4 σ))) v4 (v5 + 1)))) (mrg σ18 (mrg σ4 σ)) v5) ∧ (¬ ((mrg σ18 (mrg σ4 σ)) (33 + j19) 1) = a1 → u_X11_plan_32 Γ post a1 a2 n (mrg σ18 (mrg σ4 σ)) v4 (v5 + 1))))) (mrg σ4 σ) v5))))) σ
set_option maxHeartbeats 4000000 in
set_option maxRecDepth 100000 in
theorem l_X11_plan_32 {p : Program} {l : Launch} {e : Env} {s : State} {m : MethodId} {args : Array Value} {below : List Frame} {meth : Method} {c : Code} {D : va_G} {cy : Nat → ClassId} {lay : Nat → Nat} {Γ : RG} {post : Int32 → MS → Prop} (a1 : Int32) (a2 : Int32) (hC : CallFix p m c cX11_plan 9 s args wsX11_plan RX11) (hr : meth.sig.returnType = some .int) (hlocks : meth.locks = false) (hT : rT D cy lay Γ s) : ∀ (n : Nat), ∀ (σ : MS) (v4 : Int32) (v5 : Int32), u_X11_plan_32 Γ post a1 a2 n σ v4 v5 → ∀ (H : Heap) (locs : List Loc) (ls : Array Slot), rG D cy lay Γ (gU tn 64 (some (0, 3))) σ (rA cy lay Γ s.heap.size) s.heap H locs → lv_has ls 9 [(0, .ref (lay 0)), (1, .int a1), (2, .int a2), (3, .ref (lay 64)), (4, .int v4), (5, .int v5)] → W p l e rm_X11_plan s m args below meth c H locs 1 16 (MQ below (va_Qi post (rO D cy lay Γ) (rA cy lay Γ s.heap.size)) args s 1 16 (rA cy lay Γ s.heap.size)) (F0 m 32 ls []) := by
  intro n
  induction n with
  | zero =>
    intro σ v4 v5 h
    exact h.elim
  | succ n ih =>
    intro σ v4 v5 h H locs ls G hl
    rw [u_X11_plan_32] at h
    refine lv_iload hC.1 hC.2.1 dX11_plan_32 (lv_at hl 5 rfl) ?_
    refine lv_aload_n hC.1 hC.2.1 dX11_plan_34 rfl (lv_at hl 0 rfl) ?_
    refine rg_get hC hT G (by decide) r_mo k_X11 i_X11_plan_X11 5 (by decide) (wm 3 rfl) rfl dX11_plan_35 ?_
    refine rg_iM hT G (rg_runV (As := []) (rest := [.int v5]) hC hT (rG_drop G hT.2.2.2) (c_lw_Jx4a65c_size_8abf5 l D cy lay Γ h _) (cwV 0 hC.2.2.2.2 gX11_plan_Jx4a65c_size_8abf5 rfl rfl rfl hdV_Jx4a65c_size_8abf5 ⟨Nat.le_of_ble_eq_true rfl, Nat.le_of_ble_eq_true rfl⟩) (rg_recv hT (rG_drop G hT.2.2.2) (by decide) r_lw k_AL) rfl hl.1 rfl (Nat.le_of_ble_eq_true rfl) dX11_plan_38 ⟨Nat.le_of_ble_eq_true rfl, Nat.le_of_ble_eq_true rfl⟩) (fun r5 σ4 H locs h G => ?_)
    (try dsimp only at h)
    refine lv_icmp_ge (tgt := 96) hC.1 hC.2.1 dX11_plan_41 (by decide) (fun c6 => ?_) (fun c6 => ?_)
    · replace h := h.1 c6
      refine lv_iconst (v := 0) hC.1 hC.2.1 dX11_plan_96 (by decide) ?_
      refine lv_istore (lv' := [(5, .int 0), (0, .ref (lay 0)), (1, .int a1), (2, .int a2), (3, .ref (lay 64)), (4, .int v4)]) hC.1 hC.2.1 dX11_plan_97 hl (by decide) rfl (fun ls hl => ?_)
      refine lv_iconst (v := 0) hC.1 hC.2.1 dX11_plan_99 (by decide) ?_
      refine lv_istore (lv' := [(6, .int 0), (5, .int 0), (0, .ref (lay 0)), (1, .int a1), (2, .int a2), (3, .ref (lay 64)), (4, .int v4)]) hC.1 hC.2.1 dX11_plan_100 hl (by decide) rfl (fun ls hl => ?_)
      refine lv_iconst (v := 1) hC.1 hC.2.1 dX11_plan_102 (by decide) ?_
      refine lv_istore (lv' := [(7, .int 1), (6, .int 0), (5, .int 0), (0, .ref (lay 0)), (1, .int a1), (2, .int a2), (3, .ref (lay 64)), (4, .int v4)]) hC.1 hC.2.1 dX11_plan_103 hl (by decide) rfl (fun ls hl => ?_)
      obtain ⟨n1, h⟩ := h
      exact l_X11_plan_105 a1 a2 hC hr hlocks hT n1 _ _ _ _ _ h _ _ _ G (lv_sub hl [3, 4, 5, 6, 7, 2, 1, 0] rfl)
    · replace h := h.2 c6
      refine lv_iload hC.1 hC.2.1 dX11_plan_44 (lv_at hl 4 rfl) ?_
      refine lv_iconst (v := 3) hC.1 hC.2.1 dX11_plan_46 (by decide) ?_
      refine lv_icmp_ge (tgt := 96) hC.1 hC.2.1 dX11_plan_47 (by decide) (fun c17 => ?_) (fun c17 => ?_)
      · replace h := h.1 c17
        refine lv_iconst (v := 0) hC.1 hC.2.1 dX11_plan_96 (by decide) ?_
        refine lv_istore (lv' := [(5, .int 0), (0, .ref (lay 0)), (1, .int a1), (2, .int a2), (3, .ref (lay 64)), (4, .int v4)]) hC.1 hC.2.1 dX11_plan_97 hl (by decide) rfl (fun ls hl => ?_)
        refine lv_iconst (v := 0) hC.1 hC.2.1 dX11_plan_99 (by decide) ?_
        refine lv_istore (lv' := [(6, .int 0), (5, .int 0), (0, .ref (lay 0)), (1, .int a1), (2, .int a2), (3, .ref (lay 64)), (4, .int v4)]) hC.1 hC.2.1 dX11_plan_100 hl (by decide) rfl (fun ls hl => ?_)
        refine lv_iconst (v := 1) hC.1 hC.2.1 dX11_plan_102 (by decide) ?_
        refine lv_istore (lv' := [(7, .int 1), (6, .int 0), (5, .int 0), (0, .ref (lay 0)), (1, .int a1), (2, .int a2), (3, .ref (lay 64)), (4, .int v4)]) hC.1 hC.2.1 dX11_plan_103 hl (by decide) rfl (fun ls hl => ?_)
        obtain ⟨n1, h⟩ := h
        exact l_X11_plan_105 a1 a2 hC hr hlocks hT n1 _ _ _ _ _ h _ _ _ G (lv_sub hl [3, 4, 5, 6, 7, 2, 1, 0] rfl)
      · replace h := h.2 c17
        refine lv_aload_n hC.1 hC.2.1 dX11_plan_50 rfl (lv_at hl 0 rfl) ?_
        refine rg_get hC hT G (by decide) r_mo k_X11 i_X11_plan_X11 5 (by decide) (wm 3 rfl) rfl dX11_plan_51 ?_
        refine lv_iload hC.1 hC.2.1 dX11_plan_54 (lv_at hl 5 rfl) ?_
        refine rg_rM (f := fun i => lay (33 + i)) hT G (rg_runV (As := [.int v5]) (rest := []) hC hT (rG_drop G hT.2.2.2) (c_lw_Jx4a65c_get_915e3 l D cy lay Γ h _) (cwV 1 hC.2.2.2.2 gX11_plan_Jx4a65c_get_915e3 rfl rfl rfl hdV_Jx4a65c_get_915e3 ⟨Nat.le_of_ble_eq_true rfl, Nat.le_of_ble_eq_true rfl⟩) (rg_recv hT (rG_drop G hT.2.2.2) (by decide) r_lw k_AL) rfl hl.1 rfl (Nat.le_of_ble_eq_true rfl) dX11_plan_56 ⟨Nat.le_of_ble_eq_true rfl, Nat.le_of_ble_eq_true rfl⟩) (fun j19 σ18 H locs h G => ?_)
        (try dsimp only at h)
        obtain ⟨hj20, h⟩ := h
        refine rg_cast hC hT k_X10 (wm 4 rfl) (rg_recv hT G (rk_wd hj20) (r_wd hj20) k_X10) dX11_plan_59 ?_
        refine rg_getN hC hT G (rk_wd hj20) (r_wd hj20) k_X10 i_X11_plan_X10 1 (by decide) 11 rfl rfl dX11_plan_62 ?_
        refine lv_iload_n hC.1 hC.2.1 dX11_plan_65 rfl (lv_at hl 1 rfl) ?_
        refine lv_icmp_ne (tgt := 90) hC.1 hC.2.1 dX11_plan_66 (by decide) (fun c21 => ?_) (fun c21 => ?_)
        · replace h := h.2 c21
          refine lv_iinc (v := v5 + 1) (lv' := [(5, .int (v5 + 1)), (0, .ref (lay 0)), (1, .int a1), (2, .int a2), (3, .ref (lay 64)), (4, .int v4)]) hC.1 hC.2.1 dX11_plan_90 hl (k := 5) rfl rfl (by decide) rfl (fun ls hl => ?_)
          refine lv_goto (tgt := 32) hC.1 hC.2.1 dX11_plan_93 (by decide) ?_
          exact ih _ _ _ h _ _ _ G (lv_sub hl [1, 2, 3, 4, 5, 0] rfl)
        · replace h := h.1 c21
          refine lv_aload_n hC.1 hC.2.1 dX11_plan_69 rfl (lv_at hl 0 rfl) ?_
          refine lv_iload hC.1 hC.2.1 dX11_plan_70 (lv_at hl 5 rfl) ?_
          refine rg_iM hT G (rg_runV (As := [.int v5]) (rest := []) hC hT (rG_drop G hT.2.2.2) (c_X11_place l D cy lay Γ h _) (cwV 1 hC.2.2.2.2 gX11_plan_X11_place rfl rfl rfl hdV_X11_place ⟨Nat.le_of_ble_eq_true rfl, Nat.le_of_ble_eq_true rfl⟩) (rg_recv hT (rG_drop G hT.2.2.2) (by decide) r_mo k_X11) rfl hl.1 rfl (Nat.le_of_ble_eq_true rfl) dX11_plan_72 ⟨Nat.le_of_ble_eq_true rfl, Nat.le_of_ble_eq_true rfl⟩) (fun r23 σ22 H locs h G => ?_)
          (try dsimp only at h)
          refine lv_if_eq (tgt := 81) hC.1 hC.2.1 dX11_plan_75 (by decide) (fun c24 => ?_) (fun c24 => ?_)
          · replace h := h.1 c24
            refine lv_aload_n hC.1 hC.2.1 dX11_plan_81 rfl (lv_at hl 3 rfl) ?_
            refine lv_iload hC.1 hC.2.1 dX11_plan_82 (lv_at hl 4 rfl) ?_
            refine lv_iload hC.1 hC.2.1 dX11_plan_84 (lv_at hl 5 rfl) ?_
            obtain ⟨hn25, h⟩ := h
            refine rg_iast hC hT G (by decide) (fun _ => (r_ti (by decide) rfl)) hn25 dX11_plan_86 (fun H locs G => ?_)
            refine lv_iinc (v := v4 + 1) (lv' := [(4, .int (v4 + 1)), (0, .ref (lay 0)), (1, .int a1), (2, .int a2), (3, .ref (lay 64)), (5, .int v5)]) hC.1 hC.2.1 dX11_plan_87 hl (k := 4) rfl rfl (by decide) rfl (fun ls hl => ?_)
            refine lv_iinc (v := v5 + 1) (lv' := [(5, .int (v5 + 1)), (4, .int (v4 + 1)), (0, .ref (lay 0)), (1, .int a1), (2, .int a2), (3, .ref (lay 64))]) hC.1 hC.2.1 dX11_plan_90 hl (k := 5) rfl rfl (by decide) rfl (fun ls hl => ?_)
            refine lv_goto (tgt := 32) hC.1 hC.2.1 dX11_plan_93 (by decide) ?_
            exact ih _ _ _ h _ _ _ G (lv_sub hl [2, 3, 4, 5, 1, 0] rfl)
          · replace h := h.2 c24
            refine lv_goto (tgt := 90) hC.1 hC.2.1 dX11_plan_78 (by decide) ?_
            refine lv_iinc (v := v5 + 1) (lv' := [(5, .int (v5 + 1)), (0, .ref (lay 0)), (1, .int a1), (2, .int a2), (3, .ref (lay 64)), (4, .int v4)]) hC.1 hC.2.1 dX11_plan_90 hl (k := 5) rfl rfl (by decide) rfl (fun ls hl => ?_)
            refine lv_goto (tgt := 32) hC.1 hC.2.1 dX11_plan_93 (by decide) ?_
            exact ih _ _ _ h _ _ _ G (lv_sub hl [1, 2, 3, 4, 5, 0] rfl)
def w_X11_plan (Γ : RG) (post : Int32 → MS → Prop) (σ : MS) (a1 : Int32) (a2 : Int32) : Prop := w_X11_is Γ (fun r2 σ1 => ((r2 = 0 → w_X11_refuse Γ (fun r27 σ26 => post r27 σ26) σ1 1) ∧ (¬ r2 = 0 → (∃ k, u_X11_plan_32 Γ post a1 a2 k (rw0 σ1 64 (fun _ => 0)) 0 0)))) (up2 σ 0 0 0) a1 0 365
set_option maxHeartbeats 4000000 in
set_option maxRecDepth 100000 in
theorem c_X11_plan (l : Launch) (D : va_G) (cy : Nat → ClassId) (lay : Nat → Nat) (Γ : RG) {σ : MS} {post : Int32 → MS → Prop} {a1 : Int32} {a2 : Int32} (h : w_X11_plan Γ post σ a1 a2) (sz : Nat) : Met l yX11_plan wsX11_plan rm_X11_plan (va_Pc [.ref (lay 0), .int a1, .int a2] (rI D cy lay Γ σ sz)) (va_Qi post (rO D cy lay Γ) (rA cy lay Γ sz)) 1 16 (rA cy lay Γ sz) := by
  refine rg_ofW (cc := cX11_plan) (maxL := 9) (ret := some .int) (own := RX11) (Qc := fun sz => va_Qi post (rO D cy lay Γ) (rA cy lay Γ sz)) (by decide) rfl (Nat.le_of_ble_eq_true rfl) rfl ?_
  intro p e s m args below meth c ls hC hr hlocks hT G hl
  unfold w_X11_plan at h
  have hl : lv_has ls 9 [(0, .ref (lay 0)), (1, .int a1), (2, .int a2)] := hl
  refine lv_aload_n hC.1 hC.2.1 dX11_plan_0 rfl (lv_at hl 0 rfl) ?_
  refine lv_iconst (v := 0) hC.1 hC.2.1 dX11_plan_1 (by decide) ?_
  refine rg_put hC hT G (by decide) r_mo k_X11 i_X11_plan_X11 0 (by decide) (wm 1 rfl) rfl rfl (by simp) r_mo (by rw [up2_eq]; rfl) dX11_plan_2 (fun H locs G => ?_)
  refine lv_iload_n hC.1 hC.2.1 dX11_plan_5 rfl (lv_at hl 1 rfl) ?_
  refine lv_iconst (v := 0) hC.1 hC.2.1 dX11_plan_6 (by decide) ?_
  refine lv_sipush (v := 365) hC.1 hC.2.1 dX11_plan_7 (by decide) ?_
  refine rg_i G (rg_runS (As := [.int a1, .int 0, .int 365]) (rest := []) hC hT G (c_X11_is l D cy lay Γ h _) (va_cwS 3 hC.2.2.2.2 gX11_plan_X11_is rfl rfl rfl hdS_X11_is ⟨Nat.le_of_ble_eq_true rfl, Nat.le_of_ble_eq_true rfl⟩) rfl hl.1 rfl (Nat.le_of_ble_eq_true rfl) dX11_plan_10 ⟨Nat.le_of_ble_eq_true rfl, Nat.le_of_ble_eq_true rfl⟩) (fun r2 σ1 H locs h G => ?_)
  (try dsimp only at h)
  refine lv_if_ne (tgt := 22) hC.1 hC.2.1 dX11_plan_13 (by decide) (fun c3 => ?_) (fun c3 => ?_)
  · replace h := h.2 c3
    refine lv_iconst (v := 3) hC.1 hC.2.1 dX11_plan_22 (by decide) ?_
    refine rg_newi (Q := fun lay => MQ below (va_Qi post (rO D cy lay Γ) (rA cy lay Γ s.heap.size)) args s 1 16 (rA cy lay Γ s.heap.size)) (ql_i hT.2.2.2) hC hT G tmO_n (k := 64) (by decide) (by decide) rfl (wm 2 rfl) (N := 3) (by decide) rfl (by decide) (Nat.le_of_ble_eq_true rfl) (Nat.le_of_ble_eq_true rfl) dX11_plan_23 (fun lay hly hT H G => ?_)
    refine W.widen (k := 1) (n := 16) (by decide) (by decide) ?_
    replace hl : lv_has ls 9 [(0, .ref (lay 0)), (1, .int a1), (2, .int a2)] := by rw [hly 0 (by decide)]; exact hl
    refine lv_astore_n (lv' := [(3, .ref (lay 64)), (0, .ref (lay 0)), (1, .int a1), (2, .int a2)]) hC.1 hC.2.1 dX11_plan_25 rfl hl (by decide) rfl (fun ls hl => ?_)
    refine lv_iconst (v := 0) hC.1 hC.2.1 dX11_plan_26 (by decide) ?_
    refine lv_istore (lv' := [(4, .int 0), (3, .ref (lay 64)), (0, .ref (lay 0)), (1, .int a1), (2, .int a2)]) hC.1 hC.2.1 dX11_plan_27 hl (by decide) rfl (fun ls hl => ?_)
    refine lv_iconst (v := 0) hC.1 hC.2.1 dX11_plan_29 (by decide) ?_
    refine lv_istore (lv' := [(5, .int 0), (4, .int 0), (3, .ref (lay 64)), (0, .ref (lay 0)), (1, .int a1), (2, .int a2)]) hC.1 hC.2.1 dX11_plan_30 hl (by decide) rfl (fun ls hl => ?_)
    obtain ⟨n1, h⟩ := h
    exact l_X11_plan_32 a1 a2 hC hr hlocks hT n1 _ _ _ h _ _ _ G (lv_sub hl [3, 4, 5, 2, 1, 0] rfl)
  · replace h := h.1 c3
    refine lv_aload_n hC.1 hC.2.1 dX11_plan_16 rfl (lv_at hl 0 rfl) ?_
    refine lv_iconst (v := 1) hC.1 hC.2.1 dX11_plan_17 (by decide) ?_
    refine rg_i G (rg_runV (As := [.int 1]) (rest := []) hC hT G (c_X11_refuse l D cy lay Γ h _) (cwV 1 hC.2.2.2.2 gX11_plan_X11_refuse rfl rfl rfl hdV_X11_refuse ⟨Nat.le_of_ble_eq_true rfl, Nat.le_of_ble_eq_true rfl⟩) (rg_recv hT G (by decide) r_mo k_X11) rfl hl.1 rfl (Nat.le_of_ble_eq_true rfl) dX11_plan_18 ⟨Nat.le_of_ble_eq_true rfl, Nat.le_of_ble_eq_true rfl⟩) (fun r27 σ26 H locs h G => ?_)
    (try dsimp only at h)
    refine W.widen (k := 1) (n := 16) (by decide) (by decide) ?_
    exact rg_iret hC hr hlocks G h dX11_plan_21
theorem hdV_X11_plan : yX11_plan.cls = RX11 ∧ yX11_plan.cls ≠ "java/lang/invoke/MethodHandle" ∧ yX11_plan.cls ≠ "java/lang/invoke/VarHandle" ∧ (parseMethodDescriptor yX11_plan.desc).map (fun d => d.parameters.length) = some 2 := by decide +kernel
abbrev rm_X11_pass : Room := { frames := 7, cells := 239, slots := 3824, locals := 158 }
theorem i_X11_pass_X11 : ∀ w ∈ wsX110, w ∈ wsX11_pass := fun _ h => List.mem_cons_of_mem _ (List.mem_append_left _ (List.mem_append_left _ (List.mem_append_left _ (List.mem_append_left _ (List.mem_append_right _ h)))))
theorem i_X11_pass_X10 : ∀ w ∈ wsX100, w ∈ wsX11_pass := fun _ h => List.mem_cons_of_mem _ (List.mem_append_left _ (List.mem_append_left _ (List.mem_append_left _ (List.mem_append_right _ h))))
def u_X11_pass_179 (Γ : RG) (post : Int32 → MS → Prop) (a1 : Int32) (K41 : MS → Int32 → Prop) : Nat → MS → Int32 → Prop
  | 0, _, _ => False
  | n + 1, σ, v2 => (((b01 (!decide (σ 64 0 = σ 3 2))) = 0 → K41 σ (v2 + 1)) ∧ (¬ (b01 (!decide (σ 64 0 = σ 3 2))) = 0 → (∃ j9 : Nat, (σ 64 0 = nI j9 ∧ j9 < Γ.2.2.1) ∧ σ 64 2 = σ 3 0 ∧ σ 3 2 = nI Γ.2.2.1 ∧ ((((up2 (up2 σ 64 0 (nI (j9 + 1))) 64 1 (nI j9)) (33 + j9) 7) = 0 → (((((up2 (up2 σ 64 0 (nI (j9 + 1))) 64 1 (nI j9)) 0 1) - ((up2 (up2 σ 64 0 (nI (j9 + 1))) 64 1 (nI j9)) (33 + j9) 6)) < 5 → u_X11_pass_179 Γ post a1 K41 n (up2 (up2 σ 64 0 (nI (j9 + 1))) 64 1 (nI j9)) v2) ∧ (¬ (((up2 (up2 σ 64 0 (nI (j9 + 1))) 64 1 (nI j9)) 0 1) - ((up2 (up2 σ 64 0 (nI (j9 + 1))) 64 1 (nI j9)) (33 + j9) 6)) < 5 → u_X11_pass_179 Γ post a1 K41 n (up2 (up2 (up2 σ 64 0 (nI (j9 + 1))) 64 1 (nI j9)) (33 + j9) 7 3) v2))) ∧ (¬ ((up2 (up2 σ 64 0 (nI (j9 + 1))) 64 1 (nI j9)) (33 + j9) 7) = 0 → u_X11_pass_179 Γ post a1 K41 n (up2 (up2 σ 64 0 (nI (j9 + 1))) 64 1 (nI j9)) v2)))))
set_option maxHeartbeats 4000000 in
set_option maxRecDepth 100000 in
theorem l_X11_pass_179 {p : Program} {l : Launch} {e : Env} {s : State} {m : MethodId} {args : Array Value} {below : List Frame} {meth : Method} {c : Code} {D : va_G} {cy : Nat → ClassId} {Γ : RG} {post : Int32 → MS → Prop} (a1 : Int32) (K41 : MS → Int32 → Prop) (XK : Nat) (hC : CallFix p m c cX11_pass 5 s args wsX11_pass RX11) (hr : meth.sig.returnType = some .int) (hlocks : meth.locks = false) (hK41 : ∀ (q : Nat) (lay : Nat → Nat), rT D cy lay Γ s → ∀ (σ : MS) (v2 : Int32), q + XK + 4 * gh σ ≤ 239 → K41 σ v2 → ∀ (H : Heap) (locs : List Loc) (ls : Array Slot), rG D cy lay Γ tn σ (rA cy lay Γ s.heap.size) s.heap H locs → lv_has ls 5 [(0, .ref (lay 0)), (1, .int a1), (2, .int v2)] → W p l e rm_X11_pass s m args below meth c H locs q (16 * (q)) (MQ below (va_Qi post (rO D cy lay Γ) (rA cy lay Γ s.heap.size)) args s 239 3824 (rA cy lay Γ s.heap.size)) (F0 m 41 ls [])) : ∀ (n : Nat), ∀ (q : Nat) (lay : Nat → Nat), rT D cy lay Γ s → ∀ (σ : MS) (v2 : Int32), q + n * 0 + 0 + XK + 4 * gh σ ≤ 239 → u_X11_pass_179 Γ post a1 K41 n σ v2 → ∀ (H : Heap) (locs : List Loc) (ls : Array Slot), rG D cy lay Γ (gU tn 64 (some (2, 3))) σ (rA cy lay Γ s.heap.size) s.heap H locs → lv_has ls 5 [(0, .ref (lay 0)), (1, .int a1), (2, .int v2), (3, .ref (lay 64))] → W p l e rm_X11_pass s m args below meth c H locs q (16 * (q)) (MQ below (va_Qi post (rO D cy lay Γ) (rA cy lay Γ s.heap.size)) args s 239 3824 (rA cy lay Γ s.heap.size)) (F0 m 179 ls []) := by
  intro n
  induction n with
  | zero =>
    intro q lay hT σ v2 hq h
    exact h.elim
  | succ n ih =>
    intro q lay hT σ v2 hq h H locs ls G hl
    rw [u_X11_pass_179] at h
    refine lv_aload_n hC.1 hC.2.1 dX11_pass_179 rfl (lv_at hl 3 rfl) ?_
    refine rg_hasNext hC hT G (k := 64) (by decide) (by decide) rfl (va_cwF 0 hC.2.2.2.2 gX11_pass_Jx35411_hasNext_aae02_f230Jx35411 rfl rfl rfl hT.2.1.2.1 hdF_hasNext ⟨Nat.le_of_ble_eq_true rfl, Nat.le_of_ble_eq_true rfl⟩) hl.1 (Nat.le_of_ble_eq_true rfl) dX11_pass_180 (show q + 0 ≤ 239 ∧ 16 * (q) + 0 ≤ 3824 by omega) (fun H locs G => ?_)
    refine lv_if_eq (tgt := 230) hC.1 hC.2.1 dX11_pass_185 (by decide) (fun c8 => ?_) (fun c8 => ?_)
    · replace h := h.1 c8
      refine lv_iinc (v := v2 + 1) (lv' := [(2, .int (v2 + 1)), (0, .ref (lay 0)), (1, .int a1), (3, .ref (lay 64))]) hC.1 hC.2.1 dX11_pass_230 hl (k := 2) rfl rfl (by decide) rfl (fun ls hl => ?_)
      refine lv_goto (tgt := 41) hC.1 hC.2.1 dX11_pass_233 (by decide) ?_
      have hg : gh σ = gh σ := by (first | rfl | repeat (first | rw [gh_set (by omega)] | rw [gh_up (by omega)] | rw [gh_rw0 (by omega)] | rw [gh_mrg]))
      refine W.widen (k := q) (n := 16 * (q)) (by omega) (by omega) ?_
      exact hK41 q lay hT _ _ (by omega) h _ _ _ (rG_drop G hT.2.2.2) (lv_sub hl [1, 2, 0] rfl)
    · replace h := h.2 c8
      refine lv_aload_n hC.1 hC.2.1 dX11_pass_188 rfl (lv_at hl 3 rfl) ?_
      obtain ⟨j9, hj10, hj10a, hj10b, h⟩ := h
      have hj10c : j9 < 14 := Nat.lt_of_lt_of_le hj10.2 hT.2.2.2.2.2
      refine rg_next hC hT G (k := 64) (ci := j9) (by decide) (by decide) rfl hj10 hj10a hj10b (va_cwF 0 hC.2.2.2.2 gX11_pass_Jx35411_next_0502b_f236Jx35411 rfl rfl rfl hT.2.1.2.2 hdF_next ⟨Nat.le_of_ble_eq_true rfl, Nat.le_of_ble_eq_true rfl⟩) hl.1 (Nat.le_of_ble_eq_true rfl) dX11_pass_189 (show q + 0 ≤ 239 ∧ 16 * (q) + 0 ≤ 3824 by omega) (fun H locs G => ?_)
      refine rg_cast hC hT k_X10 (wm 4 rfl) (rg_recv hT G (rk_wd ⟨Nat.lt_of_lt_of_le hj10.2 hT.2.2.2.2.2, hj10.2⟩) (r_wd ⟨Nat.lt_of_lt_of_le hj10.2 hT.2.2.2.2.2, hj10.2⟩) k_X10) dX11_pass_194 ?_
      refine lv_astore (lv' := [(4, .ref (lay (33 + j9))), (0, .ref (lay 0)), (1, .int a1), (2, .int v2), (3, .ref (lay 64))]) hC.1 hC.2.1 dX11_pass_197 hl (by decide) rfl (fun ls hl => ?_)
      refine lv_aload hC.1 hC.2.1 dX11_pass_199 (lv_at hl 0 rfl) ?_
      refine rg_getN hC hT G (rk_wd ⟨Nat.lt_of_lt_of_le hj10.2 hT.2.2.2.2.2, hj10.2⟩) (r_wd ⟨Nat.lt_of_lt_of_le hj10.2 hT.2.2.2.2.2, hj10.2⟩) k_X10 i_X11_pass_X10 7 (by decide) 17 rfl rfl dX11_pass_201 ?_
      refine lv_if_ne (tgt := 227) hC.1 hC.2.1 dX11_pass_204 (by decide) (fun c11 => ?_) (fun c11 => ?_)
      · replace h := h.2 c11
        refine lv_goto (tgt := 179) hC.1 hC.2.1 dX11_pass_227 (by decide) ?_
        have hg : gh (up2 (up2 σ 64 0 (nI (j9 + 1))) 64 1 (nI j9)) = gh σ := by (first | rfl | repeat (first | rw [gh_set (by omega)] | rw [gh_up (by omega)] | rw [gh_rw0 (by omega)] | rw [gh_mrg]))
        refine W.widen (k := q) (n := 16 * (q)) (by omega) (by omega) ?_
        exact ih q lay hT _ _ (by omega) h _ _ _ G (lv_sub hl [1, 2, 3, 4] rfl)
      · replace h := h.1 c11
        refine lv_aload_n hC.1 hC.2.1 dX11_pass_207 rfl (lv_at hl 1 rfl) ?_
        refine rg_get hC hT G (by decide) r_mo k_X11 i_X11_pass_X11 1 (by decide) (wm 2 rfl) rfl dX11_pass_208 ?_
        refine lv_aload hC.1 hC.2.1 dX11_pass_211 (lv_at hl 0 rfl) ?_
        refine rg_getN hC hT G (rk_wd ⟨Nat.lt_of_lt_of_le hj10.2 hT.2.2.2.2.2, hj10.2⟩) (r_wd ⟨Nat.lt_of_lt_of_le hj10.2 hT.2.2.2.2.2, hj10.2⟩) k_X10 i_X11_pass_X10 6 (by decide) 16 rfl rfl dX11_pass_213 ?_
        refine lv_isub hC.1 hC.2.1 dX11_pass_216 ?_
        refine lv_iconst (v := 5) hC.1 hC.2.1 dX11_pass_217 (by decide) ?_
        refine lv_icmp_lt (tgt := 227) hC.1 hC.2.1 dX11_pass_218 (by decide) (fun c12 => ?_) (fun c12 => ?_)
        · replace h := h.1 c12
          refine lv_goto (tgt := 179) hC.1 hC.2.1 dX11_pass_227 (by decide) ?_
          have hg : gh (up2 (up2 σ 64 0 (nI (j9 + 1))) 64 1 (nI j9)) = gh σ := by (first | rfl | repeat (first | rw [gh_set (by omega)] | rw [gh_up (by omega)] | rw [gh_rw0 (by omega)] | rw [gh_mrg]))
          refine W.widen (k := q) (n := 16 * (q)) (by omega) (by omega) ?_
          exact ih q lay hT _ _ (by omega) h _ _ _ G (lv_sub hl [1, 2, 3, 4] rfl)
        · replace h := h.2 c12
          refine lv_aload hC.1 hC.2.1 dX11_pass_221 (lv_at hl 0 rfl) ?_
          refine lv_iconst (v := 3) hC.1 hC.2.1 dX11_pass_223 (by decide) ?_
          refine rg_putN hC hT G (rk_wd ⟨Nat.lt_of_lt_of_le hj10.2 hT.2.2.2.2.2, hj10.2⟩) (r_wd ⟨Nat.lt_of_lt_of_le hj10.2 hT.2.2.2.2.2, hj10.2⟩) k_X10 i_X11_pass_X10 7 (by decide) 17 rfl rfl rfl (by simp) (r_wd ⟨Nat.lt_of_lt_of_le hj10.2 hT.2.2.2.2.2, hj10.2⟩) (by rw [up2_eq]; rfl) dX11_pass_224 (fun H locs G => ?_)
          refine lv_goto (tgt := 179) hC.1 hC.2.1 dX11_pass_227 (by decide) ?_
          have hg : gh (up2 (up2 (up2 σ 64 0 (nI (j9 + 1))) 64 1 (nI j9)) (33 + j9) 7 3) = gh σ := by (first | rfl | repeat (first | rw [gh_set (by omega)] | rw [gh_up (by omega)] | rw [gh_rw0 (by omega)] | rw [gh_mrg]))
          refine W.widen (k := q) (n := 16 * (q)) (by omega) (by omega) ?_
          exact ih q lay hT _ _ (by omega) h _ _ _ G (lv_sub hl [1, 2, 3, 4] rfl)
def u_X11_pass_112 (Γ : RG) (post : Int32 → MS → Prop) (a1 : Int32) (K41 : MS → Int32 → Prop) : Nat → MS → Int32 → Prop
  | 0, _, _ => False
  | n + 1, σ, v2 => (((b01 (!decide (σ 64 0 = σ 3 2))) = 0 → (∃ k, u_X11_pass_179 Γ post a1 K41 k (rw0 (up2 σ 0 1 ((σ 0 1) + 1)) 64 (itR ((up2 σ 0 1 ((σ 0 1) + 1)) 3 0))) v2)) ∧ (¬ (b01 (!decide (σ 64 0 = σ 3 2))) = 0 → (∃ j13 : Nat, (σ 64 0 = nI j13 ∧ j13 < Γ.2.2.1) ∧ σ 64 2 = σ 3 0 ∧ σ 3 2 = nI Γ.2.2.1 ∧ ((((up2 (up2 σ 64 0 (nI (j13 + 1))) 64 1 (nI j13)) (33 + j13) 7) = 0 → ((((up2 (up2 σ 64 0 (nI (j13 + 1))) 64 1 (nI j13)) (33 + j13) 1) = ((up2 (up2 σ 64 0 (nI (j13 + 1))) 64 1 (nI j13)) 0 1) → u_X11_pass_112 Γ post a1 K41 n (up2 (up2 (up2 σ 64 0 (nI (j13 + 1))) 64 1 (nI j13)) (33 + j13) 7 3) v2) ∧ (¬ ((up2 (up2 σ 64 0 (nI (j13 + 1))) 64 1 (nI j13)) (33 + j13) 1) = ((up2 (up2 σ 64 0 (nI (j13 + 1))) 64 1 (nI j13)) 0 1) → u_X11_pass_112 Γ post a1 K41 n (up2 (up2 σ 64 0 (nI (j13 + 1))) 64 1 (nI j13)) v2))) ∧ (¬ ((up2 (up2 σ 64 0 (nI (j13 + 1))) 64 1 (nI j13)) (33 + j13) 7) = 0 → u_X11_pass_112 Γ post a1 K41 n (up2 (up2 σ 64 0 (nI (j13 + 1))) 64 1 (nI j13)) v2)))))
set_option maxHeartbeats 4000000 in
set_option maxRecDepth 100000 in
theorem l_X11_pass_112 {p : Program} {l : Launch} {e : Env} {s : State} {m : MethodId} {args : Array Value} {below : List Frame} {meth : Method} {c : Code} {D : va_G} {cy : Nat → ClassId} {Γ : RG} {post : Int32 → MS → Prop} (a1 : Int32) (K41 : MS → Int32 → Prop) (XK : Nat) (hC : CallFix p m c cX11_pass 5 s args wsX11_pass RX11) (hr : meth.sig.returnType = some .int) (hlocks : meth.locks = false) (hK41 : ∀ (q : Nat) (lay : Nat → Nat), rT D cy lay Γ s → ∀ (σ : MS) (v2 : Int32), q + XK + 4 * gh σ ≤ 239 → K41 σ v2 → ∀ (H : Heap) (locs : List Loc) (ls : Array Slot), rG D cy lay Γ tn σ (rA cy lay Γ s.heap.size) s.heap H locs → lv_has ls 5 [(0, .ref (lay 0)), (1, .int a1), (2, .int v2)] → W p l e rm_X11_pass s m args below meth c H locs q (16 * (q)) (MQ below (va_Qi post (rO D cy lay Γ) (rA cy lay Γ s.heap.size)) args s 239 3824 (rA cy lay Γ s.heap.size)) (F0 m 41 ls [])) : ∀ (n : Nat), ∀ (q : Nat) (lay : Nat → Nat), rT D cy lay Γ s → ∀ (σ : MS) (v2 : Int32), q + n * 0 + 1 + XK + 4 * gh σ ≤ 239 → u_X11_pass_112 Γ post a1 K41 n σ v2 → ∀ (H : Heap) (locs : List Loc) (ls : Array Slot), rG D cy lay Γ (gU tn 64 (some (2, 3))) σ (rA cy lay Γ s.heap.size) s.heap H locs → lv_has ls 5 [(0, .ref (lay 0)), (1, .int a1), (2, .int v2), (3, .ref (lay 64))] → W p l e rm_X11_pass s m args below meth c H locs q (16 * (q)) (MQ below (va_Qi post (rO D cy lay Γ) (rA cy lay Γ s.heap.size)) args s 239 3824 (rA cy lay Γ s.heap.size)) (F0 m 112 ls []) := by
  intro n
  induction n with
  | zero =>
    intro q lay hT σ v2 hq h
    exact h.elim
  | succ n ih =>
    intro q lay hT σ v2 hq h H locs ls G hl
    rw [u_X11_pass_112] at h
    refine lv_aload_n hC.1 hC.2.1 dX11_pass_112 rfl (lv_at hl 3 rfl) ?_
    refine rg_hasNext hC hT G (k := 64) (by decide) (by decide) rfl (va_cwF 0 hC.2.2.2.2 gX11_pass_Jx35411_hasNext_aae02_f230Jx35411 rfl rfl rfl hT.2.1.2.1 hdF_hasNext ⟨Nat.le_of_ble_eq_true rfl, Nat.le_of_ble_eq_true rfl⟩) hl.1 (Nat.le_of_ble_eq_true rfl) dX11_pass_113 (show q + 0 ≤ 239 ∧ 16 * (q) + 0 ≤ 3824 by omega) (fun H locs G => ?_)
    refine lv_if_eq (tgt := 161) hC.1 hC.2.1 dX11_pass_118 (by decide) (fun c7 => ?_) (fun c7 => ?_)
    · replace h := h.1 c7
      refine lv_aload_n hC.1 hC.2.1 dX11_pass_161 rfl (lv_at hl 0 rfl) ?_
      refine lv_dup hC.1 hC.2.1 dX11_pass_162 rfl ?_
      refine rg_get hC hT G (by decide) r_mo k_X11 i_X11_pass_X11 1 (by decide) (wm 2 rfl) rfl dX11_pass_163 ?_
      refine lv_iconst (v := 1) hC.1 hC.2.1 dX11_pass_166 (by decide) ?_
      refine lv_iadd hC.1 hC.2.1 dX11_pass_167 ?_
      refine rg_put hC hT G (by decide) r_mo k_X11 i_X11_pass_X11 1 (by decide) (wm 2 rfl) rfl rfl (by simp) r_mo (by rw [up2_eq]; rfl) dX11_pass_168 (fun H locs G => ?_)
      refine lv_aload_n hC.1 hC.2.1 dX11_pass_171 rfl (lv_at hl 0 rfl) ?_
      refine rg_get hC hT G (by decide) r_mo k_X11 i_X11_pass_X11 5 (by decide) (wm 3 rfl) rfl dX11_pass_172 ?_
      replace G := rG_drop G hT.2.2.2
      replace hl : lv_has ls 5 [(0, .ref (lay 0)), (1, .int a1), (2, .int v2)] := lv_sub hl [0, 1, 2] rfl
      refine rg_iter (Q := fun lay => MQ below (va_Qi post (rO D cy lay Γ) (rA cy lay Γ s.heap.size)) args s 239 3824 (rA cy lay Γ s.heap.size)) (ql_i hT.2.2.2) hC hT G tmO_n (k := 64) (by decide) (by decide) rfl (cwV 0 hC.2.2.2.2 gX11_pass_Jx4a65c_iterator_32c93 rfl rfl rfl hdV_Jx4a65c_iterator_32c93 ⟨Nat.le_of_ble_eq_true rfl, Nat.le_of_ble_eq_true rfl⟩) hl.1 (Nat.le_of_ble_eq_true rfl) dX11_pass_175 (show q + 1 ≤ 239 ∧ 16 * (q) + 4 ≤ 3824 by omega) (fun lay hly hT H locs G => ?_)
      refine W.widen (k := q + 1) (n := 16 * (q + 1)) (by omega) (by omega) ?_
      replace hl : lv_has ls 5 [(0, .ref (lay 0)), (1, .int a1), (2, .int v2)] := by rw [hly 0 (by decide)]; exact hl
      refine lv_astore_n (lv' := [(3, .ref (lay 64)), (0, .ref (lay 0)), (1, .int a1), (2, .int v2)]) hC.1 hC.2.1 dX11_pass_178 rfl hl (by decide) rfl (fun ls hl => ?_)
      have hg : gh (rw0 (up2 σ 0 1 ((σ 0 1) + 1)) 64 (itR ((up2 σ 0 1 ((σ 0 1) + 1)) 3 0))) = gh σ := by (first | rfl | repeat (first | rw [gh_set (by omega)] | rw [gh_up (by omega)] | rw [gh_rw0 (by omega)] | rw [gh_mrg]))
      refine W.widen (k := q + 1) (n := 16 * (q + 1)) (by omega) (by omega) ?_
      obtain ⟨n1, h⟩ := h
      exact l_X11_pass_179 a1 K41 XK hC hr hlocks hK41 n1 (q + 1) lay hT _ _ (by omega) h _ _ _ G (lv_sub hl [1, 2, 3, 0] rfl)
    · replace h := h.2 c7
      refine lv_aload_n hC.1 hC.2.1 dX11_pass_121 rfl (lv_at hl 3 rfl) ?_
      obtain ⟨j13, hj14, hj14a, hj14b, h⟩ := h
      have hj14c : j13 < 14 := Nat.lt_of_lt_of_le hj14.2 hT.2.2.2.2.2
      refine rg_next hC hT G (k := 64) (ci := j13) (by decide) (by decide) rfl hj14 hj14a hj14b (va_cwF 0 hC.2.2.2.2 gX11_pass_Jx35411_next_0502b_f236Jx35411 rfl rfl rfl hT.2.1.2.2 hdF_next ⟨Nat.le_of_ble_eq_true rfl, Nat.le_of_ble_eq_true rfl⟩) hl.1 (Nat.le_of_ble_eq_true rfl) dX11_pass_122 (show q + 0 ≤ 239 ∧ 16 * (q) + 0 ≤ 3824 by omega) (fun H locs G => ?_)
      refine rg_cast hC hT k_X10 (wm 4 rfl) (rg_recv hT G (rk_wd ⟨Nat.lt_of_lt_of_le hj14.2 hT.2.2.2.2.2, hj14.2⟩) (r_wd ⟨Nat.lt_of_lt_of_le hj14.2 hT.2.2.2.2.2, hj14.2⟩) k_X10) dX11_pass_127 ?_
      refine lv_astore (lv' := [(4, .ref (lay (33 + j13))), (0, .ref (lay 0)), (1, .int a1), (2, .int v2), (3, .ref (lay 64))]) hC.1 hC.2.1 dX11_pass_130 hl (by decide) rfl (fun ls hl => ?_)
      refine lv_aload hC.1 hC.2.1 dX11_pass_132 (lv_at hl 0 rfl) ?_
      refine rg_getN hC hT G (rk_wd ⟨Nat.lt_of_lt_of_le hj14.2 hT.2.2.2.2.2, hj14.2⟩) (r_wd ⟨Nat.lt_of_lt_of_le hj14.2 hT.2.2.2.2.2, hj14.2⟩) k_X10 i_X11_pass_X10 7 (by decide) 17 rfl rfl dX11_pass_134 ?_
      refine lv_if_ne (tgt := 158) hC.1 hC.2.1 dX11_pass_137 (by decide) (fun c15 => ?_) (fun c15 => ?_)
      · replace h := h.2 c15
        refine lv_goto (tgt := 112) hC.1 hC.2.1 dX11_pass_158 (by decide) ?_
        have hg : gh (up2 (up2 σ 64 0 (nI (j13 + 1))) 64 1 (nI j13)) = gh σ := by (first | rfl | repeat (first | rw [gh_set (by omega)] | rw [gh_up (by omega)] | rw [gh_rw0 (by omega)] | rw [gh_mrg]))
        refine W.widen (k := q) (n := 16 * (q)) (by omega) (by omega) ?_
        exact ih q lay hT _ _ (by omega) h _ _ _ G (lv_sub hl [1, 2, 3, 4] rfl)
      · replace h := h.1 c15
        refine lv_aload hC.1 hC.2.1 dX11_pass_140 (lv_at hl 0 rfl) ?_
        refine rg_getN hC hT G (rk_wd ⟨Nat.lt_of_lt_of_le hj14.2 hT.2.2.2.2.2, hj14.2⟩) (r_wd ⟨Nat.lt_of_lt_of_le hj14.2 hT.2.2.2.2.2, hj14.2⟩) k_X10 i_X11_pass_X10 1 (by decide) 11 rfl rfl dX11_pass_142 ?_
        refine lv_aload_n hC.1 hC.2.1 dX11_pass_145 rfl (lv_at hl 1 rfl) ?_
        refine rg_get hC hT G (by decide) r_mo k_X11 i_X11_pass_X11 1 (by decide) (wm 2 rfl) rfl dX11_pass_146 ?_
        refine lv_icmp_ne (tgt := 158) hC.1 hC.2.1 dX11_pass_149 (by decide) (fun c16 => ?_) (fun c16 => ?_)
        · replace h := h.2 c16
          refine lv_goto (tgt := 112) hC.1 hC.2.1 dX11_pass_158 (by decide) ?_
          have hg : gh (up2 (up2 σ 64 0 (nI (j13 + 1))) 64 1 (nI j13)) = gh σ := by (first | rfl | repeat (first | rw [gh_set (by omega)] | rw [gh_up (by omega)] | rw [gh_rw0 (by omega)] | rw [gh_mrg]))
          refine W.widen (k := q) (n := 16 * (q)) (by omega) (by omega) ?_
          exact ih q lay hT _ _ (by omega) h _ _ _ G (lv_sub hl [1, 2, 3, 4] rfl)
        · replace h := h.1 c16
          refine lv_aload hC.1 hC.2.1 dX11_pass_152 (lv_at hl 0 rfl) ?_
          refine lv_iconst (v := 3) hC.1 hC.2.1 dX11_pass_154 (by decide) ?_
          refine rg_putN hC hT G (rk_wd ⟨Nat.lt_of_lt_of_le hj14.2 hT.2.2.2.2.2, hj14.2⟩) (r_wd ⟨Nat.lt_of_lt_of_le hj14.2 hT.2.2.2.2.2, hj14.2⟩) k_X10 i_X11_pass_X10 7 (by decide) 17 rfl rfl rfl (by simp) (r_wd ⟨Nat.lt_of_lt_of_le hj14.2 hT.2.2.2.2.2, hj14.2⟩) (by rw [up2_eq]; rfl) dX11_pass_155 (fun H locs G => ?_)
          refine lv_goto (tgt := 112) hC.1 hC.2.1 dX11_pass_158 (by decide) ?_
          have hg : gh (up2 (up2 (up2 σ 64 0 (nI (j13 + 1))) 64 1 (nI j13)) (33 + j13) 7 3) = gh σ := by (first | rfl | repeat (first | rw [gh_set (by omega)] | rw [gh_up (by omega)] | rw [gh_rw0 (by omega)] | rw [gh_mrg]))
          refine W.widen (k := q) (n := 16 * (q)) (by omega) (by omega) ?_
          exact ih q lay hT _ _ (by omega) h _ _ _ G (lv_sub hl [1, 2, 3, 4] rfl)
def u_X11_pass_54 (Γ : RG) (post : Int32 → MS → Prop) (a1 : Int32) (K41 : MS → Int32 → Prop) : Nat → MS → Int32 → Prop
  | 0, _, _ => False
  | n + 1, σ, v2 => (((b01 (!decide (σ 64 0 = σ 3 2))) = 0 → (∃ k, u_X11_pass_112 Γ post a1 K41 k (rw0 σ 64 (itR (σ 3 0))) v2)) ∧ (¬ (b01 (!decide (σ 64 0 = σ 3 2))) = 0 → (∃ j17 : Nat, (σ 64 0 = nI j17 ∧ j17 < Γ.2.2.1) ∧ σ 64 2 = σ 3 0 ∧ σ 3 2 = nI Γ.2.2.1 ∧ ((((up2 (up2 σ 64 0 (nI (j17 + 1))) 64 1 (nI j17)) (33 + j17) 7) = 1 → ((((up2 (up2 σ 64 0 (nI (j17 + 1))) 64 1 (nI j17)) (33 + j17) 1) = ((up2 (up2 σ 64 0 (nI (j17 + 1))) 64 1 (nI j17)) 0 1) → (∃ b22 : Nat, gh (up2 (up2 σ 64 0 (nI (j17 + 1))) 64 1 (nI j17)) = b22 + 1 ∧ b22 < 1000 ∧ w_X11_playNow Γ (fun σ21 => u_X11_pass_54 Γ post a1 K41 n (up2 (mrg σ21 (up2 (up2 σ 64 0 (nI (j17 + 1))) 64 1 (nI j17))) 62 0 (nI b22)) v2) (up2 (up2 σ 64 0 (nI (j17 + 1))) 64 1 (nI j17)) j17)) ∧ (¬ ((up2 (up2 σ 64 0 (nI (j17 + 1))) 64 1 (nI j17)) (33 + j17) 1) = ((up2 (up2 σ 64 0 (nI (j17 + 1))) 64 1 (nI j17)) 0 1) → u_X11_pass_54 Γ post a1 K41 n (up2 (up2 σ 64 0 (nI (j17 + 1))) 64 1 (nI j17)) v2))) ∧ (¬ ((up2 (up2 σ 64 0 (nI (j17 + 1))) 64 1 (nI j17)) (33 + j17) 7) = 1 → u_X11_pass_54 Γ post a1 K41 n (up2 (up2 σ 64 0 (nI (j17 + 1))) 64 1 (nI j17)) v2)))))
set_option maxHeartbeats 4000000 in
set_option maxRecDepth 100000 in
theorem l_X11_pass_54 {p : Program} {l : Launch} {e : Env} {s : State} {m : MethodId} {args : Array Value} {below : List Frame} {meth : Method} {c : Code} {D : va_G} {cy : Nat → ClassId} {Γ : RG} {post : Int32 → MS → Prop} (a1 : Int32) (K41 : MS → Int32 → Prop) (XK : Nat) (hC : CallFix p m c cX11_pass 5 s args wsX11_pass RX11) (hr : meth.sig.returnType = some .int) (hlocks : meth.locks = false) (hK41 : ∀ (q : Nat) (lay : Nat → Nat), rT D cy lay Γ s → ∀ (σ : MS) (v2 : Int32), q + XK + 4 * gh σ ≤ 239 → K41 σ v2 → ∀ (H : Heap) (locs : List Loc) (ls : Array Slot), rG D cy lay Γ tn σ (rA cy lay Γ s.heap.size) s.heap H locs → lv_has ls 5 [(0, .ref (lay 0)), (1, .int a1), (2, .int v2)] → W p l e rm_X11_pass s m args below meth c H locs q (16 * (q)) (MQ below (va_Qi post (rO D cy lay Γ) (rA cy lay Γ s.heap.size)) args s 239 3824 (rA cy lay Γ s.heap.size)) (F0 m 41 ls [])) : ∀ (n : Nat), ∀ (q : Nat) (lay : Nat → Nat), rT D cy lay Γ s → ∀ (σ : MS) (v2 : Int32), q + n * 0 + 2 + XK + 4 * gh σ ≤ 239 → u_X11_pass_54 Γ post a1 K41 n σ v2 → ∀ (H : Heap) (locs : List Loc) (ls : Array Slot), rG D cy lay Γ (gU tn 64 (some (2, 3))) σ (rA cy lay Γ s.heap.size) s.heap H locs → lv_has ls 5 [(0, .ref (lay 0)), (1, .int a1), (2, .int v2), (3, .ref (lay 64))] → W p l e rm_X11_pass s m args below meth c H locs q (16 * (q)) (MQ below (va_Qi post (rO D cy lay Γ) (rA cy lay Γ s.heap.size)) args s 239 3824 (rA cy lay Γ s.heap.size)) (F0 m 54 ls []) := by
  intro n
  induction n with
  | zero =>
    intro q lay hT σ v2 hq h
    exact h.elim
  | succ n ih =>
    intro q lay hT σ v2 hq h H locs ls G hl
    rw [u_X11_pass_54] at h
    refine lv_aload_n hC.1 hC.2.1 dX11_pass_54 rfl (lv_at hl 3 rfl) ?_
    refine rg_hasNext hC hT G (k := 64) (by decide) (by decide) rfl (va_cwF 0 hC.2.2.2.2 gX11_pass_Jx35411_hasNext_aae02_f230Jx35411 rfl rfl rfl hT.2.1.2.1 hdF_hasNext ⟨Nat.le_of_ble_eq_true rfl, Nat.le_of_ble_eq_true rfl⟩) hl.1 (Nat.le_of_ble_eq_true rfl) dX11_pass_55 (show q + 0 ≤ 239 ∧ 16 * (q) + 0 ≤ 3824 by omega) (fun H locs G => ?_)
    refine lv_if_eq (tgt := 104) hC.1 hC.2.1 dX11_pass_60 (by decide) (fun c6 => ?_) (fun c6 => ?_)
    · replace h := h.1 c6
      refine lv_aload_n hC.1 hC.2.1 dX11_pass_104 rfl (lv_at hl 0 rfl) ?_
      refine rg_get hC hT G (by decide) r_mo k_X11 i_X11_pass_X11 5 (by decide) (wm 3 rfl) rfl dX11_pass_105 ?_
      replace G := rG_drop G hT.2.2.2
      replace hl : lv_has ls 5 [(0, .ref (lay 0)), (1, .int a1), (2, .int v2)] := lv_sub hl [0, 1, 2] rfl
      refine rg_iter (Q := fun lay => MQ below (va_Qi post (rO D cy lay Γ) (rA cy lay Γ s.heap.size)) args s 239 3824 (rA cy lay Γ s.heap.size)) (ql_i hT.2.2.2) hC hT G tmO_n (k := 64) (by decide) (by decide) rfl (cwV 0 hC.2.2.2.2 gX11_pass_Jx4a65c_iterator_32c93 rfl rfl rfl hdV_Jx4a65c_iterator_32c93 ⟨Nat.le_of_ble_eq_true rfl, Nat.le_of_ble_eq_true rfl⟩) hl.1 (Nat.le_of_ble_eq_true rfl) dX11_pass_108 (show q + 1 ≤ 239 ∧ 16 * (q) + 4 ≤ 3824 by omega) (fun lay hly hT H locs G => ?_)
      refine W.widen (k := q + 1) (n := 16 * (q + 1)) (by omega) (by omega) ?_
      replace hl : lv_has ls 5 [(0, .ref (lay 0)), (1, .int a1), (2, .int v2)] := by rw [hly 0 (by decide)]; exact hl
      refine lv_astore_n (lv' := [(3, .ref (lay 64)), (0, .ref (lay 0)), (1, .int a1), (2, .int v2)]) hC.1 hC.2.1 dX11_pass_111 rfl hl (by decide) rfl (fun ls hl => ?_)
      have hg : gh (rw0 σ 64 (itR (σ 3 0))) = gh σ := by (first | rfl | repeat (first | rw [gh_set (by omega)] | rw [gh_up (by omega)] | rw [gh_rw0 (by omega)] | rw [gh_mrg]))
      refine W.widen (k := q + 1) (n := 16 * (q + 1)) (by omega) (by omega) ?_
      obtain ⟨n1, h⟩ := h
      exact l_X11_pass_112 a1 K41 XK hC hr hlocks hK41 n1 (q + 1) lay hT _ _ (by omega) h _ _ _ G (lv_sub hl [1, 2, 3, 0] rfl)
    · replace h := h.2 c6
      refine lv_aload_n hC.1 hC.2.1 dX11_pass_63 rfl (lv_at hl 3 rfl) ?_
      obtain ⟨j17, hj18, hj18a, hj18b, h⟩ := h
      have hj18c : j17 < 14 := Nat.lt_of_lt_of_le hj18.2 hT.2.2.2.2.2
      refine rg_next hC hT G (k := 64) (ci := j17) (by decide) (by decide) rfl hj18 hj18a hj18b (va_cwF 0 hC.2.2.2.2 gX11_pass_Jx35411_next_0502b_f236Jx35411 rfl rfl rfl hT.2.1.2.2 hdF_next ⟨Nat.le_of_ble_eq_true rfl, Nat.le_of_ble_eq_true rfl⟩) hl.1 (Nat.le_of_ble_eq_true rfl) dX11_pass_64 (show q + 0 ≤ 239 ∧ 16 * (q) + 0 ≤ 3824 by omega) (fun H locs G => ?_)
      refine rg_cast hC hT k_X10 (wm 4 rfl) (rg_recv hT G (rk_wd ⟨Nat.lt_of_lt_of_le hj18.2 hT.2.2.2.2.2, hj18.2⟩) (r_wd ⟨Nat.lt_of_lt_of_le hj18.2 hT.2.2.2.2.2, hj18.2⟩) k_X10) dX11_pass_69 ?_
      refine lv_astore (lv' := [(4, .ref (lay (33 + j17))), (0, .ref (lay 0)), (1, .int a1), (2, .int v2), (3, .ref (lay 64))]) hC.1 hC.2.1 dX11_pass_72 hl (by decide) rfl (fun ls hl => ?_)
      refine lv_aload hC.1 hC.2.1 dX11_pass_74 (lv_at hl 0 rfl) ?_
      refine rg_getN hC hT G (rk_wd ⟨Nat.lt_of_lt_of_le hj18.2 hT.2.2.2.2.2, hj18.2⟩) (r_wd ⟨Nat.lt_of_lt_of_le hj18.2 hT.2.2.2.2.2, hj18.2⟩) k_X10 i_X11_pass_X10 7 (by decide) 17 rfl rfl dX11_pass_76 ?_
      refine lv_iconst (v := 1) hC.1 hC.2.1 dX11_pass_79 (by decide) ?_
      refine lv_icmp_ne (tgt := 101) hC.1 hC.2.1 dX11_pass_80 (by decide) (fun c19 => ?_) (fun c19 => ?_)
      · replace h := h.2 c19
        refine lv_goto (tgt := 54) hC.1 hC.2.1 dX11_pass_101 (by decide) ?_
        have hg : gh (up2 (up2 σ 64 0 (nI (j17 + 1))) 64 1 (nI j17)) = gh σ := by (first | rfl | repeat (first | rw [gh_set (by omega)] | rw [gh_up (by omega)] | rw [gh_rw0 (by omega)] | rw [gh_mrg]))
        refine W.widen (k := q) (n := 16 * (q)) (by omega) (by omega) ?_
        exact ih q lay hT _ _ (by omega) h _ _ _ G (lv_sub hl [1, 2, 3, 4] rfl)
      · replace h := h.1 c19
        refine lv_aload hC.1 hC.2.1 dX11_pass_83 (lv_at hl 0 rfl) ?_
        refine rg_getN hC hT G (rk_wd ⟨Nat.lt_of_lt_of_le hj18.2 hT.2.2.2.2.2, hj18.2⟩) (r_wd ⟨Nat.lt_of_lt_of_le hj18.2 hT.2.2.2.2.2, hj18.2⟩) k_X10 i_X11_pass_X10 1 (by decide) 11 rfl rfl dX11_pass_85 ?_
        refine lv_aload_n hC.1 hC.2.1 dX11_pass_88 rfl (lv_at hl 1 rfl) ?_
        refine rg_get hC hT G (by decide) r_mo k_X11 i_X11_pass_X11 1 (by decide) (wm 2 rfl) rfl dX11_pass_89 ?_
        refine lv_icmp_ne (tgt := 101) hC.1 hC.2.1 dX11_pass_92 (by decide) (fun c20 => ?_) (fun c20 => ?_)
        · replace h := h.2 c20
          refine lv_goto (tgt := 54) hC.1 hC.2.1 dX11_pass_101 (by decide) ?_
          have hg : gh (up2 (up2 σ 64 0 (nI (j17 + 1))) 64 1 (nI j17)) = gh σ := by (first | rfl | repeat (first | rw [gh_set (by omega)] | rw [gh_up (by omega)] | rw [gh_rw0 (by omega)] | rw [gh_mrg]))
          refine W.widen (k := q) (n := 16 * (q)) (by omega) (by omega) ?_
          exact ih q lay hT _ _ (by omega) h _ _ _ G (lv_sub hl [1, 2, 3, 4] rfl)
        · replace h := h.1 c20
          refine lv_aload_n hC.1 hC.2.1 dX11_pass_95 rfl (lv_at hl 1 rfl) ?_
          refine lv_aload hC.1 hC.2.1 dX11_pass_96 (lv_at hl 0 rfl) ?_
          obtain ⟨b22, hb22, hb22b, h⟩ := h
          have hgb22 : gh (up2 (up2 σ 64 0 (nI (j17 + 1))) 64 1 (nI j17)) = gh σ := by (first | rfl | repeat (first | rw [gh_set (by omega)] | rw [gh_up (by omega)] | rw [gh_rw0 (by omega)] | rw [gh_mrg]))
          refine rg_vM hT G (rg_runV (As := [.ref (lay (33 + j17))]) (rest := []) hC hT (rG_drop G hT.2.2.2) (c_X11_playNow l D cy lay Γ h ⟨Nat.lt_of_lt_of_le hj18.2 hT.2.2.2.2.2, hj18.2⟩ _) (cwV 1 hC.2.2.2.2 gX11_pass_X11_playNow rfl rfl rfl hdV_X11_playNow ⟨Nat.le_of_ble_eq_true rfl, Nat.le_of_ble_eq_true rfl⟩) (rg_recv hT (rG_drop G hT.2.2.2) (by decide) r_mo k_X11) rfl hl.1 rfl (Nat.le_of_ble_eq_true rfl) dX11_pass_98 (show q + 4 ≤ 239 ∧ 16 * (q) + 64 ≤ 3824 by omega)) (fun σ21 H locs h G => ?_)
          (try dsimp only at h)
          replace G := rG_gh (v := nI b22) G
          refine lv_goto (tgt := 54) hC.1 hC.2.1 dX11_pass_101 (by decide) ?_
          have hg : gh (up2 (mrg σ21 (up2 (up2 σ 64 0 (nI (j17 + 1))) 64 1 (nI j17))) 62 0 (nI b22)) = b22 := by (first | rfl | repeat (first | rw [gh_set (by omega)] | rw [gh_up (by omega)] | rw [gh_rw0 (by omega)] | rw [gh_mrg]))
          refine W.widen (k := q + 4) (n := 16 * (q + 4)) (by omega) (by omega) ?_
          exact ih (q + 4) lay hT _ _ (by omega) h _ _ _ G (lv_sub hl [1, 2, 3, 4] rfl)
def u_X11_pass_41 (Γ : RG) (post : Int32 → MS → Prop) (a1 : Int32) : Nat → MS → Int32 → Prop
  | 0, _, _ => False
  | n + 1, σ, v2 => ((a1 ≤ v2 → post (σ 0 1) σ) ∧ (¬ a1 ≤ v2 → (∃ k, u_X11_pass_54 Γ post a1 (fun σ w0 => u_X11_pass_41 Γ post a1 n σ w0) k (rw0 σ 64 (itR (σ 3 0))) v2)))
set_option maxHeartbeats 4000000 in
set_option maxRecDepth 100000 in
theorem l_X11_pass_41 {p : Program} {l : Launch} {e : Env} {s : State} {m : MethodId} {args : Array Value} {below : List Frame} {meth : Method} {c : Code} {D : va_G} {cy : Nat → ClassId} {Γ : RG} {post : Int32 → MS → Prop} (a1 : Int32) (hC : CallFix p m c cX11_pass 5 s args wsX11_pass RX11) (hr : meth.sig.returnType = some .int) (hlocks : meth.locks = false) : ∀ (n : Nat), ∀ (q : Nat) (lay : Nat → Nat), rT D cy lay Γ s → ∀ (σ : MS) (v2 : Int32), q + n * 3 + 0 + 4 * gh σ ≤ 239 → u_X11_pass_41 Γ post a1 n σ v2 → ∀ (H : Heap) (locs : List Loc) (ls : Array Slot), rG D cy lay Γ tn σ (rA cy lay Γ s.heap.size) s.heap H locs → lv_has ls 5 [(0, .ref (lay 0)), (1, .int a1), (2, .int v2)] → W p l e rm_X11_pass s m args below meth c H locs q (16 * (q)) (MQ below (va_Qi post (rO D cy lay Γ) (rA cy lay Γ s.heap.size)) args s 239 3824 (rA cy lay Γ s.heap.size)) (F0 m 41 ls []) := by
  intro n
  induction n with
  | zero =>
    intro q lay hT σ v2 hq h
    exact h.elim
  | succ n ih =>
    intro q lay hT σ v2 hq h H locs ls G hl
    rw [u_X11_pass_41] at h
    refine lv_iload_n hC.1 hC.2.1 dX11_pass_41 rfl (lv_at hl 2 rfl) ?_
    refine lv_iload_n hC.1 hC.2.1 dX11_pass_42 rfl (lv_at hl 1 rfl) ?_
    refine lv_icmp_ge (tgt := 236) hC.1 hC.2.1 dX11_pass_43 (by decide) (fun c5 => ?_) (fun c5 => ?_)
    · replace h := h.1 c5
      refine lv_aload_n hC.1 hC.2.1 dX11_pass_236 rfl (lv_at hl 0 rfl) ?_
      refine rg_get hC hT G (by decide) r_mo k_X11 i_X11_pass_X11 1 (by decide) (wm 2 rfl) rfl dX11_pass_237 ?_
      refine W.widen (k := 239) (n := 3824) (by omega) (by omega) ?_
      exact rg_iret hC hr hlocks G h dX11_pass_240
    · replace h := h.2 c5
      refine lv_aload_n hC.1 hC.2.1 dX11_pass_46 rfl (lv_at hl 0 rfl) ?_
      refine rg_get hC hT G (by decide) r_mo k_X11 i_X11_pass_X11 5 (by decide) (wm 3 rfl) rfl dX11_pass_47 ?_
      refine rg_iter (Q := fun lay => MQ below (va_Qi post (rO D cy lay Γ) (rA cy lay Γ s.heap.size)) args s 239 3824 (rA cy lay Γ s.heap.size)) (ql_i hT.2.2.2) hC hT G tmO_n (k := 64) (by decide) (by decide) rfl (cwV 0 hC.2.2.2.2 gX11_pass_Jx4a65c_iterator_32c93 rfl rfl rfl hdV_Jx4a65c_iterator_32c93 ⟨Nat.le_of_ble_eq_true rfl, Nat.le_of_ble_eq_true rfl⟩) hl.1 (Nat.le_of_ble_eq_true rfl) dX11_pass_50 (show q + 1 ≤ 239 ∧ 16 * (q) + 4 ≤ 3824 by omega) (fun lay hly hT H locs G => ?_)
      refine W.widen (k := q + 1) (n := 16 * (q + 1)) (by omega) (by omega) ?_
      replace hl : lv_has ls 5 [(0, .ref (lay 0)), (1, .int a1), (2, .int v2)] := by rw [hly 0 (by decide)]; exact hl
      refine lv_astore_n (lv' := [(3, .ref (lay 64)), (0, .ref (lay 0)), (1, .int a1), (2, .int v2)]) hC.1 hC.2.1 dX11_pass_53 rfl hl (by decide) rfl (fun ls hl => ?_)
      have hg : gh (rw0 σ 64 (itR (σ 3 0))) = gh σ := by (first | rfl | repeat (first | rw [gh_set (by omega)] | rw [gh_up (by omega)] | rw [gh_rw0 (by omega)] | rw [gh_mrg]))
      refine W.widen (k := q + 1) (n := 16 * (q + 1)) (by omega) (by omega) ?_
      obtain ⟨n1, h⟩ := h
      exact l_X11_pass_54 a1 (fun σ w0 => u_X11_pass_41 Γ post a1 n σ w0) (n * 3 + 0) hC hr hlocks (fun q lay hT σ x0 hq => ih q lay hT σ x0 (by omega)) n1 (q + 1) lay hT _ _ (by omega) h _ _ _ G (lv_sub hl [1, 2, 3, 0] rfl)
def w_X11_pass (Γ : RG) (post : Int32 → MS → Prop) (σ : MS) (a1 : Int32) : Prop := w_X11_is Γ (fun r2 σ1 => ((r2 = 0 → w_X11_refuse Γ (fun r26 σ25 => post r26 σ25) σ1 1) ∧ (¬ r2 = 0 → ((((σ1 0 1) + a1) ≤ 365 → (∃ k, k ≤ 61 ∧ u_X11_pass_41 Γ post a1 k (up2 σ1 62 0 (nI 14)) 0)) ∧ (¬ ((σ1 0 1) + a1) ≤ 365 → w_X11_refuse Γ (fun r24 σ23 => post r24 σ23) σ1 2))))) (up2 σ 0 0 0) a1 1 60
set_option maxHeartbeats 4000000 in
set_option maxRecDepth 100000 in
theorem c_X11_pass (l : Launch) (D : va_G) (cy : Nat → ClassId) (lay : Nat → Nat) (Γ : RG) {σ : MS} {post : Int32 → MS → Prop} {a1 : Int32} (h : w_X11_pass Γ post σ a1) (sz : Nat) : Met l yX11_pass wsX11_pass rm_X11_pass (va_Pc [.ref (lay 0), .int a1] (rI D cy lay Γ σ sz)) (va_Qi post (rO D cy lay Γ) (rA cy lay Γ sz)) 239 3824 (rA cy lay Γ sz) := by
  refine rg_ofW (cc := cX11_pass) (maxL := 5) (ret := some .int) (own := RX11) (Qc := fun sz => va_Qi post (rO D cy lay Γ) (rA cy lay Γ sz)) (by decide) rfl (Nat.le_of_ble_eq_true rfl) rfl ?_
  intro p e s m args below meth c ls hC hr hlocks hT G hl
  unfold w_X11_pass at h
  have hl : lv_has ls 5 [(0, .ref (lay 0)), (1, .int a1)] := hl
  refine lv_aload_n hC.1 hC.2.1 dX11_pass_0 rfl (lv_at hl 0 rfl) ?_
  refine lv_iconst (v := 0) hC.1 hC.2.1 dX11_pass_1 (by decide) ?_
  refine rg_put hC hT G (by decide) r_mo k_X11 i_X11_pass_X11 0 (by decide) (wm 1 rfl) rfl rfl (by simp) r_mo (by rw [up2_eq]; rfl) dX11_pass_2 (fun H locs G => ?_)
  refine lv_iload_n hC.1 hC.2.1 dX11_pass_5 rfl (lv_at hl 1 rfl) ?_
  refine lv_iconst (v := 1) hC.1 hC.2.1 dX11_pass_6 (by decide) ?_
  refine lv_bipush (v := 60) hC.1 hC.2.1 dX11_pass_7 (by decide) ?_
  refine rg_i G (rg_runS (As := [.int a1, .int 1, .int 60]) (rest := []) hC hT G (c_X11_is l D cy lay Γ h _) (va_cwS 3 hC.2.2.2.2 gX11_pass_X11_is rfl rfl rfl hdS_X11_is ⟨Nat.le_of_ble_eq_true rfl, Nat.le_of_ble_eq_true rfl⟩) rfl hl.1 rfl (Nat.le_of_ble_eq_true rfl) dX11_pass_9 (show 0 + 0 ≤ 239 ∧ 0 + 0 ≤ 3824 by omega)) (fun r2 σ1 H locs h G => ?_)
  (try dsimp only at h)
  refine lv_if_ne (tgt := 21) hC.1 hC.2.1 dX11_pass_12 (by decide) (fun c3 => ?_) (fun c3 => ?_)
  · replace h := h.2 c3
    refine lv_aload_n hC.1 hC.2.1 dX11_pass_21 rfl (lv_at hl 0 rfl) ?_
    refine rg_get hC hT G (by decide) r_mo k_X11 i_X11_pass_X11 1 (by decide) (wm 2 rfl) rfl dX11_pass_22 ?_
    refine lv_iload_n hC.1 hC.2.1 dX11_pass_25 rfl (lv_at hl 1 rfl) ?_
    refine lv_iadd hC.1 hC.2.1 dX11_pass_26 ?_
    refine lv_sipush (v := 365) hC.1 hC.2.1 dX11_pass_27 (by decide) ?_
    refine lv_icmp_le (tgt := 39) hC.1 hC.2.1 dX11_pass_30 (by decide) (fun c4 => ?_) (fun c4 => ?_)
    · replace h := h.1 c4
      refine lv_iconst (v := 0) hC.1 hC.2.1 dX11_pass_39 (by decide) ?_
      refine lv_istore_n (lv' := [(2, .int 0), (0, .ref (lay 0)), (1, .int a1)]) hC.1 hC.2.1 dX11_pass_40 rfl hl (by decide) rfl (fun ls hl => ?_)
      replace G := rG_gh (v := nI 14) G
      have hg : gh (up2 σ1 62 0 (nI 14)) = 14 := gh_set (by decide)
      refine W.widen (k := 0) (n := 0) (by omega) (by omega) ?_
      obtain ⟨n1, hk1, h⟩ := h
      exact l_X11_pass_41 a1 hC hr hlocks n1 0 lay hT _ _ (by omega) h _ _ _ G (lv_sub hl [1, 2, 0] rfl)
    · replace h := h.2 c4
      refine lv_aload_n hC.1 hC.2.1 dX11_pass_33 rfl (lv_at hl 0 rfl) ?_
      refine lv_iconst (v := 2) hC.1 hC.2.1 dX11_pass_34 (by decide) ?_
      refine rg_i G (rg_runV (As := [.int 2]) (rest := []) hC hT G (c_X11_refuse l D cy lay Γ h _) (cwV 1 hC.2.2.2.2 gX11_pass_X11_refuse rfl rfl rfl hdV_X11_refuse ⟨Nat.le_of_ble_eq_true rfl, Nat.le_of_ble_eq_true rfl⟩) (rg_recv hT G (by decide) r_mo k_X11) rfl hl.1 rfl (Nat.le_of_ble_eq_true rfl) dX11_pass_35 (show 0 + 0 ≤ 239 ∧ 0 + 0 ≤ 3824 by omega)) (fun r24 σ23 H locs h G => ?_)
      (try dsimp only at h)
      refine W.widen (k := 239) (n := 3824) (by omega) (by omega) ?_
      exact rg_iret hC hr hlocks G h dX11_pass_38
  · replace h := h.1 c3
    refine lv_aload_n hC.1 hC.2.1 dX11_pass_15 rfl (lv_at hl 0 rfl) ?_
    refine lv_iconst (v := 1) hC.1 hC.2.1 dX11_pass_16 (by decide) ?_
    refine rg_i G (rg_runV (As := [.int 1]) (rest := []) hC hT G (c_X11_refuse l D cy lay Γ h _) (cwV 1 hC.2.2.2.2 gX11_pass_X11_refuse rfl rfl rfl hdV_X11_refuse ⟨Nat.le_of_ble_eq_true rfl, Nat.le_of_ble_eq_true rfl⟩) (rg_recv hT G (by decide) r_mo k_X11) rfl hl.1 rfl (Nat.le_of_ble_eq_true rfl) dX11_pass_17 (show 0 + 0 ≤ 239 ∧ 0 + 0 ≤ 3824 by omega)) (fun r26 σ25 H locs h G => ?_)
    (try dsimp only at h)
    refine W.widen (k := 239) (n := 3824) (by omega) (by omega) ?_
    exact rg_iret hC hr hlocks G h dX11_pass_20
theorem hdV_X11_pass : yX11_pass.cls = RX11 ∧ yX11_pass.cls ≠ "java/lang/invoke/MethodHandle" ∧ yX11_pass.cls ≠ "java/lang/invoke/VarHandle" ∧ (parseMethodDescriptor yX11_pass.desc).map (fun d => d.parameters.length) = some 1 := by decide +kernel
end
section
/-! THE REFERENCE: adding to a list -/
/-- what the tables say of the empty row, of rows of objects and of their class object -/
def hZs (D : va_G) (cy : Nat → ClassId) (ea mi : Nat) (A : Nat → Prop) (U : State) : Prop :=
  va_Z "java/util/ArrayList" "DEFAULTCAPACITY_EMPTY_ELEMENTDATA" "[Ljava/lang/Object;" (.ref ea) A U U.heap ∧ va_T (.object "java/lang/Object") ea 0 (fun _ => .null) A U U.heap ∧ ¬ A ea ∧ va_AO "java/lang/Object" U ∧ va_Mi "[Ljava/lang/Object;" mi U ∧ va_Dc U
def hK (D : va_G) (cy : Nat → ClassId) (lay : Nat → Nat) (X : Nat → Option va_E) (ea mi : Nat) (sz : Nat) (U : State) : Prop := hI D cy lay X sz U ∧ hZs D cy ea mi (gA lay X sz) U
theorem hK_blind {D : va_G} {cy : Nat → ClassId} {lay : Nat → Nat} {X : Nat → Option va_E} {ea mi : Nat} {sz : Nat} {As : List Value} : FrameBlind (va_Pc As (hK D cy lay X ea mi sz)) := by
  intro a U g mk h
  obtain ⟨h0, h1, k1, k2, k3, k4, k5, k6⟩ := h
  have := hI_blind (D := D) (cy := cy) (lay := lay) (X := X) (sz := sz) (As := As) a U g mk ⟨h0, h1⟩
  exact ⟨this.1, this.2, va_Z.moved (u := U) (U := U.calling g mk a) (Vm.Alike.refl U.vm) k1, va_T.moved (u := U) (U := U.calling g mk a) (Vm.Alike.refl U.vm) k2, k3, va_AO.moved (u := U) (U := U.calling g mk a) (Vm.Alike.refl U.vm) k4, va_Mi.moved (u := U) (U := U.calling g mk a) (Vm.Alike.refl U.vm) k5, va_Dc.moved (u := U) (U := U.calling g mk a) (Vm.Alike.refl U.vm) k6⟩
section KROWS
variable {p : Program} {l : Launch} {e : Env} {R : Room} {s : State} {m : MethodId} {args : Array Value} {below : List Frame} {meth : Method} {c : Code} {H : Heap} {locs : List Loc} {cells slots : Nat} {Q : State → Prop}
variable {cc bytes : ByteArray} {pc nL maxL mc ms n index ea mi : Nat} {ls : Array Slot} {ST rest As : List Value} {D : va_G} {cy : Nat → ClassId} {lay lay0 : Nat → Nat} {X X0 : Nat → Option va_E} {A : Nat → Prop} {H0 : Heap} {Ts ws : List Cond} {own Cn host : String} {y : MethodName} {ret : Option FieldType} {rm : Room} {b : Addr} {tys : List (ClassId × FieldType)}
variable {Qc : Array Value → State → Outcome → State → Prop} {free : Addr → Prop}
theorem k_ofW {ws' : List Cond} {maxL : Nat} {sz : Nat} {Qc : Nat → Array Value → State → Outcome → State → Prop} (hy : plainName y.cls = true) (hw : ws = Cond.code y cc maxL ret :: ws') (hnl : (lg_sl As).length ≤ maxL) (hoo : y.cls = own)
    (body : ∀ (p : Program) (e : Env) (s : State) (m : MethodId) (args : Array Value) (below : List Frame) (meth : Method) (c : Code) (ls : Array Slot), CallFix p m c cc maxL s args ws own → meth.sig.returnType = ret → meth.locks = false → meth.name = y.name → va_K D vwCl (fdT cy) s ∧ rN s → hZs D cy ea mi (gA lay X s.heap.size) s → gG D lay X (gA lay X s.heap.size) s.heap s.heap [] → lv_has ls maxL (lv_args 0 As) →
      W p l e rm s m args below meth c s.heap [] 0 0 (MQ below (Qc s.heap.size) args s mc ms (gA lay X s.heap.size)) (F0 m 0 ls [])) : Met l y ws rm (va_Pc As (hK D cy lay X ea mi sz)) (Qc sz) mc ms (gA lay X sz) := by
  refine Met.ofW (cc := cc) (maxL := maxL) (ret := ret) hy hw ?_
  intro p e s m args below meth c s₁ B hml hv
  obtain ⟨rfl, ⟨hsz, hT, hP, hI⟩, hZ⟩ := hv
  subst hsz
  have hl := lv_entry As (n := maxL) hnl
  rw [lg_entry_eq]
  have hown : s.vm.findClass y.cls = some m.cls := findClass_of_methodNamed B.named
  rw [hoo] at hown
  exact body p e s m As.toArray below meth c _ ⟨B.exec, B.bytes, hml, hown, atoms_spec (ws := ws) B.pre⟩ B.returns B.notSynchronized (name_of_methodNamed B.named B.method).1 hT hZ ⟨hP, gI_self hI, va_S.rf⟩ hl
theorem hZs_next {s U : State} {H : Heap} {locs : List Loc} {A B : Nat → Prop} (hZ : hZs D cy ea mi A s) (hS : va_S A s.heap H locs) (hB : ∀ q, B q → A q) (hU : U.heap = H) (hW : s.WarmedH U.vm) : hZs D cy ea mi B U := by
  obtain ⟨k1, k2, k3, k4, k5, k6⟩ := hZ
  refine ⟨?_, ?_, fun z => k3 (hB _ z), k4.moved hW.alike, k5.moved hW.alike, k6.moved hW.alike⟩
  · rw [hU]
    exact ((k1.moved hW.alike).kept hS.2.1).narrow hB
  · rw [hU]
    exact ((va_T.moved hW.alike k2).kept hS.2.1).narrow hB
theorem hK_next {s U : State} {H : Heap} {locs : List Loc} (hT : va_K D vwCl (fdT cy) s ∧ rN s) (hZ : hZs D cy ea mi A s) (G : gG D lay X A s.heap H locs) (hA : ∀ q, s.heap.size ≤ q → A q) (hU : U.heap = H) (hW : s.WarmedH U.vm) : hK D cy lay X ea mi H.size U :=
  ⟨hI_next hT G hU hW, hZs_next hZ G.2.2 (gA_in G hA) hU hW⟩
theorem k_runV (hC : CallFix p m c cc nL s args Ts own) (hT : va_K D vwCl (fdT cy) s ∧ rN s) (hZ : hZs D cy ea mi A s) (hA : ∀ q, s.heap.size ≤ q → A q) (G : gG D lay X A s.heap H locs) (hM : Met l y ws rm (va_Pc (.ref b :: As) (hK D cy lay X ea mi H.size)) Qc mc ms free) (cw : CallW R s args own Cn index y bytes maxL ret ws rm mc ms n) (hrv : ∃ cell : Cell, H[b]? = some cell ∧ cell.vm.isStatics = false ∧ s.vm.findClass Cn = some cell.cls)
    (hn : As.length = n) (hls : ls.size = nL) (hst : ST = As.reverse ++ .ref b :: rest) (hW : (rest.map fun v => v.category).sum ≤ 8) (hdg : decode cc pc = .ok (.invokevirtual index, 3)) (hf : cells + mc ≤ R.cells ∧ slots + ms ≤ R.slots) :
    va_Run p l e R s m args below meth c H locs cells slots mc ms (F0 m pc ls ST) rest (Qc (.ref b :: As).toArray) free :=
  va_runV hC hM cw ⟨hK_blind, hrv, fun U hU hW => ⟨rfl, hK_next hT hZ G hA hU hW⟩⟩ rfl hn hls hst (lv_room hW) hdg hf
theorem k_r {post : GY → Prop} {a : Array Value} (G : gG D lay X A H0 H locs) (hA : ∀ q, H0.size ≤ q → A q) {f : GY → Nat} (hr : va_Run p l e R s m args below meth c H locs cells slots mc ms (F0 m pc ls ST) rest (va_Qr (S := GY) post (fun Y a t => a = f Y ∧ gO D (gA lay X H.size) Y t) (gA lay X H.size) a) (gA lay X H.size))
    (kk : ∀ (Y : GY) (H1 : Heap) (locs1 : List Loc), post Y → gG D Y.1 Y.2 A H0 H1 locs1 → W p l e R s m args below meth c H1 locs1 (cells + mc) (slots + ms) Q (F0 m (pc + 3) ls (.ref (f Y) :: rest))) : W p l e R s m args below meth c H locs cells slots Q (F0 m pc ls ST) :=
  va_callr hr G.2.2 (fun q _ h => gA_in G hA q h) (gA_in G hA) (fun u ra t H1 locs1 ht hvm hw hB hz hk hS => by
    obtain ⟨e1, hO⟩ := hB
    subst e1
    exact kk u H1 locs1 hw ⟨by rw [← ht]; exact hO.1, gI_weak hO.2 (gA_in G hA), hS⟩)
theorem g_putS {C ref : String} {T : u_T} {N ci : Nat} {ty : Nat → FieldType} (hC : CallFix p m c cc nL s args Ts own) (hK : va_K D vwCl tys s) (G : gG D lay X A H0 H locs) {k : Nat} (hk : k < 128) {fs : List Value} (he : X k = some (.inr (ci, fs))) (hcl : agCl C T N ci ty) (hin : ∀ w ∈ u_ws C T N, w ∈ Ts) (j : Nat) (hj : j < N) (hl : Cond.fieldLink own index ref (T j).2.1 (T j).2.2.1 ∈ Ts) (hs : Cond.sameField ref (T j).1 (T j).2.1 (T j).2.2.1 ∈ Ts) (hfin : (T j).2.2.2 = false) {v : Value} (hn : narrow (ty j) v = v) (hfit : fits (ty j) v = true) (hjl : j < fs.length) (hdg : decode cc pc = .ok (.putfield index, 3))
    (kk : ∀ (H1 : Heap) (locs1 : List Loc), gG D lay (gU X k (some (.inr (ci, fs.set j v)))) A H0 H1 locs1 → W p l e R s m args below meth c H1 locs1 cells slots Q (F0 m (pc + 3) ls rest)) : W p l e R s m args below meth c H locs cells slots Q (F0 m pc ls (v :: .ref (lay k) :: rest)) := by
  obtain ⟨q0, hq⟩ := gW_pos (lay := lay) hk he
  exact va_put hC.1 hC.2.1 hC.2.2.2.2 hin ty hcl.2.1 hcl.2.2 hC.2.2.2.1 hK (gP_list G.1) (gI_list G.2.1) G.2.2 q0 hq hcl.1 j hj (hC.2.2.2.2 _ hl) (fun x h => u_same (hC.2.2.2.2 _ hs) x h) hfin (hcl.2.1 j hj) hn hfit hjl hdg (fun H1 locs1 hP hD hS => kk H1 locs1 ⟨gP_set G.2.1 hk he hq hP, gI_set G.2.1 he, hS⟩)
/-- an object put into a row of objects -/
theorem g_asto {k kv : Nat} (hC : CallFix p m c cc nL s args Ts own) (hT : va_K D vwCl (fdT cy) s) (G : gG D lay X A H0 H locs) (hk : k < 128) (hkv : kv < 128) (ci : Nat) {r : vw_C} {n : Nat} {vs : List Value} {f : Nat → Option Nat} (he : X k = some (.inl (cy 7, n, rfS f))) (hca : va_Nw (.castable r.1 "java/lang/Object") s) (hev : X kv = some (.inr (ci, vs))) (hc : vwCl[ci]? = some r) {i : Int32} (hin : vp_in i n) (hdg : decode cc pc = .ok (.aastore, 1))
    (kk : ∀ (H1 : Heap) (locs1 : List Loc), gG D lay (gU X k (some (.inl (cy 7, n, rfS (va_up f i.toNatClampNeg (some (lay kv))))))) A H0 H1 locs1 → W p l e R s m args below meth c H1 locs1 cells slots Q (F0 m (pc + 1) ls rest)) : W p l e R s m args below meth c H locs cells slots Q (F0 m pc ls (.ref (lay kv) :: .int i :: .ref (lay k) :: rest)) := by
  obtain ⟨q0, hq⟩ := gW_pos (lay := lay) hk he
  obtain ⟨qv, hqv⟩ := gW_pos (lay := lay) hkv hev
  exact va_astqO hC.1 hC.2.1 hT (gP_list G.1) (gI_list G.2.1) G.2.2 q0 7 qv ci hq rfl hca hqv hc hin hdg (fun H1 locs1 hP hD hS => kk H1 locs1 ⟨gP_set G.2.1 hk he hq hP, gI_set G.2.1 he, hS⟩)
end KROWS
abbrev lsE (cy : Nat → ClassId) (a mo n : Int32) (o : Nat) : va_E := .inr (4, [.int mo, .ref o, .int n])
abbrev rm_gr0 : Room := { frames := 1, cells := 1, slots := 10, locals := 40 }
abbrev rm_gr1 : Room := { frames := 2, cells := 1, slots := 10, locals := 80 }
abbrev rm_ad3 : Room := { frames := 3, cells := 1, slots := 10, locals := 120 }
abbrev rm_add : Room := { frames := 4, cells := 1, slots := 10, locals := 160 }
theorem i_gr0_L : ∀ w ∈ wsJx4a65c0, w ∈ wsJx4a65c_grow_92f84 := fun _ h => List.mem_cons_of_mem _ (List.mem_append_right _ h)
theorem i_gr1_L : ∀ w ∈ wsJx4a65c0, w ∈ wsJx4a65c_grow_d5877 := fun _ h => List.mem_cons_of_mem _ (List.mem_append_right _ h)
theorem i_ad3_L : ∀ w ∈ wsJx4a65c0, w ∈ wsJx4a65c_add_72be8 := fun _ h => List.mem_cons_of_mem _ (List.mem_append_right _ h)
theorem i_add_L : ∀ w ∈ wsJx4a65c0, w ∈ wsJx4a65c_add_9ea2d := fun _ h => List.mem_cons_of_mem _ (List.mem_append_right _ h)
/-- the first room: ten places -/
abbrev arr0 (cy : Nat → ClassId) : va_E := .inl (cy 7, 10, rfS fun _ => none)
set_option maxHeartbeats 4000000 in
set_option maxRecDepth 100000 in
theorem c_gr0 (l : Launch) (D : va_G) (cy : Nat → ClassId) (lay : Nat → Nat) (X : Nat → Option va_E) (ea mi : Nat) {kl ke : Nat} (hkl : kl < 128) (hke : ke < 128) (hne : kl ≠ ke) {mo n : Int32} (h1 : X kl = some (.inr (4, [.int mo, .ref ea, .int n]))) (h2 : X ke = none) (sz : Nat) : Met l yJx4a65c_grow_92f84 wsJx4a65c_grow_92f84 rm_gr0 (va_Pc [.ref (lay kl), .int 1] (hK D cy lay X ea mi sz)) (va_Qr (S := GY) (fun Y => ∃ q, Y = (gU lay ke q, gU (gU X ke (some (arr0 cy))) kl (some (.inr (4, [.int mo, .ref q, .int n]))))) (fun Y a t => a = Y.1 ke ∧ gO D (gA lay X sz) Y t) (gA lay X sz)) 1 10 (gA lay X sz) := by
  refine k_ofW (cc := cJx4a65c_grow_92f84) (maxL := 4) (ret := some (.array (.object "java/lang/Object"))) (own := RJx4a65c) (Qc := fun sz => va_Qr (S := GY) (fun Y => ∃ q, Y = (gU lay ke q, gU (gU X ke (some (arr0 cy))) kl (some (.inr (4, [.int mo, .ref q, .int n]))))) (fun Y a t => a = Y.1 ke ∧ gO D (gA lay X sz) Y t) (gA lay X sz)) (by decide) rfl (Nat.le_of_ble_eq_true rfl) rfl ?_
  intro p e0 s m args below meth c ls hC hr hlocks hname hT hZ G hl
  have hl : lv_has ls 4 [(0, .ref (lay kl)), (1, .int 1)] := hl
  have hA : ∀ q, s.heap.size ≤ q → gA lay X s.heap.size q := fun _ h => Or.inr h
  refine lv_aload_n hC.1 hC.2.1 dJx4a65c_grow_92f84_0 rfl (lv_at hl 0 rfl) ?_
  refine g_get hC hT.1 G hkl h1 k_AL i_gr0_L 1 (by decide) (wm 1 rfl) rfl dJx4a65c_grow_92f84_1 ?_
  refine va_tlen (ty := .object "java/lang/Object") (N := 0) (f := fun _ => .null) hC.1 hC.2.1 hZ.2.1 G.2.2 rfl dJx4a65c_grow_92f84_4 ?_
  refine lv_istore_n (lv' := [(2, .int 0), (0, .ref (lay kl)), (1, .int 1)]) hC.1 hC.2.1 dJx4a65c_grow_92f84_5 rfl hl (by decide) rfl (fun ls hl => ?_)
  refine lv_iload_n hC.1 hC.2.1 dJx4a65c_grow_92f84_6 rfl (lv_at hl 0 rfl) ?_
  refine lv_if_gt (tgt := 20) hC.1 hC.2.1 dJx4a65c_grow_92f84_7 (by decide) (fun c1 => absurd c1 (by decide)) (fun _ => ?_)
  refine lv_aload_n hC.1 hC.2.1 dJx4a65c_grow_92f84_10 rfl (lv_at hl 1 rfl) ?_
  refine g_get hC hT.1 G hkl h1 k_AL i_gr0_L 1 (by decide) (wm 1 rfl) rfl dJx4a65c_grow_92f84_11 ?_
  refine va_gets hC.1 hC.2.1 hZ.1 G.2.2 hC.2.2.2.1 (hC.2.2.2.2 _ (wm 2 rfl)) (fun _ h => h) dJx4a65c_grow_92f84_14 ?_
  refine lv_acmp_eq (rx := some ea) (ry := some ea) (tgt := 45) hC.1 hC.2.1 dJx4a65c_grow_92f84_17 (by decide) (fun _ => ?_) (fun c1 => absurd rfl c1)
  refine lv_aload_n hC.1 hC.2.1 dJx4a65c_grow_92f84_45 rfl (lv_at hl 1 rfl) ?_
  refine lv_bipush (v := 10) hC.1 hC.2.1 dJx4a65c_grow_92f84_46 (by decide) ?_
  refine lv_iload_n hC.1 hC.2.1 dJx4a65c_grow_92f84_48 rfl (lv_at hl 2 rfl) ?_
  refine va_mmax hC.1 hC.2.1 (hC.2.2.1.trans hl.1.symm) hC.2.2.2.1 (hC.2.2.2.2 _ (wm 3 rfl)) (hC.2.2.2.2 _ (wm 4 rfl)) (hC.2.2.2.2 _ (wm 5 rfl)) (hC.2.2.2.2 _ (wm 6 rfl)) (Nat.le_of_ble_eq_true rfl) (Nat.le_of_ble_eq_true rfl) (Nat.le_of_ble_eq_true rfl) (Nat.le_of_ble_eq_true rfl) dJx4a65c_grow_92f84_49 ?_
  refine va_newq (N' := 10) hC.1 hC.2.1 hC.2.2.2.1 (hC.2.2.2.2 _ (wm 7 rfl)) hZ.2.2.2.1 hT.1 (gP_list G.1) (gI_list G.2.1) G.2.2 hA (by decide) (by decide) (by decide) (Nat.le_of_ble_eq_true rfl) (Nat.le_of_ble_eq_true rfl) dJx4a65c_grow_92f84_52 (fun q cA H hK' hP hD hS => ?_)
  obtain ⟨-, -, -, -, -, hq1⟩ := (hK'.2 (fdT cy).length (cA, .object "java/lang/Object") (by rw [List.getElem?_append_right (Nat.le_refl _), Nat.sub_self]; rfl)).2
  obtain ⟨-, -, -, -, -, hq2⟩ := (hT.1.2 7 (cy 7, .object "java/lang/Object") rfl).2
  have hcA : cA = cy 7 := Option.some.inj (hq1.symm.trans hq2)
  subst hcA
  have G1 : gG D (gU lay ke q) (gU X ke (some (arr0 cy))) (gA lay X s.heap.size) s.heap H [] := ⟨gP_new h2 hP, gI_new G.2.1 h2 hD, hS⟩
  have e1 : gU lay ke q kl = lay kl := gU_ne hne
  refine lv_dup_x1 hC.1 hC.2.1 dJx4a65c_grow_92f84_55 rfl rfl ?_
  refine g_putA (a := lay kl) e1 hC hT.1 G1 hkl ((gU_ne hne).trans h1) k_AL i_gr0_L 1 (by decide) (wm 1 rfl) rfl rfl rfl (by simp) dJx4a65c_grow_92f84_56 (fun H locs G => ?_)
  have G : gG D (gU lay ke q) (gU (gU X ke (some (arr0 cy))) kl (some (.inr (4, [.int mo, .ref q, .int n])))) (gA lay X s.heap.size) s.heap H locs := G
  exact W.aret (v := .ref q) hC.1 hC.2.1 hr (Or.inr ⟨_, rfl⟩) (Or.inr ⟨_, rfl⟩) (fun t ht hW => ⟨⟨_, q, rfl, ⟨q, rfl⟩, gU_eq.symm, by rw [ht]; exact G.1, G.2.1⟩, G.2.2.F ht⟩) G.2.2.2.2 dJx4a65c_grow_92f84_59 hlocks
theorem hdV_gr0 : yJx4a65c_grow_92f84.cls = RJx4a65c ∧ yJx4a65c_grow_92f84.cls ≠ "java/lang/invoke/MethodHandle" ∧ yJx4a65c_grow_92f84.cls ≠ "java/lang/invoke/VarHandle" ∧ (parseMethodDescriptor yJx4a65c_grow_92f84.desc).map (fun d => d.parameters.length) = some 1 := by decide +kernel
theorem hdV_gr1 : yJx4a65c_grow_d5877.cls = RJx4a65c ∧ yJx4a65c_grow_d5877.cls ≠ "java/lang/invoke/MethodHandle" ∧ yJx4a65c_grow_d5877.cls ≠ "java/lang/invoke/VarHandle" ∧ (parseMethodDescriptor yJx4a65c_grow_d5877.desc).map (fun d => d.parameters.length) = some 0 := by decide +kernel
theorem hdV_ad3 : yJx4a65c_add_72be8.cls = RJx4a65c ∧ yJx4a65c_add_72be8.cls ≠ "java/lang/invoke/MethodHandle" ∧ yJx4a65c_add_72be8.cls ≠ "java/lang/invoke/VarHandle" ∧ (parseMethodDescriptor yJx4a65c_add_72be8.desc).map (fun d => d.parameters.length) = some 3 := by decide +kernel
theorem hdV_add : yJx4a65c_add_9ea2d.cls = RJx4a65c ∧ yJx4a65c_add_9ea2d.cls ≠ "java/lang/invoke/MethodHandle" ∧ yJx4a65c_add_9ea2d.cls ≠ "java/lang/invoke/VarHandle" ∧ (parseMethodDescriptor yJx4a65c_add_9ea2d.desc).map (fun d => d.parameters.length) = some 1 := by decide +kernel
set_option maxHeartbeats 4000000 in
set_option maxRecDepth 100000 in
theorem c_gr1 (l : Launch) (D : va_G) (cy : Nat → ClassId) (lay : Nat → Nat) (X : Nat → Option va_E) (ea mi : Nat) {kl ke : Nat} (hkl : kl < 128) (hke : ke < 128) (hne : kl ≠ ke) {mo : Int32} (h1 : X kl = some (.inr (4, [.int mo, .ref ea, .int 0]))) (h2 : X ke = none) (sz : Nat) : Met l yJx4a65c_grow_d5877 wsJx4a65c_grow_d5877 rm_gr1 (va_Pc [.ref (lay kl)] (hK D cy lay X ea mi sz)) (va_Qr (S := GY) (fun Y => ∃ q, Y = (gU lay ke q, gU (gU X ke (some (arr0 cy))) kl (some (.inr (4, [.int mo, .ref q, .int 0]))))) (fun Y a t => a = Y.1 ke ∧ gO D (gA lay X sz) Y t) (gA lay X sz)) 1 10 (gA lay X sz) := by
  refine k_ofW (cc := cJx4a65c_grow_d5877) (maxL := 1) (ret := some (.array (.object "java/lang/Object"))) (own := RJx4a65c) (Qc := fun sz => va_Qr (S := GY) (fun Y => ∃ q, Y = (gU lay ke q, gU (gU X ke (some (arr0 cy))) kl (some (.inr (4, [.int mo, .ref q, .int 0]))))) (fun Y a t => a = Y.1 ke ∧ gO D (gA lay X sz) Y t) (gA lay X sz)) (by decide) rfl (Nat.le_of_ble_eq_true rfl) rfl ?_
  intro p e0 s m args below meth c ls hC hr hlocks hname hT hZ G hl
  have hl : lv_has ls 1 [(0, .ref (lay kl))] := hl
  have hA : ∀ q, s.heap.size ≤ q → gA lay X s.heap.size q := fun _ h => Or.inr h
  refine lv_aload_n hC.1 hC.2.1 dJx4a65c_grow_d5877_0 rfl (lv_at hl 0 rfl) ?_
  refine lv_aload_n hC.1 hC.2.1 dJx4a65c_grow_d5877_1 rfl (lv_at hl 0 rfl) ?_
  refine g_get hC hT.1 G hkl h1 k_AL i_gr1_L 2 (by decide) (wm 1 rfl) rfl dJx4a65c_grow_d5877_2 ?_
  refine lv_iconst (v := 1) hC.1 hC.2.1 dJx4a65c_grow_d5877_5 (by decide) ?_
  refine lv_iadd hC.1 hC.2.1 dJx4a65c_grow_d5877_6 ?_
  rw [show (0 : Int32) + 1 = 1 from by decide]
  refine k_r (f := fun Y => Y.1 ke) G hA (k_runV (As := [.int 1]) (rest := []) hC hT hZ hA G (c_gr0 l D cy lay X ea mi hkl hke hne h1 h2 _) (cwV 1 hC.2.2.2.2 gJx4a65c_grow_d5877_Jx4a65c_grow_92f84 rfl rfl rfl hdV_gr0 ⟨Nat.le_of_ble_eq_true rfl, Nat.le_of_ble_eq_true rfl⟩) (h_recv hT G hkl h1 k_AL) rfl hl.1 rfl (Nat.le_of_ble_eq_true rfl) dJx4a65c_grow_d5877_7 ⟨Nat.le_of_ble_eq_true rfl, Nat.le_of_ble_eq_true rfl⟩) (fun Y H locs hY G => ?_)
  obtain ⟨q, rfl⟩ := hY
  exact W.aret (v := .ref (gU lay ke q ke)) hC.1 hC.2.1 hr (Or.inr ⟨_, rfl⟩) (Or.inr ⟨_, rfl⟩) (fun t ht hW => ⟨⟨_, gU lay ke q ke, rfl, ⟨q, rfl⟩, rfl, by rw [ht]; exact G.1, G.2.1⟩, G.2.2.F ht⟩) G.2.2.2.2 dJx4a65c_grow_d5877_10 hlocks
end
section
/-! THE REFERENCE: adding to a list, second half -/
theorem g_astoA {p : Program} {l : Launch} {e : Env} {R : Room} {s : State} {m : MethodId} {args : Array Value} {below : List Frame} {meth : Method} {c : Code} {H : Heap} {locs : List Loc} {cells slots : Nat} {Q : State → Prop} {cc : ByteArray} {pc nL : Nat} {ls : Array Slot} {rest : List Value} {D : va_G} {cy : Nat → ClassId} {lay : Nat → Nat} {X : Nat → Option va_E} {A : Nat → Prop} {H0 : Heap} {Ts : List Cond} {own : String} {k kv a v : Nat} (ha : lay k = a) (hv : lay kv = v) (hC : CallFix p m c cc nL s args Ts own) (hT : va_K D vwCl (fdT cy) s) (G : gG D lay X A H0 H locs) (hk : k < 128) (hkv : kv < 128) (ci : Nat) {r : vw_C} {n : Nat} {vs : List Value} {f : Nat → Option Nat} (he : X k = some (.inl (cy 7, n, rfS f))) (hca : va_Nw (.castable r.1 "java/lang/Object") s) (hev : X kv = some (.inr (ci, vs))) (hc : vwCl[ci]? = some r) {i : Int32} (hin : vp_in i n) (hdg : decode cc pc = .ok (.aastore, 1))
    (kk : ∀ (H1 : Heap) (locs1 : List Loc), gG D lay (gU X k (some (.inl (cy 7, n, rfS (va_up f i.toNatClampNeg (some v)))))) A H0 H1 locs1 → W p l e R s m args below meth c H1 locs1 cells slots Q (F0 m (pc + 1) ls rest)) : W p l e R s m args below meth c H locs cells slots Q (F0 m pc ls (.ref v :: .int i :: .ref a :: rest)) := by
  subst ha
  subst hv
  exact g_asto hC hT G hk hkv ci he hca hev hc hin hdg kk
theorem gU4 {X : Nat → Option va_E} {ke kl : Nat} {a b c d : Option va_E} : gU (gU (gU (gU X ke a) kl b) ke c) kl d = gU (gU X ke c) kl d := by
  funext i
  by_cases h : i = kl
  · subst h; rw [gU_eq, gU_eq]
  · rw [gU_ne h, gU_ne h]
    by_cases h2 : i = ke
    · subst h2; rw [gU_eq, gU_eq]
    · rw [gU_ne h2, gU_ne h, gU_ne h2, gU_ne h2]
theorem gU3 {X : Nat → Option va_E} {ke kl : Nat} {b c d : Option va_E} : gU (gU (gU X kl b) ke c) kl d = gU (gU X ke c) kl d := by
  funext i
  by_cases h : i = kl
  · subst h; rw [gU_eq, gU_eq]
  · rw [gU_ne h, gU_ne h]
    by_cases h2 : i = ke
    · subst h2; rw [gU_eq, gU_eq]
    · rw [gU_ne h2, gU_ne h, gU_ne h2]
/-- the list's row and the list, with one more -/
def adX (cy : Nat → ClassId) (X : Nat → Option va_E) (kl ke : Nat) (mo : Int32) (o cap n : Nat) (f : Nat → Option Nat) (v : Nat) : Nat → Option va_E :=
  gU (gU X ke (some (.inl (cy 7, cap, rfS (va_up f n (some v)))))) kl (some (.inr (4, [.int mo, .ref o, .int (nI (n + 1))])))
set_option maxHeartbeats 4000000 in
set_option maxRecDepth 100000 in
theorem c_ad3_0 (l : Launch) (D : va_G) (cy : Nat → ClassId) (lay : Nat → Nat) (X : Nat → Option va_E) (ea mi : Nat) {kl ke kv ci qn : Nat} {r : vw_C} {vs : List Value} (hkl : kl < 128) (hke : ke < 128) (hkv : kv < 128) (hne : kl ≠ ke) (hne2 : kv ≠ ke) (hne3 : kv ≠ kl) {mo : Int32} (h1 : X kl = some (.inr (4, [.int mo, .ref ea, .int 0]))) (h2 : X ke = none) (h3 : X kv = some (.inr (ci, vs))) (hc : vwCl[ci]? = some r) (hqn : nestR[qn]? = some (.castable r.1 "java/lang/Object")) (sz : Nat) : Met l yJx4a65c_add_72be8 wsJx4a65c_add_72be8 rm_ad3 (va_Pc [.ref (lay kl), .ref (lay kv), .ref ea, .int 0] (hK D cy lay X ea mi sz)) (va_Qv (fun Y : GY => ∃ q, Y = (gU lay ke q, adX cy X kl ke mo q 10 0 (fun _ => none) (lay kv))) (gO D (gA lay X sz)) (gA lay X sz)) 1 10 (gA lay X sz) := by
  refine k_ofW (cc := cJx4a65c_add_72be8) (maxL := 4) (ret := none) (own := RJx4a65c) (Qc := fun sz => va_Qv (fun Y : GY => ∃ q, Y = (gU lay ke q, adX cy X kl ke mo q 10 0 (fun _ => none) (lay kv))) (gO D (gA lay X sz)) (gA lay X sz)) (by decide) rfl (Nat.le_of_ble_eq_true rfl) rfl ?_
  intro p e0 s m args below meth c ls hC hr hlocks hname hT hZ G hl
  have hl : lv_has ls 4 [(0, .ref (lay kl)), (1, .ref (lay kv)), (2, .ref ea), (3, .int 0)] := hl
  have hA : ∀ q, s.heap.size ≤ q → gA lay X s.heap.size q := fun _ h => Or.inr h
  refine lv_iload_n hC.1 hC.2.1 dJx4a65c_add_72be8_0 rfl (lv_at hl 3 rfl) ?_
  refine lv_aload_n hC.1 hC.2.1 dJx4a65c_add_72be8_1 rfl (lv_at hl 2 rfl) ?_
  refine va_tlen (ty := .object "java/lang/Object") (N := 0) (f := fun _ => .null) hC.1 hC.2.1 hZ.2.1 G.2.2 rfl dJx4a65c_add_72be8_2 ?_
  refine lv_icmp_ne (tgt := 11) hC.1 hC.2.1 dJx4a65c_add_72be8_3 (by decide) (fun c1 => absurd rfl c1) (fun _ => ?_)
  refine lv_aload_n hC.1 hC.2.1 dJx4a65c_add_72be8_6 rfl (lv_at hl 0 rfl) ?_
  refine k_r (f := fun Y => Y.1 ke) G hA (k_runV (As := []) (rest := []) hC hT hZ hA G (c_gr1 l D cy lay X ea mi hkl hke hne h1 h2 _) (cwV 0 hC.2.2.2.2 gJx4a65c_add_72be8_Jx4a65c_grow_d5877 rfl rfl rfl hdV_gr1 ⟨Nat.le_of_ble_eq_true rfl, Nat.le_of_ble_eq_true rfl⟩) (h_recv hT G hkl h1 k_AL) rfl hl.1 rfl (Nat.le_of_ble_eq_true rfl) dJx4a65c_add_72be8_7 ⟨Nat.le_of_ble_eq_true rfl, Nat.le_of_ble_eq_true rfl⟩) (fun Y H locs hY G => ?_)
  obtain ⟨q, rfl⟩ := hY
  have G : gG D (gU lay ke q) (gU (gU X ke (some (arr0 cy))) kl (some (.inr (4, [.int mo, .ref q, .int 0])))) (gA lay X s.heap.size) s.heap H locs := G
  have e1 : gU lay ke q kl = lay kl := gU_ne hne
  have e2 : gU lay ke q kv = lay kv := gU_ne hne2
  have e3 : gU lay ke q ke = q := gU_eq
  refine lv_astore_n (lv' := [(2, .ref q), (0, .ref (lay kl)), (1, .ref (lay kv)), (3, .int 0)]) hC.1 hC.2.1 dJx4a65c_add_72be8_10 rfl hl (by decide) (by show (2, Value.ref (gU lay ke q ke)) :: _ = _; rw [e3]; rfl) (fun ls hl => ?_)
  refine lv_aload_n hC.1 hC.2.1 dJx4a65c_add_72be8_11 rfl (lv_at hl 0 rfl) ?_
  refine lv_iload_n hC.1 hC.2.1 dJx4a65c_add_72be8_12 rfl (lv_at hl 3 rfl) ?_
  refine lv_aload_n hC.1 hC.2.1 dJx4a65c_add_72be8_13 rfl (lv_at hl 2 rfl) ?_
  refine g_astoA e3 e2 hC hT.1 G hke hkv ci ((gU_ne (Ne.symm hne)).trans gU_eq) (hT.2.1 _ (wm qn hqn)) ((gU_ne hne3).trans ((gU_ne hne2).trans h3)) hc (show vp_in (nI 0) 10 from vp_in_nI (by decide) (by decide)) dJx4a65c_add_72be8_14 (fun H locs G => ?_)
  refine lv_aload_n hC.1 hC.2.1 dJx4a65c_add_72be8_15 rfl (lv_at hl 1 rfl) ?_
  refine lv_iload_n hC.1 hC.2.1 dJx4a65c_add_72be8_16 rfl (lv_at hl 3 rfl) ?_
  refine lv_iconst (v := 1) hC.1 hC.2.1 dJx4a65c_add_72be8_17 (by decide) ?_
  refine lv_iadd hC.1 hC.2.1 dJx4a65c_add_72be8_18 ?_
  refine g_putA (a := lay kl) e1 hC hT.1 G hkl ((gU_ne hne).trans gU_eq) k_AL i_ad3_L 2 (by decide) (wm 1 rfl) rfl rfl rfl (by simp) dJx4a65c_add_72be8_19 (fun H locs G => ?_)
  have G : gG D (gU lay ke q) (adX cy X kl ke mo q 10 0 (fun _ => none) (lay kv)) (gA lay X s.heap.size) s.heap H locs := by
    unfold adX
    rw [← gU4 (a := some (arr0 cy)) (b := some (.inr (4, [.int mo, .ref q, .int 0])))]
    exact G
  exact g_vret (Y := (gU lay ke q, adX cy X kl ke mo q 10 0 (fun _ => none) (lay kv))) hC hr hlocks G ⟨q, rfl⟩ dJx4a65c_add_72be8_22
set_option maxHeartbeats 4000000 in
set_option maxRecDepth 100000 in
theorem c_ad3_A (l : Launch) (D : va_G) (cy : Nat → ClassId) (lay : Nat → Nat) (X : Nat → Option va_E) (ea mi : Nat) {kl ke kv ci qn n cap : Nat} {r : vw_C} {vs : List Value} {f : Nat → Option Nat} (hkl : kl < 128) (hke : ke < 128) (hkv : kv < 128) (hne : kl ≠ ke) (hn : n < cap) (hcap : cap < 100) {mo : Int32} (h1 : X kl = some (.inr (4, [.int mo, .ref (lay ke), .int (nI n)]))) (h2 : X ke = some (.inl (cy 7, cap, rfS f))) (h3 : X kv = some (.inr (ci, vs))) (hc : vwCl[ci]? = some r) (hqn : nestR[qn]? = some (.castable r.1 "java/lang/Object")) (sz : Nat) : Met l yJx4a65c_add_72be8 wsJx4a65c_add_72be8 rm_ad3 (va_Pc [.ref (lay kl), .ref (lay kv), .ref (lay ke), .int (nI n)] (hK D cy lay X ea mi sz)) (va_Qv (fun Y : GY => Y = (lay, adX cy X kl ke mo (lay ke) cap n f (lay kv))) (gO D (gA lay X sz)) (gA lay X sz)) 1 10 (gA lay X sz) := by
  refine k_ofW (cc := cJx4a65c_add_72be8) (maxL := 4) (ret := none) (own := RJx4a65c) (Qc := fun sz => va_Qv (fun Y : GY => Y = (lay, adX cy X kl ke mo (lay ke) cap n f (lay kv))) (gO D (gA lay X sz)) (gA lay X sz)) (by decide) rfl (Nat.le_of_ble_eq_true rfl) rfl ?_
  intro p e0 s m args below meth c ls hC hr hlocks hname hT hZ G hl
  have hl : lv_has ls 4 [(0, .ref (lay kl)), (1, .ref (lay kv)), (2, .ref (lay ke)), (3, .int (nI n))] := hl
  refine lv_iload_n hC.1 hC.2.1 dJx4a65c_add_72be8_0 rfl (lv_at hl 3 rfl) ?_
  refine lv_aload_n hC.1 hC.2.1 dJx4a65c_add_72be8_1 rfl (lv_at hl 2 rfl) ?_
  obtain ⟨q0, hq0⟩ := gW_pos (lay := lay) hke h2
  refine va_alen hC.1 hC.2.1 hT.1 (gP_list G.1) q0 7 hq0 rfl rfl dJx4a65c_add_72be8_2 ?_
  refine lv_icmp_ne (tgt := 11) hC.1 hC.2.1 dJx4a65c_add_72be8_3 (by decide) (fun _ => ?_) (fun c1 => absurd (by rw [c1]; exact Int32.le_refl _) (nI_ge hn (by omega)))
  refine lv_aload_n hC.1 hC.2.1 dJx4a65c_add_72be8_11 rfl (lv_at hl 2 rfl) ?_
  refine lv_iload_n hC.1 hC.2.1 dJx4a65c_add_72be8_12 rfl (lv_at hl 3 rfl) ?_
  refine lv_aload_n hC.1 hC.2.1 dJx4a65c_add_72be8_13 rfl (lv_at hl 1 rfl) ?_
  refine g_asto hC hT.1 G hke hkv ci h2 (hT.2.1 _ (wm qn hqn)) h3 hc (vp_in_nI hn (by omega)) dJx4a65c_add_72be8_14 (fun H locs G => ?_)
  refine lv_aload_n hC.1 hC.2.1 dJx4a65c_add_72be8_15 rfl (lv_at hl 0 rfl) ?_
  refine lv_iload_n hC.1 hC.2.1 dJx4a65c_add_72be8_16 rfl (lv_at hl 3 rfl) ?_
  refine lv_iconst (v := 1) hC.1 hC.2.1 dJx4a65c_add_72be8_17 (by decide) ?_
  refine lv_iadd hC.1 hC.2.1 dJx4a65c_add_72be8_18 ?_
  rw [nI_1, nI_clamp (show n < 2 ^ 31 by omega)] at *
  refine g_put hC hT.1 G hkl ((gU_ne hne).trans h1) k_AL i_ad3_L 2 (by decide) (wm 1 rfl) rfl rfl rfl (by simp) dJx4a65c_add_72be8_19 (fun H locs G => ?_)
  have G : gG D lay (adX cy X kl ke mo (lay ke) cap n f (lay kv)) (gA lay X s.heap.size) s.heap H locs := G
  refine W.widen (k := 1) (n := 10) (by decide) (by decide) ?_
  exact g_vret (Y := (lay, adX cy X kl ke mo (lay ke) cap n f (lay kv))) hC hr hlocks G rfl dJx4a65c_add_72be8_22
/-! add(E): on the empty list -/
set_option maxHeartbeats 4000000 in
set_option maxRecDepth 100000 in
theorem c_add_0 (l : Launch) (D : va_G) (cy : Nat → ClassId) (lay : Nat → Nat) (X : Nat → Option va_E) (ea mi : Nat) {kl ke kv ci qn : Nat} {r : vw_C} {vs : List Value} (hkl : kl < 128) (hke : ke < 128) (hkv : kv < 128) (hne : kl ≠ ke) (hne2 : kv ≠ ke) (hne3 : kv ≠ kl) {mo : Int32} (h1 : X kl = some (.inr (4, [.int mo, .ref ea, .int 0]))) (h2 : X ke = none) (h3 : X kv = some (.inr (ci, vs))) (hc : vwCl[ci]? = some r) (hqn : nestR[qn]? = some (.castable r.1 "java/lang/Object")) (sz : Nat) : Met l yJx4a65c_add_9ea2d wsJx4a65c_add_9ea2d rm_add (va_Pc [.ref (lay kl), .ref (lay kv)] (hK D cy lay X ea mi sz)) (va_Qi (fun x (Y : GY) => x = 1 ∧ ∃ q, Y = (gU lay ke q, adX cy X kl ke (mo + 1) q 10 0 (fun _ => none) (lay kv))) (gO D (gA lay X sz)) (gA lay X sz)) 1 10 (gA lay X sz) := by
  refine k_ofW (cc := cJx4a65c_add_9ea2d) (maxL := 2) (ret := some .boolean) (own := RJx4a65c) (Qc := fun sz => va_Qi (fun x (Y : GY) => x = 1 ∧ ∃ q, Y = (gU lay ke q, adX cy X kl ke (mo + 1) q 10 0 (fun _ => none) (lay kv))) (gO D (gA lay X sz)) (gA lay X sz)) (by decide) rfl (Nat.le_of_ble_eq_true rfl) rfl ?_
  intro p e0 s m args below meth c ls hC hr hlocks hname hT hZ G hl
  have hl : lv_has ls 2 [(0, .ref (lay kl)), (1, .ref (lay kv))] := hl
  have hA : ∀ q, s.heap.size ≤ q → gA lay X s.heap.size q := fun _ h => Or.inr h
  refine lv_aload_n hC.1 hC.2.1 dJx4a65c_add_9ea2d_0 rfl (lv_at hl 0 rfl) ?_
  refine lv_dup hC.1 hC.2.1 dJx4a65c_add_9ea2d_1 rfl ?_
  refine g_getS hC hT.1 G hkl h1 k_AL i_add_L 0 (by decide) (wm 1 rfl) (wm 2 rfl) rfl dJx4a65c_add_9ea2d_2 ?_
  refine lv_iconst (v := 1) hC.1 hC.2.1 dJx4a65c_add_9ea2d_5 (by decide) ?_
  refine lv_iadd hC.1 hC.2.1 dJx4a65c_add_9ea2d_6 ?_
  refine g_putS hC hT.1 G hkl h1 k_AL i_add_L 0 (by decide) (wm 1 rfl) (wm 2 rfl) rfl rfl rfl (by simp) dJx4a65c_add_9ea2d_7 (fun H locs G => ?_)
  have G : gG D lay (gU X kl (some (.inr (4, [.int (mo + 1), .ref ea, .int 0])))) (gA lay X s.heap.size) s.heap H locs := G
  refine lv_aload_n hC.1 hC.2.1 dJx4a65c_add_9ea2d_10 rfl (lv_at hl 0 rfl) ?_
  refine lv_aload_n hC.1 hC.2.1 dJx4a65c_add_9ea2d_11 rfl (lv_at hl 1 rfl) ?_
  refine lv_aload_n hC.1 hC.2.1 dJx4a65c_add_9ea2d_12 rfl (lv_at hl 0 rfl) ?_
  refine g_get hC hT.1 G hkl gU_eq k_AL i_add_L 1 (by decide) (wm 3 rfl) rfl dJx4a65c_add_9ea2d_13 ?_
  refine lv_aload_n hC.1 hC.2.1 dJx4a65c_add_9ea2d_16 rfl (lv_at hl 0 rfl) ?_
  refine g_get hC hT.1 G hkl gU_eq k_AL i_add_L 2 (by decide) (wm 4 rfl) rfl dJx4a65c_add_9ea2d_17 ?_
  refine g_v G hA (k_runV (As := [.ref (lay kv), .ref ea, .int 0]) (rest := []) hC hT hZ hA G (c_ad3_0 l D cy lay (gU X kl (some (.inr (4, [.int (mo + 1), .ref ea, .int 0])))) ea mi hkl hke hkv hne hne2 hne3 gU_eq ((gU_ne (Ne.symm hne)).trans h2) ((gU_ne hne3).trans h3) hc hqn _) (cwV 3 hC.2.2.2.2 gJx4a65c_add_9ea2d_Jx4a65c_add_72be8 rfl rfl rfl hdV_ad3 ⟨Nat.le_of_ble_eq_true rfl, Nat.le_of_ble_eq_true rfl⟩) (h_recv hT G hkl gU_eq k_AL) rfl hl.1 rfl (Nat.le_of_ble_eq_true rfl) dJx4a65c_add_9ea2d_20 ⟨Nat.le_of_ble_eq_true rfl, Nat.le_of_ble_eq_true rfl⟩) (fun Y H locs hY G => ?_)
  obtain ⟨q, rfl⟩ := hY
  have G : gG D (gU lay ke q) (adX cy X kl ke (mo + 1) q 10 0 (fun _ => none) (lay kv)) (gA lay X s.heap.size) s.heap H locs := by
    have e : adX cy (gU X kl (some (.inr (4, [.int (mo + 1), .ref ea, .int 0])))) kl ke (mo + 1) q 10 0 (fun _ => none) (lay kv) = adX cy X kl ke (mo + 1) q 10 0 (fun _ => none) (lay kv) := by
      unfold adX
      exact gU3
    rw [← e]
    exact G
  refine lv_iconst (v := 1) hC.1 hC.2.1 dJx4a65c_add_9ea2d_23 (by decide) ?_
  exact W.zret (v := 1) hC.1 hC.2.1 hr rfl (fun t ht hW => ⟨⟨1, (gU lay ke q, adX cy X kl ke (mo + 1) q 10 0 (fun _ => none) (lay kv)), rfl, ⟨rfl, q, rfl⟩, by rw [ht]; exact G.1, G.2.1⟩, G.2.2.F ht⟩) G.2.2.2.2 dJx4a65c_add_9ea2d_24 hlocks
/-! add(E): where there is room -/
set_option maxHeartbeats 4000000 in
set_option maxRecDepth 100000 in
theorem c_add_A (l : Launch) (D : va_G) (cy : Nat → ClassId) (lay : Nat → Nat) (X : Nat → Option va_E) (ea mi : Nat) {kl ke kv ci qn n cap : Nat} {r : vw_C} {vs : List Value} {f : Nat → Option Nat} (hkl : kl < 128) (hke : ke < 128) (hkv : kv < 128) (hne : kl ≠ ke) (hne3 : kv ≠ kl) (hn : n < cap) (hcap : cap < 100) {mo : Int32} (h1 : X kl = some (.inr (4, [.int mo, .ref (lay ke), .int (nI n)]))) (h2 : X ke = some (.inl (cy 7, cap, rfS f))) (h3 : X kv = some (.inr (ci, vs))) (hc : vwCl[ci]? = some r) (hqn : nestR[qn]? = some (.castable r.1 "java/lang/Object")) (sz : Nat) : Met l yJx4a65c_add_9ea2d wsJx4a65c_add_9ea2d rm_add (va_Pc [.ref (lay kl), .ref (lay kv)] (hK D cy lay X ea mi sz)) (va_Qi (fun x (Y : GY) => x = 1 ∧ Y = (lay, adX cy X kl ke (mo + 1) (lay ke) cap n f (lay kv))) (gO D (gA lay X sz)) (gA lay X sz)) 1 10 (gA lay X sz) := by
  refine k_ofW (cc := cJx4a65c_add_9ea2d) (maxL := 2) (ret := some .boolean) (own := RJx4a65c) (Qc := fun sz => va_Qi (fun x (Y : GY) => x = 1 ∧ Y = (lay, adX cy X kl ke (mo + 1) (lay ke) cap n f (lay kv))) (gO D (gA lay X sz)) (gA lay X sz)) (by decide) rfl (Nat.le_of_ble_eq_true rfl) rfl ?_
  intro p e0 s m args below meth c ls hC hr hlocks hname hT hZ G hl
  have hl : lv_has ls 2 [(0, .ref (lay kl)), (1, .ref (lay kv))] := hl
  have hA : ∀ q, s.heap.size ≤ q → gA lay X s.heap.size q := fun _ h => Or.inr h
  refine lv_aload_n hC.1 hC.2.1 dJx4a65c_add_9ea2d_0 rfl (lv_at hl 0 rfl) ?_
  refine lv_dup hC.1 hC.2.1 dJx4a65c_add_9ea2d_1 rfl ?_
  refine g_getS hC hT.1 G hkl h1 k_AL i_add_L 0 (by decide) (wm 1 rfl) (wm 2 rfl) rfl dJx4a65c_add_9ea2d_2 ?_
  refine lv_iconst (v := 1) hC.1 hC.2.1 dJx4a65c_add_9ea2d_5 (by decide) ?_
  refine lv_iadd hC.1 hC.2.1 dJx4a65c_add_9ea2d_6 ?_
  refine g_putS hC hT.1 G hkl h1 k_AL i_add_L 0 (by decide) (wm 1 rfl) (wm 2 rfl) rfl rfl rfl (by simp) dJx4a65c_add_9ea2d_7 (fun H locs G => ?_)
  have G : gG D lay (gU X kl (some (.inr (4, [.int (mo + 1), .ref (lay ke), .int (nI n)])))) (gA lay X s.heap.size) s.heap H locs := G
  refine lv_aload_n hC.1 hC.2.1 dJx4a65c_add_9ea2d_10 rfl (lv_at hl 0 rfl) ?_
  refine lv_aload_n hC.1 hC.2.1 dJx4a65c_add_9ea2d_11 rfl (lv_at hl 1 rfl) ?_
  refine lv_aload_n hC.1 hC.2.1 dJx4a65c_add_9ea2d_12 rfl (lv_at hl 0 rfl) ?_
  refine g_get hC hT.1 G hkl gU_eq k_AL i_add_L 1 (by decide) (wm 3 rfl) rfl dJx4a65c_add_9ea2d_13 ?_
  refine lv_aload_n hC.1 hC.2.1 dJx4a65c_add_9ea2d_16 rfl (lv_at hl 0 rfl) ?_
  refine g_get hC hT.1 G hkl gU_eq k_AL i_add_L 2 (by decide) (wm 4 rfl) rfl dJx4a65c_add_9ea2d_17 ?_
  refine g_v G hA (k_runV (As := [.ref (lay kv), .ref (lay ke), .int (nI n)]) (rest := []) hC hT hZ hA G (c_ad3_A l D cy lay (gU X kl (some (.inr (4, [.int (mo + 1), .ref (lay ke), .int (nI n)])))) ea mi hkl hke hkv hne hn hcap gU_eq ((gU_ne (Ne.symm hne)).trans h2) ((gU_ne hne3).trans h3) hc hqn _) (cwV 3 hC.2.2.2.2 gJx4a65c_add_9ea2d_Jx4a65c_add_72be8 rfl rfl rfl hdV_ad3 ⟨Nat.le_of_ble_eq_true rfl, Nat.le_of_ble_eq_true rfl⟩) (h_recv hT G hkl gU_eq k_AL) rfl hl.1 rfl (Nat.le_of_ble_eq_true rfl) dJx4a65c_add_9ea2d_20 ⟨Nat.le_of_ble_eq_true rfl, Nat.le_of_ble_eq_true rfl⟩) (fun Y H locs hY G => ?_)
  subst hY
  have G : gG D lay (adX cy X kl ke (mo + 1) (lay ke) cap n f (lay kv)) (gA lay X s.heap.size) s.heap H locs := by
    have e : adX cy (gU X kl (some (.inr (4, [.int (mo + 1), .ref (lay ke), .int (nI n)])))) kl ke (mo + 1) (lay ke) cap n f (lay kv) = adX cy X kl ke (mo + 1) (lay ke) cap n f (lay kv) := by
      unfold adX
      exact gU3
    rw [← e]
    exact G
  refine lv_iconst (v := 1) hC.1 hC.2.1 dJx4a65c_add_9ea2d_23 (by decide) ?_
  exact W.zret (v := 1) hC.1 hC.2.1 hr rfl (fun t ht hW => ⟨⟨1, (lay, adX cy X kl ke (mo + 1) (lay ke) cap n f (lay kv)), rfl, ⟨rfl, rfl⟩, by rw [ht]; exact G.1, G.2.1⟩, G.2.2.F ht⟩) G.2.2.2.2 dJx4a65c_add_9ea2d_24 hlocks
end
