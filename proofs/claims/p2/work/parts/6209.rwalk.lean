abbrev rm_X11_fix : Room := { frames := 12, cells := 1, slots := 16, locals := 311 }
theorem i_X11_fix_X11 : ∀ w ∈ wsX110, w ∈ wsX11_fix := fun _ h => List.mem_cons_of_mem _ (List.mem_append_left _ (List.mem_append_left _ (List.mem_append_left _ (List.mem_append_left _ (List.mem_append_left _ (List.mem_append_right _ h))))))
theorem i_X11_fix_X10 : ∀ w ∈ wsX100, w ∈ wsX11_fix := fun _ h => List.mem_cons_of_mem _ (List.mem_append_left _ (List.mem_append_left _ (List.mem_append_left _ (List.mem_append_left _ (List.mem_append_right _ h)))))
def u_X11_fix_77 (Γ : RG) (post : Int32 → MS → Prop) (a1 : Int32) : Nat → MS → Nat → Prop
  | 0, _, _ => False
  | n + 1, σ, v3 => (((b01 (!decide (σ 64 0 = σ 3 2))) = 0 → post (σ (33 + v3) 9) σ) ∧ (¬ (b01 (!decide (σ 64 0 = σ 3 2))) = 0 → (∃ j13 : Nat, (σ 64 0 = nI j13 ∧ j13 < Γ.2.2.1) ∧ σ 64 2 = σ 3 0 ∧ σ 3 2 = nI Γ.2.2.1 ∧ ((((up2 (up2 σ 64 0 (nI (j13 + 1))) 64 1 (nI j13)) (33 + j13) 7) = 0 → ((((up2 (up2 σ 64 0 (nI (j13 + 1))) 64 1 (nI j13)) (33 + j13) 0) = ((up2 (up2 σ 64 0 (nI (j13 + 1))) 64 1 (nI j13)) (33 + v3) 0) → ((((up2 (up2 σ 64 0 (nI (j13 + 1))) 64 1 (nI j13)) (33 + j13) 1) = ((up2 (up2 σ 64 0 (nI (j13 + 1))) 64 1 (nI j13)) (33 + v3) 1) → u_X11_fix_77 Γ post a1 n (up2 (up2 (up2 σ 64 0 (nI (j13 + 1))) 64 1 (nI j13)) (33 + j13) 7 3) v3) ∧ (¬ ((up2 (up2 σ 64 0 (nI (j13 + 1))) 64 1 (nI j13)) (33 + j13) 1) = ((up2 (up2 σ 64 0 (nI (j13 + 1))) 64 1 (nI j13)) (33 + v3) 1) → u_X11_fix_77 Γ post a1 n (up2 (up2 σ 64 0 (nI (j13 + 1))) 64 1 (nI j13)) v3))) ∧ (¬ ((up2 (up2 σ 64 0 (nI (j13 + 1))) 64 1 (nI j13)) (33 + j13) 0) = ((up2 (up2 σ 64 0 (nI (j13 + 1))) 64 1 (nI j13)) (33 + v3) 0) → u_X11_fix_77 Γ post a1 n (up2 (up2 σ 64 0 (nI (j13 + 1))) 64 1 (nI j13)) v3))) ∧ (¬ ((up2 (up2 σ 64 0 (nI (j13 + 1))) 64 1 (nI j13)) (33 + j13) 7) = 0 → u_X11_fix_77 Γ post a1 n (up2 (up2 σ 64 0 (nI (j13 + 1))) 64 1 (nI j13)) v3)))))
set_option maxHeartbeats 4000000 in
set_option maxRecDepth 100000 in
theorem l_X11_fix_77 {p : Program} {l : Launch} {e : Env} {s : State} {m : MethodId} {args : Array Value} {below : List Frame} {meth : Method} {c : Code} {D : va_G} {cy : Nat → ClassId} {lay : Nat → Nat} {Γ : RG} {post : Int32 → MS → Prop} (a1 : Int32) (hC : CallFix p m c cX11_fix 6 s args wsX11_fix RX11) (hr : meth.sig.returnType = some .int) (hlocks : meth.locks = false) (hT : rT D cy lay Γ s) : ∀ (n : Nat), ∀ (σ : MS) (v3 : Nat), u_X11_fix_77 Γ post a1 n σ v3 → ∀ (hv3 : v3 < 14 ∧ v3 < Γ.2.2.1), ∀ (H : Heap) (locs : List Loc) (ls : Array Slot), rG D cy lay Γ (gU tn 64 (some (2, 3))) σ (rA cy lay Γ s.heap.size) s.heap H locs → lv_has ls 6 [(0, .ref (lay 0)), (1, .int a1), (3, .ref (lay (33 + v3))), (4, .ref (lay 64))] → W p l e rm_X11_fix s m args below meth c H locs 1 16 (MQ below (va_Qi post (rO D cy lay Γ) (rA cy lay Γ s.heap.size)) args s 1 16 (rA cy lay Γ s.heap.size)) (F0 m 77 ls []) := by
  intro n
  induction n with
  | zero =>
    intro σ v3 h
    exact h.elim
  | succ n ih =>
    intro σ v3 h hv3 H locs ls G hl
    rw [u_X11_fix_77] at h
    refine lv_aload hC.1 hC.2.1 dX11_fix_77 (lv_at hl 3 rfl) ?_
    refine rg_hasNext hC hT G (k := 64) (by decide) (by decide) rfl (va_cwF 0 hC.2.2.2.2 gX11_fix_Jx35411_hasNext_aae02_f230Jx35411 rfl rfl rfl hT.2.1.2.1 hdF_hasNext ⟨Nat.le_of_ble_eq_true rfl, Nat.le_of_ble_eq_true rfl⟩) hl.1 (Nat.le_of_ble_eq_true rfl) dX11_fix_79 ⟨Nat.le_of_ble_eq_true rfl, Nat.le_of_ble_eq_true rfl⟩ (fun H locs G => ?_)
    refine lv_if_eq (tgt := 140) hC.1 hC.2.1 dX11_fix_84 (by decide) (fun c12 => ?_) (fun c12 => ?_)
    · replace h := h.1 c12
      refine lv_aload_n hC.1 hC.2.1 dX11_fix_140 rfl (lv_at hl 2 rfl) ?_
      refine rg_getN hC hT G (rk_wd hv3) (r_wd hv3) k_X10 i_X11_fix_X10 9 (by decide) 19 rfl rfl dX11_fix_141 ?_
      refine W.widen (k := 1) (n := 16) (by decide) (by decide) ?_
      exact rg_iret hC hr hlocks (rG_drop G hT.2.2.2) h dX11_fix_144
    · replace h := h.2 c12
      refine lv_aload hC.1 hC.2.1 dX11_fix_87 (lv_at hl 3 rfl) ?_
      obtain ⟨j13, hj14, hj14a, hj14b, h⟩ := h
      refine rg_next hC hT G (k := 64) (ci := j13) (by decide) (by decide) rfl hj14 hj14a hj14b (va_cwF 0 hC.2.2.2.2 gX11_fix_Jx35411_next_0502b_f236Jx35411 rfl rfl rfl hT.2.1.2.2 hdF_next ⟨Nat.le_of_ble_eq_true rfl, Nat.le_of_ble_eq_true rfl⟩) hl.1 (Nat.le_of_ble_eq_true rfl) dX11_fix_89 ⟨Nat.le_of_ble_eq_true rfl, Nat.le_of_ble_eq_true rfl⟩ (fun H locs G => ?_)
      refine rg_cast hC hT k_X10 (wm 3 rfl) (rg_recv hT G (rk_wd ⟨Nat.lt_of_lt_of_le hj14.2 hT.2.2.2.2.2, hj14.2⟩) (r_wd ⟨Nat.lt_of_lt_of_le hj14.2 hT.2.2.2.2.2, hj14.2⟩) k_X10) dX11_fix_94 ?_
      refine lv_astore (lv' := [(5, .ref (lay (33 + j13))), (0, .ref (lay 0)), (1, .int a1), (3, .ref (lay (33 + v3))), (4, .ref (lay 64))]) hC.1 hC.2.1 dX11_fix_97 hl (by decide) rfl (fun ls hl => ?_)
      refine lv_aload hC.1 hC.2.1 dX11_fix_99 (lv_at hl 0 rfl) ?_
      refine rg_getN hC hT G (rk_wd ⟨Nat.lt_of_lt_of_le hj14.2 hT.2.2.2.2.2, hj14.2⟩) (r_wd ⟨Nat.lt_of_lt_of_le hj14.2 hT.2.2.2.2.2, hj14.2⟩) k_X10 i_X11_fix_X10 7 (by decide) 17 rfl rfl dX11_fix_101 ?_
      refine lv_if_ne (tgt := 137) hC.1 hC.2.1 dX11_fix_104 (by decide) (fun c15 => ?_) (fun c15 => ?_)
      · replace h := h.2 c15
        refine lv_goto (tgt := 77) hC.1 hC.2.1 dX11_fix_137 (by decide) ?_
        exact ih _ _ h hv3 _ _ _ G (lv_sub hl [1, 2, 3, 4] rfl)
      · replace h := h.1 c15
        refine lv_aload hC.1 hC.2.1 dX11_fix_107 (lv_at hl 0 rfl) ?_
        refine rg_getN hC hT G (rk_wd ⟨Nat.lt_of_lt_of_le hj14.2 hT.2.2.2.2.2, hj14.2⟩) (r_wd ⟨Nat.lt_of_lt_of_le hj14.2 hT.2.2.2.2.2, hj14.2⟩) k_X10 i_X11_fix_X10 0 (by decide) 10 rfl rfl dX11_fix_109 ?_
        refine lv_aload_n hC.1 hC.2.1 dX11_fix_112 rfl (lv_at hl 3 rfl) ?_
        refine rg_getN hC hT G (rk_wd hv3) (r_wd hv3) k_X10 i_X11_fix_X10 0 (by decide) 10 rfl rfl dX11_fix_113 ?_
        refine lv_icmp_ne (tgt := 137) hC.1 hC.2.1 dX11_fix_116 (by decide) (fun c16 => ?_) (fun c16 => ?_)
        · replace h := h.2 c16
          refine lv_goto (tgt := 77) hC.1 hC.2.1 dX11_fix_137 (by decide) ?_
          exact ih _ _ h hv3 _ _ _ G (lv_sub hl [1, 2, 3, 4] rfl)
        · replace h := h.1 c16
          refine lv_aload hC.1 hC.2.1 dX11_fix_119 (lv_at hl 0 rfl) ?_
          refine rg_getN hC hT G (rk_wd ⟨Nat.lt_of_lt_of_le hj14.2 hT.2.2.2.2.2, hj14.2⟩) (r_wd ⟨Nat.lt_of_lt_of_le hj14.2 hT.2.2.2.2.2, hj14.2⟩) k_X10 i_X11_fix_X10 1 (by decide) 11 rfl rfl dX11_fix_121 ?_
          refine lv_aload_n hC.1 hC.2.1 dX11_fix_124 rfl (lv_at hl 3 rfl) ?_
          refine rg_getN hC hT G (rk_wd hv3) (r_wd hv3) k_X10 i_X11_fix_X10 1 (by decide) 11 rfl rfl dX11_fix_125 ?_
          refine lv_icmp_ne (tgt := 137) hC.1 hC.2.1 dX11_fix_128 (by decide) (fun c17 => ?_) (fun c17 => ?_)
          · replace h := h.2 c17
            refine lv_goto (tgt := 77) hC.1 hC.2.1 dX11_fix_137 (by decide) ?_
            exact ih _ _ h hv3 _ _ _ G (lv_sub hl [1, 2, 3, 4] rfl)
          · replace h := h.1 c17
            refine lv_aload hC.1 hC.2.1 dX11_fix_131 (lv_at hl 0 rfl) ?_
            refine lv_iconst (v := 3) hC.1 hC.2.1 dX11_fix_133 (by decide) ?_
            refine rg_putN hC hT G (rk_wd ⟨Nat.lt_of_lt_of_le hj14.2 hT.2.2.2.2.2, hj14.2⟩) (r_wd ⟨Nat.lt_of_lt_of_le hj14.2 hT.2.2.2.2.2, hj14.2⟩) k_X10 i_X11_fix_X10 7 (by decide) 17 rfl rfl rfl (by simp) (r_wd ⟨Nat.lt_of_lt_of_le hj14.2 hT.2.2.2.2.2, hj14.2⟩) (by rw [up2_eq]; rfl) dX11_fix_134 (fun H locs G => ?_)
            refine lv_goto (tgt := 77) hC.1 hC.2.1 dX11_fix_137 (by decide) ?_
            exact ih _ _ h hv3 _ _ _ G (lv_sub hl [1, 2, 3, 4] rfl)
def u_X11_fix_38 (Γ : RG) (post : Int32 → MS → Prop) (a1 : Int32) (σ : MS) (t0 : Int32) : Prop := ((t0 = (-1) → w_X11_refuse Γ (fun r19 σ18 => post r19 σ18) σ 2) ∧ (¬ t0 = (-1) → w_X11_fixNow Γ (fun σ8 => w_lw_Jx4a65c_get_915e3 Γ (fun j10 σ9 => ((j10 < 14 ∧ j10 < Γ.2.2.1) ∧ (∃ k, u_X11_fix_77 Γ post a1 k (rw0 σ9 64 (itR (σ9 3 0))) j10))) σ8 a1) σ a1 t0))
set_option maxHeartbeats 4000000 in
set_option maxRecDepth 100000 in
theorem l_X11_fix_38 {p : Program} {l : Launch} {e : Env} {s : State} {m : MethodId} {args : Array Value} {below : List Frame} {meth : Method} {c : Code} {D : va_G} {cy : Nat → ClassId} {lay : Nat → Nat} {Γ : RG} {post : Int32 → MS → Prop} (a1 : Int32) (hC : CallFix p m c cX11_fix 6 s args wsX11_fix RX11) (hr : meth.sig.returnType = some .int) (hlocks : meth.locks = false) (hT : rT D cy lay Γ s) : ∀ (σ : MS) (t0 : Int32), u_X11_fix_38 Γ post a1 σ t0 → ∀ (H : Heap) (locs : List Loc) (ls : Array Slot), rG D cy lay Γ tn σ (rA cy lay Γ s.heap.size) s.heap H locs → lv_has ls 6 [(0, .ref (lay 0)), (1, .int a1)] → W p l e rm_X11_fix s m args below meth c H locs 0 0 (MQ below (va_Qi post (rO D cy lay Γ) (rA cy lay Γ s.heap.size)) args s 1 16 (rA cy lay Γ s.heap.size)) (F0 m 38 ls [.int t0]) := by
  intro σ t0 h H locs ls G hl
  unfold u_X11_fix_38 at h
  refine lv_istore_n (lv' := [(2, .int t0), (0, .ref (lay 0)), (1, .int a1)]) hC.1 hC.2.1 dX11_fix_38 rfl hl (by decide) rfl (fun ls hl => ?_)
  refine lv_iload_n hC.1 hC.2.1 dX11_fix_39 rfl (lv_at hl 0 rfl) ?_
  refine lv_iconst (v := (-1)) hC.1 hC.2.1 dX11_fix_40 (by decide) ?_
  refine lv_icmp_ne (tgt := 50) hC.1 hC.2.1 dX11_fix_41 (by decide) (fun c7 => ?_) (fun c7 => ?_)
  · replace h := h.2 c7
    refine lv_aload_n hC.1 hC.2.1 dX11_fix_50 rfl (lv_at hl 1 rfl) ?_
    refine lv_iload_n hC.1 hC.2.1 dX11_fix_51 rfl (lv_at hl 2 rfl) ?_
    refine lv_iload_n hC.1 hC.2.1 dX11_fix_52 rfl (lv_at hl 0 rfl) ?_
    refine rg_v G (rg_runV (As := [.int a1, .int t0]) (rest := []) hC hT G (c_X11_fixNow l D cy lay Γ h _) (cwV 2 hC.2.2.2.2 gX11_fix_X11_fixNow rfl rfl rfl hdV_X11_fixNow ⟨Nat.le_of_ble_eq_true rfl, Nat.le_of_ble_eq_true rfl⟩) (rg_recv hT G (by decide) r_mo k_X11) rfl hl.1 rfl (Nat.le_of_ble_eq_true rfl) dX11_fix_53 ⟨Nat.le_of_ble_eq_true rfl, Nat.le_of_ble_eq_true rfl⟩) (fun σ8 H locs h G => ?_)
    (try dsimp only at h)
    refine lv_aload_n hC.1 hC.2.1 dX11_fix_56 rfl (lv_at hl 1 rfl) ?_
    refine rg_get hC hT G (by decide) r_mo k_X11 i_X11_fix_X11 5 (by decide) (wm 2 rfl) rfl dX11_fix_57 ?_
    refine lv_iload_n hC.1 hC.2.1 dX11_fix_60 rfl (lv_at hl 2 rfl) ?_
    refine rg_r (f := fun i => lay (33 + i)) G (rg_runV (As := [.int a1]) (rest := []) hC hT G (c_lw_Jx4a65c_get_915e3 l D cy lay Γ h _) (cwV 1 hC.2.2.2.2 gX11_fix_Jx4a65c_get_915e3 rfl rfl rfl hdV_Jx4a65c_get_915e3 ⟨Nat.le_of_ble_eq_true rfl, Nat.le_of_ble_eq_true rfl⟩) (rg_recv hT G (by decide) r_lw k_AL) rfl hl.1 rfl (Nat.le_of_ble_eq_true rfl) dX11_fix_61 ⟨Nat.le_of_ble_eq_true rfl, Nat.le_of_ble_eq_true rfl⟩) (fun j10 σ9 H locs h G => ?_)
    (try dsimp only at h)
    obtain ⟨hj11, h⟩ := h
    refine rg_cast hC hT k_X10 (wm 3 rfl) (rg_recv hT G (rk_wd hj11) (r_wd hj11) k_X10) dX11_fix_64 ?_
    refine lv_astore_n (lv' := [(3, .ref (lay (33 + j10))), (2, .int t0), (0, .ref (lay 0)), (1, .int a1)]) hC.1 hC.2.1 dX11_fix_67 rfl hl (by decide) rfl (fun ls hl => ?_)
    refine lv_aload_n hC.1 hC.2.1 dX11_fix_68 rfl (lv_at hl 2 rfl) ?_
    refine rg_get hC hT G (by decide) r_mo k_X11 i_X11_fix_X11 5 (by decide) (wm 2 rfl) rfl dX11_fix_69 ?_
    refine rg_iter (Q := fun lay => MQ below (va_Qi post (rO D cy lay Γ) (rA cy lay Γ s.heap.size)) args s 1 16 (rA cy lay Γ s.heap.size)) (ql_i hT.2.2.2) hC hT G tmO_n (k := 64) (by decide) (by decide) rfl (cwV 0 hC.2.2.2.2 gX11_fix_Jx4a65c_iterator_32c93 rfl rfl rfl hdV_Jx4a65c_iterator_32c93 ⟨Nat.le_of_ble_eq_true rfl, Nat.le_of_ble_eq_true rfl⟩) hl.1 (Nat.le_of_ble_eq_true rfl) dX11_fix_72 ⟨Nat.le_of_ble_eq_true rfl, Nat.le_of_ble_eq_true rfl⟩ (fun lay hly hT H locs G => ?_)
    refine W.widen (k := 1) (n := 16) (by omega) (by omega) ?_
    replace hl : lv_has ls 6 [(3, .ref (lay (33 + j10))), (2, .int t0), (0, .ref (lay 0)), (1, .int a1)] := by rw [hly (33 + j10) (by have := (hj11).1; omega), hly 0 (by decide)]; exact hl
    refine lv_astore (lv' := [(4, .ref (lay 64)), (3, .ref (lay (33 + j10))), (2, .int t0), (0, .ref (lay 0)), (1, .int a1)]) hC.1 hC.2.1 dX11_fix_75 hl (by decide) rfl (fun ls hl => ?_)
    obtain ⟨n1, h⟩ := h
    exact l_X11_fix_77 a1 hC hr hlocks hT n1 _ _ h hj11 _ _ _ G (lv_sub hl [3, 4, 1, 0] rfl)
  · replace h := h.1 c7
    refine lv_aload_n hC.1 hC.2.1 dX11_fix_44 rfl (lv_at hl 1 rfl) ?_
    refine lv_iconst (v := 2) hC.1 hC.2.1 dX11_fix_45 (by decide) ?_
    refine rg_i G (rg_runV (As := [.int 2]) (rest := []) hC hT G (c_X11_refuse l D cy lay Γ h _) (cwV 1 hC.2.2.2.2 gX11_fix_X11_refuse rfl rfl rfl hdV_X11_refuse ⟨Nat.le_of_ble_eq_true rfl, Nat.le_of_ble_eq_true rfl⟩) (rg_recv hT G (by decide) r_mo k_X11) rfl hl.1 rfl (Nat.le_of_ble_eq_true rfl) dX11_fix_46 ⟨Nat.le_of_ble_eq_true rfl, Nat.le_of_ble_eq_true rfl⟩) (fun r19 σ18 H locs h G => ?_)
    (try dsimp only at h)
    refine W.widen (k := 1) (n := 16) (by decide) (by decide) ?_
    exact rg_iret hC hr hlocks G h dX11_fix_49
def w_X11_fix (Γ : RG) (post : Int32 → MS → Prop) (σ : MS) (a1 : Int32) : Prop := w_X11_isWedding Γ (fun r2 σ1 => ((r2 = 0 → w_X11_refuse Γ (fun r23 σ22 => post r23 σ22) σ1 1) ∧ (¬ r2 = 0 → w_X11_place Γ (fun r5 σ4 => ((r5 = 0 → w_X11_best Γ (fun r21 σ20 => u_X11_fix_38 Γ post a1 σ20 r21) σ4 a1 0 0) ∧ (¬ r5 = 0 → u_X11_fix_38 Γ post a1 σ4 (-1)))) σ1 a1))) (up2 σ 0 0 0) a1
set_option maxHeartbeats 4000000 in
set_option maxRecDepth 100000 in
theorem c_X11_fix (l : Launch) (D : va_G) (cy : Nat → ClassId) (lay : Nat → Nat) (Γ : RG) {σ : MS} {post : Int32 → MS → Prop} {a1 : Int32} (h : w_X11_fix Γ post σ a1) (sz : Nat) : Met l yX11_fix wsX11_fix rm_X11_fix (va_Pc [.ref (lay 0), .int a1] (rI D cy lay Γ σ sz)) (va_Qi post (rO D cy lay Γ) (rA cy lay Γ sz)) 1 16 (rA cy lay Γ sz) := by
  refine rg_ofW (cc := cX11_fix) (maxL := 6) (ret := some .int) (own := RX11) (Qc := fun sz => va_Qi post (rO D cy lay Γ) (rA cy lay Γ sz)) (by decide) rfl (Nat.le_of_ble_eq_true rfl) rfl ?_
  intro p e s m args below meth c ls hC hr hlocks hT G hl
  unfold w_X11_fix at h
  have hl : lv_has ls 6 [(0, .ref (lay 0)), (1, .int a1)] := hl
  refine lv_aload_n hC.1 hC.2.1 dX11_fix_0 rfl (lv_at hl 0 rfl) ?_
  refine lv_iconst (v := 0) hC.1 hC.2.1 dX11_fix_1 (by decide) ?_
  refine rg_put hC hT G (by decide) r_mo k_X11 i_X11_fix_X11 0 (by decide) (wm 1 rfl) rfl rfl (by simp) r_mo (by rw [up2_eq]; rfl) dX11_fix_2 (fun H locs G => ?_)
  refine lv_aload_n hC.1 hC.2.1 dX11_fix_5 rfl (lv_at hl 0 rfl) ?_
  refine lv_iload_n hC.1 hC.2.1 dX11_fix_6 rfl (lv_at hl 1 rfl) ?_
  refine rg_i G (rg_runV (As := [.int a1]) (rest := []) hC hT G (c_X11_isWedding l D cy lay Γ h _) (cwV 1 hC.2.2.2.2 gX11_fix_X11_isWedding rfl rfl rfl hdV_X11_isWedding ⟨Nat.le_of_ble_eq_true rfl, Nat.le_of_ble_eq_true rfl⟩) (rg_recv hT G (by decide) r_mo k_X11) rfl hl.1 rfl (Nat.le_of_ble_eq_true rfl) dX11_fix_7 ⟨Nat.le_of_ble_eq_true rfl, Nat.le_of_ble_eq_true rfl⟩) (fun r2 σ1 H locs h G => ?_)
  (try dsimp only at h)
  refine lv_if_ne (tgt := 19) hC.1 hC.2.1 dX11_fix_10 (by decide) (fun c3 => ?_) (fun c3 => ?_)
  · replace h := h.2 c3
    refine lv_aload_n hC.1 hC.2.1 dX11_fix_19 rfl (lv_at hl 0 rfl) ?_
    refine lv_iload_n hC.1 hC.2.1 dX11_fix_20 rfl (lv_at hl 1 rfl) ?_
    refine rg_i G (rg_runV (As := [.int a1]) (rest := []) hC hT G (c_X11_place l D cy lay Γ h _) (cwV 1 hC.2.2.2.2 gX11_fix_X11_place rfl rfl rfl hdV_X11_place ⟨Nat.le_of_ble_eq_true rfl, Nat.le_of_ble_eq_true rfl⟩) (rg_recv hT G (by decide) r_mo k_X11) rfl hl.1 rfl (Nat.le_of_ble_eq_true rfl) dX11_fix_21 ⟨Nat.le_of_ble_eq_true rfl, Nat.le_of_ble_eq_true rfl⟩) (fun r5 σ4 H locs h G => ?_)
    (try dsimp only at h)
    refine lv_if_ne (tgt := 37) hC.1 hC.2.1 dX11_fix_24 (by decide) (fun c6 => ?_) (fun c6 => ?_)
    · replace h := h.2 c6
      refine lv_iconst (v := (-1)) hC.1 hC.2.1 dX11_fix_37 (by decide) ?_
      exact l_X11_fix_38 a1 hC hr hlocks hT _ _ h _ _ _ G (lv_sub hl [0, 1] rfl)
    · replace h := h.1 c6
      refine lv_aload_n hC.1 hC.2.1 dX11_fix_27 rfl (lv_at hl 0 rfl) ?_
      refine lv_iload_n hC.1 hC.2.1 dX11_fix_28 rfl (lv_at hl 1 rfl) ?_
      refine lv_iconst (v := 0) hC.1 hC.2.1 dX11_fix_29 (by decide) ?_
      refine lv_iconst (v := 0) hC.1 hC.2.1 dX11_fix_30 (by decide) ?_
      refine rg_i G (rg_runV (As := [.int a1, .int 0, .int 0]) (rest := []) hC hT G (c_X11_best l D cy lay Γ h _) (cwV 3 hC.2.2.2.2 gX11_fix_X11_best rfl rfl rfl hdV_X11_best ⟨Nat.le_of_ble_eq_true rfl, Nat.le_of_ble_eq_true rfl⟩) (rg_recv hT G (by decide) r_mo k_X11) rfl hl.1 rfl (Nat.le_of_ble_eq_true rfl) dX11_fix_31 ⟨Nat.le_of_ble_eq_true rfl, Nat.le_of_ble_eq_true rfl⟩) (fun r21 σ20 H locs h G => ?_)
      (try dsimp only at h)
      refine lv_goto (tgt := 38) hC.1 hC.2.1 dX11_fix_34 (by decide) ?_
      exact l_X11_fix_38 a1 hC hr hlocks hT _ _ h _ _ _ G (lv_sub hl [0, 1] rfl)
  · replace h := h.1 c3
    refine lv_aload_n hC.1 hC.2.1 dX11_fix_13 rfl (lv_at hl 0 rfl) ?_
    refine lv_iconst (v := 1) hC.1 hC.2.1 dX11_fix_14 (by decide) ?_
    refine rg_i G (rg_runV (As := [.int 1]) (rest := []) hC hT G (c_X11_refuse l D cy lay Γ h _) (cwV 1 hC.2.2.2.2 gX11_fix_X11_refuse rfl rfl rfl hdV_X11_refuse ⟨Nat.le_of_ble_eq_true rfl, Nat.le_of_ble_eq_true rfl⟩) (rg_recv hT G (by decide) r_mo k_X11) rfl hl.1 rfl (Nat.le_of_ble_eq_true rfl) dX11_fix_15 ⟨Nat.le_of_ble_eq_true rfl, Nat.le_of_ble_eq_true rfl⟩) (fun r23 σ22 H locs h G => ?_)
    (try dsimp only at h)
    refine W.widen (k := 1) (n := 16) (by decide) (by decide) ?_
    exact rg_iret hC hr hlocks G h dX11_fix_18
theorem hdV_X11_fix : yX11_fix.cls = RX11 ∧ yX11_fix.cls ≠ "java/lang/invoke/MethodHandle" ∧ yX11_fix.cls ≠ "java/lang/invoke/VarHandle" ∧ (parseMethodDescriptor yX11_fix.desc).map (fun d => d.parameters.length) = some 1 := by decide +kernel
