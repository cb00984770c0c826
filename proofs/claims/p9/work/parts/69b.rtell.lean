/-! TEXTS: walks of StringBuilder, String (69b.rtell) -/
set_option maxHeartbeats 4000000 in
set_option maxRecDepth 100000 in
/-- isIn -/
theorem c_isInS (l : Launch) (D : va_G) (cy : Nat → ClassId) (lay : Nat → Nat) (X : Nat → Option va_E) {a b : Int32} (sz : Nat) : Met l yX11_isIn wsX11_isIn (rmS 0 0 0) (va_Pc [.int a, .int b] (sI D cy none lay X sz)) (va_Qi (fun (r : Int32) (Y : GY) => Y = (lay, X)) (gO D (gA lay X sz)) (gA lay X sz)) 0 0 (gA lay X sz) := by
  refine s_ofW (cc := cX11_isIn) (maxL := 2) (ret := (some .boolean)) (own := RX11) (Qc := fun sz => va_Qi (fun (r : Int32) (Y : GY) => Y = (lay, X)) (gO D (gA lay X sz)) (gA lay X sz)) (by decide) rfl (Nat.le_of_ble_eq_true rfl) rfl ?_
  intro p e0 s m9 args below meth c ls hC hr hlocks hname hT hX G hl
  have hl : lv_has ls 2 [(0, .int a), (1, .int b)] := hl
  have hA : ∀ q, s.heap.size ≤ q → gA lay X s.heap.size q := fun _ h => Or.inr h
  refine lv_iload_n hC.1 hC.2.1 dX11_isIn_0 rfl (lv_at hl 0 rfl) ?_
  refine lv_iload_n hC.1 hC.2.1 dX11_isIn_1 rfl (lv_at hl 1 rfl) ?_
  refine lv_ishr hC.1 hC.2.1 dX11_isIn_2 ?_
  refine lv_iconst (v := 1) hC.1 hC.2.1 dX11_isIn_3 (by decide) ?_
  refine lv_iand hC.1 hC.2.1 dX11_isIn_4 ?_
  refine lv_iconst (v := 1) hC.1 hC.2.1 dX11_isIn_5 (by decide) ?_
  refine lv_icmp_ne (tgt := 13) hC.1 hC.2.1 dX11_isIn_6 (by decide) (fun _ => ?_) (fun _ => ?_)
  · refine lv_iconst (v := 0) hC.1 hC.2.1 dX11_isIn_13 (by decide) ?_
    exact W.zret (v := 0) hC.1 hC.2.1 hr rfl (fun t ht hW => ⟨⟨0, (lay, X), rfl, rfl, by rw [ht]; exact G.1, G.2.1⟩, G.2.2.F ht⟩) G.2.2.2.2 dX11_isIn_14 hlocks
  · refine lv_iconst (v := 1) hC.1 hC.2.1 dX11_isIn_9 (by decide) ?_
    refine lv_goto (tgt := 14) hC.1 hC.2.1 dX11_isIn_10 (by decide) ?_
    exact W.zret (v := 1) hC.1 hC.2.1 hr rfl (fun t ht hW => ⟨⟨1, (lay, X), rfl, rfl, by rw [ht]; exact G.1, G.2.1⟩, G.2.2.F ht⟩) G.2.2.2.2 dX11_isIn_14 hlocks
def w_X11_tell (Γ : RG) (post : MS → Prop) (σ : MS) (a1 : Int32) : Prop := w_X11_isWedding Γ (fun r σ1 => (r = 0 → post (up2 σ1 0 0 1)) ∧ (¬ r = 0 → w_lw_Jx4a65c_get_915e3 Γ (fun j σ2 => (j < 14 ∧ j < Γ.2.2.1) ∧ ∃ w d t : Nat, w < 1000 ∧ a1 = nI w ∧ d < 1000 ∧ σ2 (33 + j) 1 = nI d ∧ t < 1000 ∧ σ2 (33 + j) 2 = nI t ∧ σ2 1 2 = nI Γ.1 ∧ post σ2) (up2 σ1 0 0 0) a1)) σ a1
set_option maxHeartbeats 8000000 in
set_option maxRecDepth 100000 in
theorem c_X11_tell (l : Launch) (D : va_G) (cy : Nat → ClassId) (lay : Nat → Nat) (Γ : RG) (ad : Nat → Nat) {σ : MS} {post : MS → Prop} {a1 : Int32} (h : w_X11_tell Γ post σ a1) (sz : Nat) : Met l yX11_tell wsX11_tell (rmS 9 40 2400) (va_Pc [.ref (lay 0), .int a1] (rIT D cy lay Γ σ ad sz)) (va_Qr (S := MS) post (fun τ _ t => rO D cy lay Γ τ t) (rA cy lay Γ sz)) 40 2400 (rA cy lay Γ sz) := by
  refine rg_ofT (cc := cX11_tell) (maxL := 7) (ret := (some (.object "java/lang/String"))) (own := RX11) (Qc := fun sz => (va_Qr (S := MS) post (fun τ _ t => rO D cy lay Γ τ t) (rA cy lay Γ sz))) (by decide) rfl (Nat.le_of_ble_eq_true rfl) rfl ?_
  intro p e s m args below meth c ls hC hr hlocks hT hB hK G hl
  unfold w_X11_tell at h
  have hA : ∀ q, s.heap.size ≤ q → rA cy lay Γ s.heap.size q := fun _ h => Or.inr h
  have hl : lv_has ls 7 [(0, .ref (lay 0)), (1, .int a1)] := hl
  refine lv_aload_n hC.1 hC.2.1 dX11_tell_0 rfl (lv_at hl 0 rfl) ?_
  refine lv_aload_n hC.1 hC.2.1 dX11_tell_1 rfl (lv_at hl 0 rfl) ?_
  refine lv_iload_n hC.1 hC.2.1 dX11_tell_2 rfl (lv_at hl 1 rfl) ?_
  refine rg_i G (rg_runV (As := [.int a1]) (rest := [.ref (lay 0)]) hC hT G (c_X11_isWedding l D cy lay Γ h _) (cwV 1 hC.2.2.2.2 gX11_tell_X11_isWedding rfl rfl rfl hdV_X11_isWedding ⟨Nat.le_of_ble_eq_true rfl, Nat.le_of_ble_eq_true rfl⟩) (rg_recv hT G (by decide) r_mo k_X11) rfl hl.1 rfl (Nat.le_of_ble_eq_true rfl) dX11_tell_3 ⟨Nat.le_of_ble_eq_true rfl, Nat.le_of_ble_eq_true rfl⟩) (fun r σ1 H locs h1 G => ?_)
  refine lv_if_eq (tgt := 13) hC.1 hC.2.1 dX11_tell_6 (by decide) (fun c1 => ?_) (fun c1 => ?_)
  · replace h1 := h1.1 c1
    refine lv_iconst (v := 1) hC.1 hC.2.1 dX11_tell_13 (by decide) ?_
    refine rg_put hC hT G (by decide) r_mo k_X11 (fun _ h => List.mem_cons_of_mem _ (List.mem_append_left _ (List.mem_append_left _ (List.mem_append_left _ (List.mem_append_left _ (List.mem_append_right _ h)))))) 0 (by decide) (wm 1 rfl) rfl rfl (by simp) r_mo (by rw [up2_eq]; rfl) dX11_tell_14 (fun H locs G => ?_)
    refine lv_aload_n hC.1 hC.2.1 dX11_tell_17 rfl (lv_at hl 0 rfl) ?_
    refine rg_get hC hT G (by decide) r_mo k_X11 (fun _ h => List.mem_cons_of_mem _ (List.mem_append_left _ (List.mem_append_left _ (List.mem_append_left _ (List.mem_append_left _ (List.mem_append_right _ h)))))) 0 (by decide) (wm 1 rfl) rfl dX11_tell_18 ?_
    refine lv_if_le (tgt := 28) hC.1 hC.2.1 dX11_tell_21 (by decide) (fun c2 => absurd (show (up2 σ1 0 0 1) 0 0 ≤ 0 from c2) (by rw [up2_same]; decide)) (fun _ => ?_)
    refine va_ldcwS hC (hK 0 (323, "", 0) rfl).1 dX11_tell_24 ?_
    refine W.widen (k := 40) (n := 2400) (by decide) (by decide) ?_
    exact rg_tret hC hr ⟨_, rfl⟩ hlocks G h1 dX11_tell_27
  replace h1 := h1.2 c1
  refine lv_iconst (v := 0) hC.1 hC.2.1 dX11_tell_9 (by decide) ?_
  refine lv_goto (tgt := 14) hC.1 hC.2.1 dX11_tell_10 (by decide) ?_
  refine rg_put hC hT G (by decide) r_mo k_X11 (fun _ h => List.mem_cons_of_mem _ (List.mem_append_left _ (List.mem_append_left _ (List.mem_append_left _ (List.mem_append_left _ (List.mem_append_right _ h)))))) 0 (by decide) (wm 1 rfl) rfl rfl (by simp) r_mo (by rw [up2_eq]; rfl) dX11_tell_14 (fun H locs G => ?_)
  refine lv_aload_n hC.1 hC.2.1 dX11_tell_17 rfl (lv_at hl 0 rfl) ?_
  refine rg_get hC hT G (by decide) r_mo k_X11 (fun _ h => List.mem_cons_of_mem _ (List.mem_append_left _ (List.mem_append_left _ (List.mem_append_left _ (List.mem_append_left _ (List.mem_append_right _ h)))))) 0 (by decide) (wm 1 rfl) rfl dX11_tell_18 ?_
  refine lv_if_le (tgt := 28) hC.1 hC.2.1 dX11_tell_21 (by decide) (fun _ => ?_) (fun c2 => absurd (show (up2 σ1 0 0 0) 0 0 ≤ 0 by rw [up2_same]; decide) c2)
  refine lv_aload_n hC.1 hC.2.1 dX11_tell_28 rfl (lv_at hl 0 rfl) ?_
  refine rg_get hC hT G (by decide) r_mo k_X11 (fun _ h => List.mem_cons_of_mem _ (List.mem_append_left _ (List.mem_append_left _ (List.mem_append_left _ (List.mem_append_left _ (List.mem_append_right _ h)))))) 5 (by decide) (wm 2 rfl) rfl dX11_tell_29 ?_
  refine lv_iload_n hC.1 hC.2.1 dX11_tell_32 rfl (lv_at hl 1 rfl) ?_
  refine rg_r (f := fun i => lay (33 + i)) G (rg_runV (As := [.int a1]) (rest := []) hC hT G (c_lw_Jx4a65c_get_915e3 l D cy lay Γ h1 _) (cwV 1 hC.2.2.2.2 gX11_tell_Jx4a65c_get_915e3 rfl rfl rfl hdV_Jx4a65c_get_915e3 ⟨Nat.le_of_ble_eq_true rfl, Nat.le_of_ble_eq_true rfl⟩) (rg_recv hT G (by decide) r_lw k_AL) rfl hl.1 rfl (Nat.le_of_ble_eq_true rfl) dX11_tell_33 ⟨Nat.le_of_ble_eq_true rfl, Nat.le_of_ble_eq_true rfl⟩) (fun j σ2 H locs h2 G => ?_)
  obtain ⟨hj, w, d, t, hw, ea, hd, ed, ht, et, eP, h2⟩ := h2
  subst ea
  refine rg_cast hC hT k_X10 (wm 3 rfl) (rg_recv hT G (rk_wd hj) (r_wd hj) k_X10) dX11_tell_36 ?_
  refine lv_astore_n (lv' := [(2, .ref (lay (33 + j))), (0, .ref (lay 0)), (1, .int (nI w))]) hC.1 hC.2.1 dX11_tell_39 rfl hl (by decide) rfl (fun ls hl => ?_)
  have go : ∀ (ix w8 : Nat) (H : Heap) (locs : List Loc) (ls : Array Slot), w8 ≤ 6 → tX (ad ix) w8 (rA cy lay Γ s.heap.size) s s.heap → rG D cy lay Γ tn σ2 (rA cy lay Γ s.heap.size) s.heap H locs → lv_has ls 7 [(2, .ref (lay (33 + j))), (0, .ref (lay 0)), (1, .int (nI w))] → W p l e (rmS 9 40 2400) s m args below meth c H locs 0 0 (MQ below (va_Qr (S := MS) post (fun τ _ t => rO D cy lay Γ τ t) (rA cy lay Γ s.heap.size)) args s 40 2400 (rA cy lay Γ s.heap.size)) (F0 m 84 ls [.ref (ad ix)]) := by
    intro ix w8 H locs ls hw8 hX8 G hl
    refine lv_astore_n (lv' := [(3, .ref (ad ix)), (2, .ref (lay (33 + j))), (0, .ref (lay 0)), (1, .int (nI w))]) hC.1 hC.2.1 dX11_tell_84 rfl hl (by decide) rfl (fun ls hl => ?_)
    have G : gG D lay (rX cy lay Γ tn σ2) (rA cy lay Γ s.heap.size) s.heap H locs := G
    have hXw : rX cy lay Γ tn σ2 (33 + j) = some (.inr (15, L12 (σ2 (33 + j)))) := r_wd hj
    have hX0 : rX cy lay Γ tn σ2 0 = some (.inr (16, Lmo lay (σ2 0))) := r_mo
    have hX1 : rX cy lay Γ tn σ2 1 = some (.inr (4, [.int (σ2 1 0), .ref (if Γ.1 = 0 then Γ.2.2.2.1 else lay 4), .int (σ2 1 2)])) := r_lp
    have hn100 : rX cy lay Γ tn σ2 100 = none := r_tm (by decide)
    have hn101 : rX cy lay Γ tn σ2 101 = none := r_tm (by decide)
    have hn102 : rX cy lay Γ tn σ2 102 = none := r_tm (by decide)
    have hn103 : rX cy lay Γ tn σ2 103 = none := r_tm (by decide)
    have hn104 : rX cy lay Γ tn σ2 104 = none := r_tm (by decide)
    refine sb_new (k := 100) (kb := 101) (rest := []) hC hB hA G (by decide) (by decide) (by decide) hn100 hn101 (fun _ h => List.mem_cons_of_mem _ (List.mem_append_left _ (List.mem_append_left _ (List.mem_append_right _ h)))) (wm 4 rfl) (wm 5 rfl) (wm 6 rfl) ⟨callB_of 0 hC.2.2.2.2 gX11_tell_J4_init_da8c8 rfl rfl rfl (hC.2.2.2.2 (.initialized RJ4) (wm 6 rfl)) (hC.2.2.2.2 (.methodLink RX11 327 yJ4_init_da8c8) (wm 39 rfl)) hdI_J4_init_da8c8 ⟨Nat.le_of_ble_eq_true rfl, Nat.le_of_ble_eq_true rfl⟩, rfl, hC.2.2.2.2 (.instanceMethod yJ4_init_da8c8) (wm 40 rfl)⟩ hl.1 (Nat.le_of_ble_eq_true rfl) dX11_tell_85 dX11_tell_88 dX11_tell_89 ⟨Nat.le_of_ble_eq_true rfl, Nat.le_of_ble_eq_true rfl⟩ (fun q H locs S => ?_)
    have eo : ∀ j, j < 64 → gU lay 100 q j = lay j := fun j hj => gU_ne (by omega)
    refine lv_astore (lv' := [(4, .ref (gU lay 100 q 100)), (3, .ref (ad ix)), (2, .ref (lay (33 + j))), (0, .ref (lay 0)), (1, .int (nI w))]) hC.1 hC.2.1 dX11_tell_92 hl (by decide) rfl (fun ls hl => ?_)
    have hr0 : lay 0 = gU lay 100 q 0 := (eo 0 (by decide)).symm
    generalize gU lay 100 q = L at eo S hl hr0
    rw [hr0, ← eo (33 + j) (by omega)] at hl
    have d1 : ∀ v, dg v ≤ 3 := fun v => by unfold dg; split <;> (try split) <;> omega
    have q1 := d1 w
    have q2 := d1 d
    have q3 := d1 t
    refine lv_aload hC.1 hC.2.1 dX11_tell_94 (lv_at hl 0 rfl) ?_
    refine lv_iload_n hC.1 hC.2.1 dX11_tell_96 rfl (lv_at hl 4 rfl) ?_
    refine sb_apI (kn := 102) (rest := []) hC hB hA S (by decide) (by decide) (by decide) (by decide) (by decide) (by decide) hn102 (v := w) hw (by omega) (cwV 1 hC.2.2.2.2 gX11_tell_J4_append_bf812 rfl rfl rfl hdV_J4_append_bf812 ⟨Nat.le_of_ble_eq_true rfl, Nat.le_of_ble_eq_true rfl⟩) hl.1 (Nat.le_of_ble_eq_true rfl) dX11_tell_97 ⟨Nat.le_of_ble_eq_true rfl, Nat.le_of_ble_eq_true rfl⟩ (fun H locs S => ?_)
    refine va_ldcwS hC (hK 7 (362, " on day ", 8) rfl).1 dX11_tell_100 ?_
    refine sb_apS (kn := 102) (rest := []) hC hB hA S (by decide) (by decide) (by decide) (by decide) (by decide) (by decide) hn102 (show tX (ad 7) 8 (rA cy lay Γ s.heap.size) s s.heap from (hK 7 (362, " on day ", 8) rfl).2) (by decide) (by omega) (cwV 1 hC.2.2.2.2 gX11_tell_J4_append_15ec4 rfl rfl rfl hdV_J4_append_15ec4 ⟨Nat.le_of_ble_eq_true rfl, Nat.le_of_ble_eq_true rfl⟩) hl.1 (Nat.le_of_ble_eq_true rfl) dX11_tell_103 ⟨Nat.le_of_ble_eq_true rfl, Nat.le_of_ble_eq_true rfl⟩ (fun H locs S => ?_)
    refine lv_aload_n hC.1 hC.2.1 dX11_tell_106 rfl (lv_at hl 2 rfl) ?_
    refine sb_getN hC hB hT.2.1 S (by omega) (by omega) (by omega) hXw k_X10 (fun _ h => List.mem_cons_of_mem _ (List.mem_append_left _ (List.mem_append_left _ (List.mem_append_left _ (List.mem_append_right _ h))))) 1 (by decide) 11 rfl rfl dX11_tell_107 ?_
    rw [ed]
    refine sb_apI (kn := 102) (rest := []) hC hB hA S (by decide) (by decide) (by decide) (by decide) (by decide) (by decide) hn102 (v := d) hd (by omega) (cwV 1 hC.2.2.2.2 gX11_tell_J4_append_bf812 rfl rfl rfl hdV_J4_append_bf812 ⟨Nat.le_of_ble_eq_true rfl, Nat.le_of_ble_eq_true rfl⟩) hl.1 (Nat.le_of_ble_eq_true rfl) dX11_tell_110 ⟨Nat.le_of_ble_eq_true rfl, Nat.le_of_ble_eq_true rfl⟩ (fun H locs S => ?_)
    refine va_ldcwS hC (hK 8 (364, " in ", 4) rfl).1 dX11_tell_113 ?_
    refine sb_apS (kn := 102) (rest := []) hC hB hA S (by decide) (by decide) (by decide) (by decide) (by decide) (by decide) hn102 (show tX (ad 8) 4 (rA cy lay Γ s.heap.size) s s.heap from (hK 8 (364, " in ", 4) rfl).2) (by decide) (by omega) (cwV 1 hC.2.2.2.2 gX11_tell_J4_append_15ec4 rfl rfl rfl hdV_J4_append_15ec4 ⟨Nat.le_of_ble_eq_true rfl, Nat.le_of_ble_eq_true rfl⟩) hl.1 (Nat.le_of_ble_eq_true rfl) dX11_tell_116 ⟨Nat.le_of_ble_eq_true rfl, Nat.le_of_ble_eq_true rfl⟩ (fun H locs S => ?_)
    refine lv_aload_n hC.1 hC.2.1 dX11_tell_119 rfl (lv_at hl 2 rfl) ?_
    refine sb_getN hC hB hT.2.1 S (by omega) (by omega) (by omega) hXw k_X10 (fun _ h => List.mem_cons_of_mem _ (List.mem_append_left _ (List.mem_append_left _ (List.mem_append_left _ (List.mem_append_right _ h))))) 2 (by decide) 12 rfl rfl dX11_tell_120 ?_
    rw [et]
    refine sb_apI (kn := 102) (rest := []) hC hB hA S (by decide) (by decide) (by decide) (by decide) (by decide) (by decide) hn102 (v := t) ht (by omega) (cwV 1 hC.2.2.2.2 gX11_tell_J4_append_bf812 rfl rfl rfl hdV_J4_append_bf812 ⟨Nat.le_of_ble_eq_true rfl, Nat.le_of_ble_eq_true rfl⟩) hl.1 (Nat.le_of_ble_eq_true rfl) dX11_tell_123 ⟨Nat.le_of_ble_eq_true rfl, Nat.le_of_ble_eq_true rfl⟩ (fun H locs S => ?_)
    refine va_ldcwS hC (hK 9 (366, ", ", 2) rfl).1 dX11_tell_126 ?_
    refine sb_apS (kn := 102) (rest := []) hC hB hA S (by decide) (by decide) (by decide) (by decide) (by decide) (by decide) hn102 (show tX (ad 9) 2 (rA cy lay Γ s.heap.size) s s.heap from (hK 9 (366, ", ", 2) rfl).2) (by decide) (by omega) (cwV 1 hC.2.2.2.2 gX11_tell_J4_append_15ec4 rfl rfl rfl hdV_J4_append_15ec4 ⟨Nat.le_of_ble_eq_true rfl, Nat.le_of_ble_eq_true rfl⟩) hl.1 (Nat.le_of_ble_eq_true rfl) dX11_tell_129 ⟨Nat.le_of_ble_eq_true rfl, Nat.le_of_ble_eq_true rfl⟩ (fun H locs S => ?_)
    refine lv_aload_n hC.1 hC.2.1 dX11_tell_132 rfl (lv_at hl 1 rfl) ?_
    refine sb_apS (kn := 102) (rest := []) hC hB hA S (by decide) (by decide) (by decide) (by decide) (by decide) (by decide) hn102 hX8 (by omega) (by omega) (cwV 1 hC.2.2.2.2 gX11_tell_J4_append_15ec4 rfl rfl rfl hdV_J4_append_15ec4 ⟨Nat.le_of_ble_eq_true rfl, Nat.le_of_ble_eq_true rfl⟩) hl.1 (Nat.le_of_ble_eq_true rfl) dX11_tell_133 ⟨Nat.le_of_ble_eq_true rfl, Nat.le_of_ble_eq_true rfl⟩ (fun H locs S => ?_)
    refine lv_pop hC.1 hC.2.1 dX11_tell_136 rfl ?_
    refine W.widen (k := 18) (n := 900) (by decide) (by decide) ?_
    have hn36 : 0 + dg w + 8 + dg d + 4 + dg t + 2 + w8 ≤ 36 := by omega
    generalize 0 + dg w + 8 + dg d + 4 + dg t + 2 + w8 = n at hn36 S
    have finA : ∀ (n' : Nat) (H : Heap) (locs : List Loc) (ls : Array Slot), n' ≤ 70 → sbW D cy L (rX cy lay Γ tn σ2) (rA cy lay Γ s.heap.size) s.heap H locs 100 101 n' → lv_has ls 7 [(4, .ref (L 100)), (3, .ref (ad ix)), (2, .ref (L (33 + j))), (0, .ref (L 0)), (1, .int (nI w))] → W p l e (rmS 9 40 2400) s m args below meth c H locs 38 2300 (MQ below (va_Qr (S := MS) post (fun τ _ t => rO D cy lay Γ τ t) (rA cy lay Γ s.heap.size)) args s 40 2400 (rA cy lay Γ s.heap.size)) (F0 m 153 ls []) := by
      intro n' H locs ls hn' S hl
      refine lv_aload hC.1 hC.2.1 dX11_tell_153 (lv_at hl 0 rfl) ?_
      refine sb_toS (ks := 103) (kr := 104) (rest := []) hC hB hA S (by decide) (by decide) (by decide) (by decide) (by decide) (by decide) (by decide) (by decide) (by decide) (by decide) hn103 hn104 (cwV 0 hC.2.2.2.2 gX11_tell_J4_toString_0e30d rfl rfl rfl hdV_J4_toString_0e30d ⟨Nat.le_of_ble_eq_true rfl, Nat.le_of_ble_eq_true rfl⟩) hl.1 (Nat.le_of_ble_eq_true rfl) dX11_tell_155 ⟨Nat.le_of_ble_eq_true rfl, Nat.le_of_ble_eq_true rfl⟩ (fun qs L' X' H locs hk G => ?_)
      refine W.widen (k := 40) (n := 2400) (by decide) (by decide) ?_
      have G := g_rg (fun k hk64 => ((hk k (by omega) (by omega) (by omega) (by omega)).2)) (fun k hk64 => ((hk k (by omega) (by omega) (by omega) (by omega)).1).trans (eo k hk64)) G
      exact rg_tret hC hr ⟨_, rfl⟩ hlocks G h2 dX11_tell_158
    have finB : ∀ (n' : Nat) (H : Heap) (locs : List Loc) (ls : Array Slot), n' ≤ 70 → sbW D cy L (rX cy lay Γ tn σ2) (rA cy lay Γ s.heap.size) s.heap H locs 100 101 n' → lv_has ls 7 [(4, .ref (L 100)), (3, .ref (ad ix)), (2, .ref (L (33 + j))), (0, .ref (L 0)), (1, .int (nI w))] → W p l e (rmS 9 40 2400) s m args below meth c H locs 38 2300 (MQ below (va_Qr (S := MS) post (fun τ _ t => rO D cy lay Γ τ t) (rA cy lay Γ s.heap.size)) args s 40 2400 (rA cy lay Γ s.heap.size)) (F0 m 226 ls []) := by
      intro n' H locs ls hn' S hl
      refine lv_aload hC.1 hC.2.1 dX11_tell_226 (lv_at hl 0 rfl) ?_
      refine sb_toS (ks := 103) (kr := 104) (rest := []) hC hB hA S (by decide) (by decide) (by decide) (by decide) (by decide) (by decide) (by decide) (by decide) (by decide) (by decide) hn103 hn104 (cwV 0 hC.2.2.2.2 gX11_tell_J4_toString_0e30d rfl rfl rfl hdV_J4_toString_0e30d ⟨Nat.le_of_ble_eq_true rfl, Nat.le_of_ble_eq_true rfl⟩) hl.1 (Nat.le_of_ble_eq_true rfl) dX11_tell_228 ⟨Nat.le_of_ble_eq_true rfl, Nat.le_of_ble_eq_true rfl⟩ (fun qs L' X' H locs hk G => ?_)
      refine W.widen (k := 40) (n := 2400) (by decide) (by decide) ?_
      have G := g_rg (fun k hk64 => ((hk k (by omega) (by omega) (by omega) (by omega)).2)) (fun k hk64 => ((hk k (by omega) (by omega) (by omega) (by omega)).1).trans (eo k hk64)) G
      exact rg_tret hC hr ⟨_, rfl⟩ hlocks G h2 dX11_tell_231
    have hP10 := hT.2.2.2.1
    have loop : ∀ (dd i : Nat), i + dd = Γ.1 → ∀ (n1 : Nat) (v5 : Int32) (H : Heap) (locs : List Loc) (ls : Array Slot), n1 ≤ n + 3 * i → sbW D cy L (rX cy lay Γ tn σ2) (rA cy lay Γ s.heap.size) s.heap H locs 100 101 n1 → lv_has ls 7 [(6, .int (nI i)), (5, .int v5), (4, .ref (L 100)), (3, .ref (ad ix)), (2, .ref (L (33 + j))), (0, .ref (L 0)), (1, .int (nI w))] → W p l e (rmS 9 40 2400) s m args below meth c H locs (18 + 2 * i) (900 + 140 * i) (MQ below (va_Qr (S := MS) post (fun τ _ t => rO D cy lay Γ τ t) (rA cy lay Γ s.heap.size)) args s 40 2400 (rA cy lay Γ s.heap.size)) (F0 m 165 ls []) := by
      intro dd
      induction dd with
      | zero =>
        intro i hi n1 v5 H locs ls hn1 S hl
        refine lv_iload hC.1 hC.2.1 dX11_tell_165 (lv_at hl 0 rfl) ?_
        refine lv_aload_n hC.1 hC.2.1 dX11_tell_167 rfl (lv_at hl 5 rfl) ?_
        refine sb_get hC hB S (by decide) (by decide) (by decide) hX0 k_X11 (fun _ h => List.mem_cons_of_mem _ (List.mem_append_left _ (List.mem_append_left _ (List.mem_append_left _ (List.mem_append_left _ (List.mem_append_right _ h)))))) 3 (by decide) (wm 7 rfl) rfl dX11_tell_168 ?_
        rw [← eo 1 (by decide)]
        refine sb_size (rest := [.int (nI i)]) hC hB hT.2.1 hA S (by decide) (by decide) (by decide) hX1 (cwV 0 hC.2.2.2.2 gX11_tell_Jx4a65c_size_8abf5 rfl rfl rfl hdV_Jx4a65c_size_8abf5 ⟨Nat.le_of_ble_eq_true rfl, Nat.le_of_ble_eq_true rfl⟩) hl.1 (Nat.le_of_ble_eq_true rfl) dX11_tell_171 ⟨by show _ ≤ 40; omega, by show _ ≤ 2400; omega⟩ (fun H locs S => ?_)
        rw [eP]
        refine lv_icmp_ge (tgt := 226) hC.1 hC.2.1 dX11_tell_174 (by decide) (fun _ => ?_) (fun c1 => absurd (nI_le (show Γ.1 ≤ i by omega) (by omega)) c1)
        refine W.widen (k := 38) (n := 2300) (by omega) (by omega) ?_
        exact finB n1 H locs ls (by omega) S (lv_sub hl [2, 3, 4, 5, 6] rfl)
      | succ dd ih =>
        intro i hi n1 v5 H locs ls hn1 S hl
        have next : ∀ (n2 : Nat) (v6 : Int32) (H : Heap) (locs : List Loc) (ls : Array Slot), n2 ≤ n + 3 * (i + 1) → sbW D cy L (rX cy lay Γ tn σ2) (rA cy lay Γ s.heap.size) s.heap H locs 100 101 n2 → lv_has ls 7 [(6, .int (nI i)), (5, .int v6), (4, .ref (L 100)), (3, .ref (ad ix)), (2, .ref (L (33 + j))), (0, .ref (L 0)), (1, .int (nI w))] → W p l e (rmS 9 40 2400) s m args below meth c H locs (18 + 2 * (i + 1)) (900 + 140 * (i + 1)) (MQ below (va_Qr (S := MS) post (fun τ _ t => rO D cy lay Γ τ t) (rA cy lay Γ s.heap.size)) args s 40 2400 (rA cy lay Γ s.heap.size)) (F0 m 220 ls []) := by
          intro n2 v6 H locs ls hn2 S hl
          refine lv_iinc (k := 0) (v := nI (i + 1)) (lv' := [(6, .int (nI (i + 1))), (5, .int v6), (4, .ref (L 100)), (3, .ref (ad ix)), (2, .ref (L (33 + j))), (0, .ref (L 0)), (1, .int (nI w))]) hC.1 hC.2.1 dX11_tell_220 hl rfl (by rw [show Int32.ofInt 1 = 1 by decide]; exact nI_1 i) (by decide) rfl (fun ls hl => ?_)
          refine lv_goto (tgt := 165) hC.1 hC.2.1 dX11_tell_223 (by decide) ?_
          exact ih (i + 1) (by omega) n2 v6 H locs ls hn2 S hl
        refine lv_iload hC.1 hC.2.1 dX11_tell_165 (lv_at hl 0 rfl) ?_
        refine lv_aload_n hC.1 hC.2.1 dX11_tell_167 rfl (lv_at hl 5 rfl) ?_
        refine sb_get hC hB S (by decide) (by decide) (by decide) hX0 k_X11 (fun _ h => List.mem_cons_of_mem _ (List.mem_append_left _ (List.mem_append_left _ (List.mem_append_left _ (List.mem_append_left _ (List.mem_append_right _ h)))))) 3 (by decide) (wm 7 rfl) rfl dX11_tell_168 ?_
        rw [← eo 1 (by decide)]
        refine sb_size (rest := [.int (nI i)]) hC hB hT.2.1 hA S (by decide) (by decide) (by decide) hX1 (cwV 0 hC.2.2.2.2 gX11_tell_Jx4a65c_size_8abf5 rfl rfl rfl hdV_Jx4a65c_size_8abf5 ⟨Nat.le_of_ble_eq_true rfl, Nat.le_of_ble_eq_true rfl⟩) hl.1 (Nat.le_of_ble_eq_true rfl) dX11_tell_171 ⟨by show _ ≤ 40; omega, by show _ ≤ 2400; omega⟩ (fun H locs S => ?_)
        rw [eP]
        refine lv_icmp_ge (tgt := 226) hC.1 hC.2.1 dX11_tell_174 (by decide) (fun c1 => absurd c1 (nI_ge (by omega) (by omega))) (fun _ => ?_)
        refine lv_aload_n hC.1 hC.2.1 dX11_tell_177 rfl (lv_at hl 4 rfl) ?_
        refine sb_getN hC hB hT.2.1 S (by omega) (by omega) (by omega) hXw k_X10 (fun _ h => List.mem_cons_of_mem _ (List.mem_append_left _ (List.mem_append_left _ (List.mem_append_left _ (List.mem_append_right _ h))))) 8 (by decide) 18 rfl rfl dX11_tell_178 ?_
        refine lv_iload hC.1 hC.2.1 dX11_tell_181 (lv_at hl 0 rfl) ?_
        obtain ⟨L1, m1, a2, ml1, g1, g2, g3, g4, G⟩ := S
        refine g_i G hA (s_runS (As := [.int (σ2 (33 + j) 8), .int (nI i)]) (rest := []) (tx := none) hC hB hA G (fun _ h => by cases h) (c_isInS l D cy L1 (sbX cy (rX cy lay Γ tn σ2) 100 101 (L1 101) m1 a2 (nI n1) ml1) _) (va_cwS 2 hC.2.2.2.2 gX11_tell_X11_isIn rfl rfl rfl hdS_X11_isIn ⟨Nat.le_of_ble_eq_true rfl, Nat.le_of_ble_eq_true rfl⟩) rfl hl.1 rfl (Nat.le_of_ble_eq_true rfl) dX11_tell_183 ⟨by show _ ≤ 40; omega, by show _ ≤ 2400; omega⟩) (fun r Y H locs hY G => ?_)
        subst hY
        have S : sbW D cy L (rX cy lay Γ tn σ2) (rA cy lay Γ s.heap.size) s.heap H locs 100 101 n1 := ⟨L1, m1, a2, ml1, g1, g2, g3, g4, G⟩
        refine lv_if_ne (tgt := 192) hC.1 hC.2.1 dX11_tell_186 (by decide) (fun _ => ?_) (fun _ => ?_)
        rotate_left
        · refine lv_goto (tgt := 220) hC.1 hC.2.1 dX11_tell_189 (by decide) ?_
          refine W.widen (k := 18 + 2 * (i + 1)) (n := 900 + 140 * (i + 1)) (by omega) (by omega) ?_
          exact next n1 v5 H locs ls (by omega) S hl
        have fin : ∀ (sa w9 : Nat), tX sa w9 (rA cy lay Γ s.heap.size) s s.heap → w9 ≤ 2 → W p l e (rmS 9 40 2400) s m args below meth c H locs (18 + 2 * i) (900 + 140 * i) (MQ below (va_Qr (S := MS) post (fun τ _ t => rO D cy lay Γ τ t) (rA cy lay Γ s.heap.size)) args s 40 2400 (rA cy lay Γ s.heap.size)) (F0 m 208 ls [.ref sa, .ref (L 100)]) := by
          intro sa w9 hw9 hw92
          refine sb_apS (kn := 102) (rest := []) hC hB hA S (by decide) (by decide) (by decide) (by decide) (by decide) (by decide) hn102 hw9 (by omega) (by omega) (cwV 1 hC.2.2.2.2 gX11_tell_J4_append_15ec4 rfl rfl rfl hdV_J4_append_15ec4 ⟨Nat.le_of_ble_eq_true rfl, Nat.le_of_ble_eq_true rfl⟩) hl.1 (Nat.le_of_ble_eq_true rfl) dX11_tell_208 ⟨by show _ ≤ 40; omega, by show _ ≤ 2400; omega⟩ (fun H locs S => ?_)
          refine lv_iload hC.1 hC.2.1 dX11_tell_211 (lv_at hl 0 rfl) ?_
          refine sb_apI (kn := 102) (rest := []) hC hB hA S (by decide) (by decide) (by decide) (by decide) (by decide) (by decide) hn102 (v := i) (by omega) (by omega) (cwV 1 hC.2.2.2.2 gX11_tell_J4_append_bf812 rfl rfl rfl hdV_J4_append_bf812 ⟨Nat.le_of_ble_eq_true rfl, Nat.le_of_ble_eq_true rfl⟩) hl.1 (Nat.le_of_ble_eq_true rfl) dX11_tell_213 ⟨by show _ ≤ 40; omega, by show _ ≤ 2400; omega⟩ (fun H locs S => ?_)
          refine lv_pop hC.1 hC.2.1 dX11_tell_216 rfl ?_
          refine lv_iconst (v := 1) hC.1 hC.2.1 dX11_tell_217 (by decide) ?_
          refine lv_istore (lv' := [(5, .int 1), (6, .int (nI i)), (4, .ref (L 100)), (3, .ref (ad ix)), (2, .ref (L (33 + j))), (0, .ref (L 0)), (1, .int (nI w))]) hC.1 hC.2.1 dX11_tell_218 hl (by decide) rfl (fun ls hl => ?_)
          have hd9 : dg i = 1 := if_pos (by omega)
          refine W.widen (k := 18 + 2 * (i + 1)) (n := 900 + 140 * (i + 1)) (by omega) (by omega) ?_
          exact next (n1 + w9 + dg i) 1 H locs ls (by omega) S (lv_sub hl [1, 0, 2, 3, 4, 5, 6] rfl)
        refine lv_aload hC.1 hC.2.1 dX11_tell_192 (lv_at hl 2 rfl) ?_
        refine lv_iload hC.1 hC.2.1 dX11_tell_194 (lv_at hl 1 rfl) ?_
        refine lv_if_eq (tgt := 205) hC.1 hC.2.1 dX11_tell_196 (by decide) (fun _ => ?_) (fun _ => ?_)
        · refine va_ldcwS hC (hK 11 (370, ": ", 2) rfl).1 dX11_tell_205 ?_
          exact fin _ _ (hK 11 (370, ": ", 2) rfl).2 (by decide)
        refine va_ldcwS hC (hK 10 (368, ",", 1) rfl).1 dX11_tell_199 ?_
        refine lv_goto (tgt := 208) hC.1 hC.2.1 dX11_tell_202 (by decide) ?_
        exact fin _ _ (hK 10 (368, ",", 1) rfl).2 (by decide)
    have app : W p l e (rmS 9 40 2400) s m args below meth c H locs 18 900 (MQ below (va_Qr (S := MS) post (fun τ _ t => rO D cy lay Γ τ t) (rA cy lay Γ s.heap.size)) args s 40 2400 (rA cy lay Γ s.heap.size)) (F0 m 159 ls []) := by
      refine lv_iconst (v := 0) hC.1 hC.2.1 dX11_tell_159 (by decide) ?_
      refine lv_istore (lv' := [(5, .int 0), (4, .ref (L 100)), (3, .ref (ad ix)), (2, .ref (L (33 + j))), (0, .ref (L 0)), (1, .int (nI w))]) hC.1 hC.2.1 dX11_tell_160 hl (by decide) rfl (fun ls hl => ?_)
      refine lv_iconst (v := 0) hC.1 hC.2.1 dX11_tell_162 (by decide) ?_
      refine lv_istore (lv' := [(6, .int 0), (5, .int 0), (4, .ref (L 100)), (3, .ref (ad ix)), (2, .ref (L (33 + j))), (0, .ref (L 0)), (1, .int (nI w))]) hC.1 hC.2.1 dX11_tell_163 hl (by decide) rfl (fun ls hl => ?_)
      refine W.widen (k := 18 + 2 * 0) (n := 900 + 140 * 0) (by decide) (by decide) ?_
      exact loop Γ.1 0 (by omega) n _ _ _ _ (by omega) S hl
    refine lv_aload_n hC.1 hC.2.1 dX11_tell_137 rfl (lv_at hl 2 rfl) ?_
    refine sb_getN hC hB hT.2.1 S (by omega) (by omega) (by omega) hXw k_X10 (fun _ h => List.mem_cons_of_mem _ (List.mem_append_left _ (List.mem_append_left _ (List.mem_append_left _ (List.mem_append_right _ h))))) 7 (by decide) 17 rfl rfl dX11_tell_138 ?_
    refine lv_iconst (v := 1) hC.1 hC.2.1 dX11_tell_141 (by decide) ?_
    refine lv_icmp_eq (tgt := 159) hC.1 hC.2.1 dX11_tell_142 (by decide) (fun _ => app) (fun _ => ?_)
    refine lv_aload_n hC.1 hC.2.1 dX11_tell_145 rfl (lv_at hl 2 rfl) ?_
    refine sb_getN hC hB hT.2.1 S (by omega) (by omega) (by omega) hXw k_X10 (fun _ h => List.mem_cons_of_mem _ (List.mem_append_left _ (List.mem_append_left _ (List.mem_append_left _ (List.mem_append_right _ h))))) 7 (by decide) 17 rfl rfl dX11_tell_146 ?_
    refine lv_iconst (v := 2) hC.1 hC.2.1 dX11_tell_149 (by decide) ?_
    refine lv_icmp_eq (tgt := 159) hC.1 hC.2.1 dX11_tell_150 (by decide) (fun _ => app) (fun _ => ?_)
    refine W.widen (k := 38) (n := 2300) (by decide) (by decide) ?_
    exact finA n H locs ls (by omega) S hl
  refine lv_aload_n hC.1 hC.2.1 dX11_tell_40 rfl (lv_at hl 0 rfl) ?_
  refine rg_getN hC hT G (rk_wd hj) (r_wd hj) k_X10 (fun _ h => List.mem_cons_of_mem _ (List.mem_append_left _ (List.mem_append_left _ (List.mem_append_left _ (List.mem_append_right _ h))))) 7 (by decide) 17 rfl rfl dX11_tell_41 ?_
  refine lv_if_ne (tgt := 53) hC.1 hC.2.1 dX11_tell_44 (by decide) (fun _ => ?_) (fun _ => ?_)
  rotate_left
  · refine va_ldcwS hC (hK 3 (354, "asked", 5) rfl).1 dX11_tell_47 ?_
    refine lv_goto (tgt := 84) hC.1 hC.2.1 dX11_tell_50 (by decide) ?_
    exact go 3 5 H locs ls (by decide) (hK 3 (354, "asked", 5) rfl).2 G hl
  refine lv_aload_n hC.1 hC.2.1 dX11_tell_53 rfl (lv_at hl 0 rfl) ?_
  refine rg_getN hC hT G (rk_wd hj) (r_wd hj) k_X10 (fun _ h => List.mem_cons_of_mem _ (List.mem_append_left _ (List.mem_append_left _ (List.mem_append_left _ (List.mem_append_right _ h))))) 7 (by decide) 17 rfl rfl dX11_tell_54 ?_
  refine lv_iconst (v := 1) hC.1 hC.2.1 dX11_tell_57 (by decide) ?_
  refine lv_icmp_ne (tgt := 67) hC.1 hC.2.1 dX11_tell_58 (by decide) (fun _ => ?_) (fun _ => ?_)
  rotate_left
  · refine va_ldcwS hC (hK 4 (356, "fixed", 5) rfl).1 dX11_tell_61 ?_
    refine lv_goto (tgt := 84) hC.1 hC.2.1 dX11_tell_64 (by decide) ?_
    exact go 4 5 H locs ls (by decide) (hK 4 (356, "fixed", 5) rfl).2 G hl
  refine lv_aload_n hC.1 hC.2.1 dX11_tell_67 rfl (lv_at hl 0 rfl) ?_
  refine rg_getN hC hT G (rk_wd hj) (r_wd hj) k_X10 (fun _ h => List.mem_cons_of_mem _ (List.mem_append_left _ (List.mem_append_left _ (List.mem_append_left _ (List.mem_append_right _ h))))) 7 (by decide) 17 rfl rfl dX11_tell_68 ?_
  refine lv_iconst (v := 2) hC.1 hC.2.1 dX11_tell_71 (by decide) ?_
  refine lv_icmp_ne (tgt := 81) hC.1 hC.2.1 dX11_tell_72 (by decide) (fun _ => ?_) (fun _ => ?_)
  rotate_left
  · refine va_ldcwS hC (hK 5 (358, "played", 6) rfl).1 dX11_tell_75 ?_
    refine lv_goto (tgt := 84) hC.1 hC.2.1 dX11_tell_78 (by decide) ?_
    exact go 5 6 H locs ls (by decide) (hK 5 (358, "played", 6) rfl).2 G hl
  refine va_ldcwS hC (hK 6 (360, "lost", 4) rfl).1 dX11_tell_81 ?_
  exact go 6 4 H locs ls (by decide) (hK 6 (360, "lost", 4) rfl).2 G hl
