/-! TEXTS: walks of StringBuilder, String (69d.rsongs) -/
def w_X11_songs (Γ : RG) (post : MS → Prop) (σ : MS) (a1 : Int32) : Prop := w_X11_isWedding Γ (fun r σ1 => (r = 0 → post (up2 σ1 0 0 1)) ∧ (¬ r = 0 → w_lw_Jx4a65c_get_915e3 Γ (fun j σ2 => (j < 14 ∧ j < Γ.2.2.1) ∧ w_X11_bestSet Γ (fun N f σ3 => N ≤ 16 ∧ (∀ i, i < N → ∃ v : Nat, v < 1000 ∧ f i = nI v) ∧ post σ3) σ2 (σ2 (33 + j) 8)) (up2 σ1 0 0 0) a1)) σ a1
set_option maxHeartbeats 8000000 in
set_option maxRecDepth 100000 in
theorem c_X11_songs (l : Launch) (D : va_G) (cy : Nat → ClassId) (lay : Nat → Nat) (Γ : RG) (ad : Nat → Nat) {σ : MS} {post : MS → Prop} {a1 : Int32} (h : w_X11_songs Γ post σ a1) (sz : Nat) : Met l yX11_songs wsX11_songs (rmS 9 40 2400) (va_Pc [.ref (lay 0), .int a1] (rIT D cy lay Γ σ ad sz)) (va_Qr (S := MS) post (fun τ _ t => rO D cy lay Γ τ t) (rA cy lay Γ sz)) 40 2400 (rA cy lay Γ sz) := by
  refine rg_ofT (cc := cX11_songs) (maxL := 7) (ret := (some (.object "java/lang/String"))) (own := RX11) (Qc := fun sz => (va_Qr (S := MS) post (fun τ _ t => rO D cy lay Γ τ t) (rA cy lay Γ sz))) (by decide) rfl (Nat.le_of_ble_eq_true rfl) rfl ?_
  intro p e s m args below meth c ls hC hr hlocks hT hB hK G hl
  unfold w_X11_songs at h
  have hA : ∀ q, s.heap.size ≤ q → rA cy lay Γ s.heap.size q := fun _ h => Or.inr h
  have hl : lv_has ls 7 [(0, .ref (lay 0)), (1, .int a1)] := hl
  refine lv_aload_n hC.1 hC.2.1 dX11_songs_0 rfl (lv_at hl 0 rfl) ?_
  refine lv_aload_n hC.1 hC.2.1 dX11_songs_1 rfl (lv_at hl 0 rfl) ?_
  refine lv_iload_n hC.1 hC.2.1 dX11_songs_2 rfl (lv_at hl 1 rfl) ?_
  refine rg_i G (rg_runV (As := [.int a1]) (rest := [.ref (lay 0)]) hC hT G (c_X11_isWedding l D cy lay Γ h _) (cwV 1 hC.2.2.2.2 gX11_songs_X11_isWedding rfl rfl rfl hdV_X11_isWedding ⟨Nat.le_of_ble_eq_true rfl, Nat.le_of_ble_eq_true rfl⟩) (rg_recv hT G (by decide) r_mo k_X11) rfl hl.1 rfl (Nat.le_of_ble_eq_true rfl) dX11_songs_3 ⟨Nat.le_of_ble_eq_true rfl, Nat.le_of_ble_eq_true rfl⟩) (fun r σ1 H locs h1 G => ?_)
  refine lv_if_eq (tgt := 13) hC.1 hC.2.1 dX11_songs_6 (by decide) (fun c1 => ?_) (fun c1 => ?_)
  · replace h1 := h1.1 c1
    refine lv_iconst (v := 1) hC.1 hC.2.1 dX11_songs_13 (by decide) ?_
    refine rg_put hC hT G (by decide) r_mo k_X11 (fun _ h => List.mem_cons_of_mem _ (List.mem_append_left _ (List.mem_append_left _ (List.mem_append_left _ (List.mem_append_left _ (List.mem_append_left _ (List.mem_append_right _ h))))))) 0 (by decide) (wm 1 rfl) rfl rfl (by simp) r_mo (by rw [up2_eq]; rfl) dX11_songs_14 (fun H locs G => ?_)
    refine lv_aload_n hC.1 hC.2.1 dX11_songs_17 rfl (lv_at hl 0 rfl) ?_
    refine rg_get hC hT G (by decide) r_mo k_X11 (fun _ h => List.mem_cons_of_mem _ (List.mem_append_left _ (List.mem_append_left _ (List.mem_append_left _ (List.mem_append_left _ (List.mem_append_left _ (List.mem_append_right _ h))))))) 0 (by decide) (wm 1 rfl) rfl dX11_songs_18 ?_
    refine lv_if_le (tgt := 28) hC.1 hC.2.1 dX11_songs_21 (by decide) (fun c2 => absurd (show (up2 σ1 0 0 1) 0 0 ≤ 0 from c2) (by rw [up2_same]; decide)) (fun _ => ?_)
    refine va_ldcwS hC (hK 0 (323, "", 0) rfl).1 dX11_songs_24 ?_
    refine W.widen (k := 40) (n := 2400) (by decide) (by decide) ?_
    exact rg_tret hC hr ⟨_, rfl⟩ hlocks G h1 dX11_songs_27
  replace h1 := h1.2 c1
  refine lv_iconst (v := 0) hC.1 hC.2.1 dX11_songs_9 (by decide) ?_
  refine lv_goto (tgt := 14) hC.1 hC.2.1 dX11_songs_10 (by decide) ?_
  refine rg_put hC hT G (by decide) r_mo k_X11 (fun _ h => List.mem_cons_of_mem _ (List.mem_append_left _ (List.mem_append_left _ (List.mem_append_left _ (List.mem_append_left _ (List.mem_append_left _ (List.mem_append_right _ h))))))) 0 (by decide) (wm 1 rfl) rfl rfl (by simp) r_mo (by rw [up2_eq]; rfl) dX11_songs_14 (fun H locs G => ?_)
  refine lv_aload_n hC.1 hC.2.1 dX11_songs_17 rfl (lv_at hl 0 rfl) ?_
  refine rg_get hC hT G (by decide) r_mo k_X11 (fun _ h => List.mem_cons_of_mem _ (List.mem_append_left _ (List.mem_append_left _ (List.mem_append_left _ (List.mem_append_left _ (List.mem_append_left _ (List.mem_append_right _ h))))))) 0 (by decide) (wm 1 rfl) rfl dX11_songs_18 ?_
  refine lv_if_le (tgt := 28) hC.1 hC.2.1 dX11_songs_21 (by decide) (fun _ => ?_) (fun c2 => absurd (show (up2 σ1 0 0 0) 0 0 ≤ 0 by rw [up2_same]; decide) c2)
  have G : gG D lay (rX cy lay Γ tn (up2 σ1 0 0 0)) (rA cy lay Γ s.heap.size) s.heap H locs := G
  have hn : ∀ (τ : MS) (j : Nat), 64 ≤ j → rX cy lay Γ tn τ j = none := fun τ j hj => r_tm hj
  have hn100 := hn (up2 σ1 0 0 0) 100 (by decide)
  have hn101 := hn (up2 σ1 0 0 0) 101 (by decide)
  refine sb_new (k := 100) (kb := 101) (rest := []) hC hB hA G (by decide) (by decide) (by decide) hn100 hn101 (fun _ h => List.mem_cons_of_mem _ (List.mem_append_left _ (List.mem_append_left _ (List.mem_append_left _ (List.mem_append_left _ (List.mem_append_right _ h)))))) (wm 2 rfl) (wm 3 rfl) (wm 4 rfl) ⟨callB_of 0 hC.2.2.2.2 gX11_songs_J4_init_da8c8 rfl rfl rfl (hC.2.2.2.2 (.initialized RJ4) (wm 4 rfl)) (hC.2.2.2.2 (.methodLink RX11 327 yJ4_init_da8c8) (wm 21 rfl)) hdI_J4_init_da8c8 ⟨Nat.le_of_ble_eq_true rfl, Nat.le_of_ble_eq_true rfl⟩, rfl, hC.2.2.2.2 (.instanceMethod yJ4_init_da8c8) (wm 22 rfl)⟩ hl.1 (Nat.le_of_ble_eq_true rfl) dX11_songs_28 dX11_songs_31 dX11_songs_32 ⟨Nat.le_of_ble_eq_true rfl, Nat.le_of_ble_eq_true rfl⟩ (fun q H locs S => ?_)
  have eo : ∀ j, j < 64 → gU lay 100 q j = lay j := fun j hj => gU_ne (by omega)
  have hr0 : lay 0 = gU lay 100 q 0 := (eo 0 (by decide)).symm
  refine lv_astore_n (lv' := [(2, .ref (gU lay 100 q 100)), (0, .ref (lay 0)), (1, .int a1)]) hC.1 hC.2.1 dX11_songs_35 rfl hl (by decide) rfl (fun ls hl => ?_)
  refine lv_aload_n hC.1 hC.2.1 dX11_songs_36 rfl (lv_at hl 1 rfl) ?_
  refine lv_aload_n hC.1 hC.2.1 dX11_songs_37 rfl (lv_at hl 1 rfl) ?_
  rw [hr0]
  refine sb_get hC hB S (by decide) (by decide) (by decide) r_mo k_X11 (fun _ h => List.mem_cons_of_mem _ (List.mem_append_left _ (List.mem_append_left _ (List.mem_append_left _ (List.mem_append_left _ (List.mem_append_left _ (List.mem_append_right _ h))))))) 5 (by decide) (wm 5 rfl) rfl dX11_songs_38 ?_
  rw [← hr0]
  refine lv_iload_n hC.1 hC.2.1 dX11_songs_41 rfl (lv_at hl 2 rfl) ?_
  have G := sb_sub S (by decide) (by decide)
  refine sb_rr (f := fun i => lay (33 + i)) S (by decide) (by decide) (by decide) (by decide) (by decide) (rg_runV (As := [.int a1]) (rest := [.ref (lay 0)]) hC hT G (c_lw_Jx4a65c_get_915e3 l D cy lay Γ h1 _) (cwV 1 hC.2.2.2.2 gX11_songs_Jx4a65c_get_915e3 rfl rfl rfl hdV_Jx4a65c_get_915e3 ⟨Nat.le_of_ble_eq_true rfl, Nat.le_of_ble_eq_true rfl⟩) (rg_recv hT G (by decide) r_lw k_AL) rfl hl.1 rfl (Nat.le_of_ble_eq_true rfl) dX11_songs_42 ⟨Nat.le_of_ble_eq_true rfl, Nat.le_of_ble_eq_true rfl⟩) (fun j σ2 H locs h2 S => ?_)
  obtain ⟨hj, h2⟩ := h2
  have G := sb_sub S (by decide) (by decide)
  refine rg_cast hC hT k_X10 (wm 6 rfl) (rg_recv hT G (rk_wd hj) (r_wd hj) k_X10) dX11_songs_45 ?_
  rw [← eo (33 + j) (by omega)]
  refine sb_getN hC hB hT.2.1 S (by omega) (by omega) (by omega) (r_wd hj) k_X10 (fun _ h => List.mem_cons_of_mem _ (List.mem_append_left _ (List.mem_append_left _ (List.mem_append_left _ (List.mem_append_right _ h))))) 8 (by decide) 18 rfl rfl dX11_songs_48 ?_
  refine sb_rA S (by decide) (by decide) (by decide) (by decide) (by decide) (kr := 110) (by decide) (by decide) (by decide) (by decide) (rg_runV (As := [.int (σ2 (33 + j) 8)]) (rest := []) hC hT G (c_X11_bestSet l D cy lay Γ h2 _) (cwV 1 hC.2.2.2.2 gX11_songs_X11_bestSet rfl rfl rfl hdV_X11_bestSet ⟨Nat.le_of_ble_eq_true rfl, Nat.le_of_ble_eq_true rfl⟩) (rg_recv hT G (by decide) r_mo k_X11) rfl hl.1 rfl (Nat.le_of_ble_eq_true rfl) dX11_songs_51 ⟨Nat.le_of_ble_eq_true rfl, Nat.le_of_ble_eq_true rfl⟩) (fun N f σ3 q2 H locs h3 S => ?_)
  obtain ⟨hN, hv, h3⟩ := h3
  refine lv_astore_n (lv' := [(3, .ref q2), (2, .ref (gU lay 100 q 100)), (0, .ref (lay 0)), (1, .int a1)]) hC.1 hC.2.1 dX11_songs_54 rfl hl (by decide) rfl (fun ls hl => ?_)
  have eo2 : ∀ j, j < 64 → gU (gU lay 100 q) 110 q2 j = lay j := fun j hj => (gU_ne (by omega)).trans (eo j hj)
  have e100 : gU (gU lay 100 q) 110 q2 100 = gU lay 100 q 100 := gU_ne (by decide)
  have e110 : gU (gU lay 100 q) 110 q2 110 = q2 := gU_eq
  have hX0 : gU (rX cy lay Γ tn σ3) 110 (some (.inl (cy 0, N, .inl f))) 110 = some (.inl (cy 0, N, .inl f)) := gU_eq
  have hXr : ∀ j, j < 64 → gU (rX cy lay Γ tn σ3) 110 (some (.inl (cy 0, N, .inl f))) j = rX cy lay Γ tn σ3 j := fun j hj => gU_ne (by omega)
  have hn102 : gU (rX cy lay Γ tn σ3) 110 (some (.inl (cy 0, N, .inl f))) 102 = none := (gU_ne (by decide)).trans (hn σ3 102 (by decide))
  have hn103 : gU (rX cy lay Γ tn σ3) 110 (some (.inl (cy 0, N, .inl f))) 103 = none := (gU_ne (by decide)).trans (hn σ3 103 (by decide))
  have hn104 : gU (rX cy lay Γ tn σ3) 110 (some (.inl (cy 0, N, .inl f))) 104 = none := (gU_ne (by decide)).trans (hn σ3 104 (by decide))
  generalize gU (gU lay 100 q) 110 q2 = L at S eo2 e100 e110
  rw [← e100, ← e110] at hl
  generalize gU (rX cy lay Γ tn σ3) 110 (some (.inl (cy 0, N, .inl f))) = X at S hX0 hXr hn102 hn103 hn104
  refine lv_aload_n hC.1 hC.2.1 dX11_songs_55 rfl (lv_at hl 0 rfl) ?_
  refine sb_alen hC hB S (by decide) (by decide) (by decide) hX0 dX11_songs_56 ?_
  refine lv_istore (lv' := [(4, .int (nI N)), (3, .ref (L 110)), (2, .ref (L 100)), (0, .ref (lay 0)), (1, .int a1)]) hC.1 hC.2.1 dX11_songs_57 hl (by decide) rfl (fun ls hl => ?_)
  refine lv_iconst (v := 0) hC.1 hC.2.1 dX11_songs_59 (by decide) ?_
  refine lv_istore (lv' := [(5, .int 0), (4, .int (nI N)), (3, .ref (L 110)), (2, .ref (L 100)), (0, .ref (lay 0)), (1, .int a1)]) hC.1 hC.2.1 dX11_songs_60 hl (by decide) rfl (fun ls hl => ?_)
  have d1 : ∀ v, dg v ≤ 3 := fun v => by unfold dg; split <;> (try split) <;> omega
  have fin : ∀ (n1 : Nat) (H : Heap) (locs : List Loc) (ls : Array Slot), n1 ≤ 70 → sbW D cy L X (rA cy lay Γ s.heap.size) s.heap H locs 100 101 n1 → lv_has ls 7 [(4, .int (nI N)), (3, .ref (L 110)), (2, .ref (L 100)), (0, .ref (lay 0)), (1, .int a1)] → W p l e (rmS 9 40 2400) s m args below meth c H locs 38 2324 (MQ below (va_Qr (S := MS) post (fun τ _ t => rO D cy lay Γ τ t) (rA cy lay Γ s.heap.size)) args s 40 2400 (rA cy lay Γ s.heap.size)) (F0 m 107 ls []) := by
    intro n1 H locs ls hn1 S hl
    refine lv_aload_n hC.1 hC.2.1 dX11_songs_107 rfl (lv_at hl 2 rfl) ?_
    refine sb_len (rest := []) hC hB hA S (by decide) (by decide) (cwV 0 hC.2.2.2.2 gX11_songs_J4_length_8abf5 rfl rfl rfl hdV_J4_length_8abf5 ⟨Nat.le_of_ble_eq_true rfl, Nat.le_of_ble_eq_true rfl⟩) hl.1 (Nat.le_of_ble_eq_true rfl) dX11_songs_108 ⟨Nat.le_of_ble_eq_true rfl, Nat.le_of_ble_eq_true rfl⟩ (fun H locs S => ?_)
    refine lv_if_ne (tgt := 120) hC.1 hC.2.1 dX11_songs_111 (by decide) (fun _ => ?_) (fun _ => ?_)
    rotate_left
    · refine va_ldcwS hC (hK 2 (339, "-", 1) rfl).1 dX11_songs_114 ?_
      refine lv_goto (tgt := 124) hC.1 hC.2.1 dX11_songs_117 (by decide) ?_
      refine W.widen (k := 40) (n := 2400) (by decide) (by decide) ?_
      obtain ⟨L', m1, a2, ml1, g1, g2, g3, g4, G⟩ := S
      have G := g_rg (fun k hk64 => (sbX_o (by omega) (by omega)).trans (hXr k hk64)) (fun k hk64 => (gU_out g4 (by omega)).trans (eo2 k hk64)) G
      exact rg_tret hC hr ⟨_, rfl⟩ hlocks G h3 dX11_songs_124
    refine lv_aload_n hC.1 hC.2.1 dX11_songs_120 rfl (lv_at hl 2 rfl) ?_
    refine sb_toS (ks := 103) (kr := 104) (rest := []) hC hB hA S (by decide) (by decide) (by decide) (by decide) (by decide) (by decide) (by decide) (by decide) (by decide) (by decide) hn103 hn104 (cwV 0 hC.2.2.2.2 gX11_songs_J4_toString_0e30d rfl rfl rfl hdV_J4_toString_0e30d ⟨Nat.le_of_ble_eq_true rfl, Nat.le_of_ble_eq_true rfl⟩) hl.1 (Nat.le_of_ble_eq_true rfl) dX11_songs_121 ⟨Nat.le_of_ble_eq_true rfl, Nat.le_of_ble_eq_true rfl⟩ (fun qs L' X' H locs hk G => ?_)
    refine W.widen (k := 40) (n := 2400) (by decide) (by decide) ?_
    have G := g_rg (fun k hk64 => ((hk k (by omega) (by omega) (by omega) (by omega)).2).trans (hXr k hk64)) (fun k hk64 => ((hk k (by omega) (by omega) (by omega) (by omega)).1).trans (eo2 k hk64)) G
    exact rg_tret hC hr ⟨_, rfl⟩ hlocks G h3 dX11_songs_124
  have key : ∀ (dd i : Nat), i + dd = N → ∀ (n1 : Nat) (H : Heap) (locs : List Loc) (ls : Array Slot), n1 ≤ 4 * i → sbW D cy L X (rA cy lay Γ s.heap.size) s.heap H locs 100 101 n1 → lv_has ls 7 [(5, .int (nI i)), (4, .int (nI N)), (3, .ref (L 110)), (2, .ref (L 100)), (0, .ref (lay 0)), (1, .int a1)] → W p l e (rmS 9 40 2400) s m args below meth c H locs (6 + 2 * i) (84 + 140 * i) (MQ below (va_Qr (S := MS) post (fun τ _ t => rO D cy lay Γ τ t) (rA cy lay Γ s.heap.size)) args s 40 2400 (rA cy lay Γ s.heap.size)) (F0 m 62 ls []) := by
    intro dd
    induction dd with
    | zero =>
      intro i hi n1 H locs ls hn1 S hl
      refine lv_iload hC.1 hC.2.1 dX11_songs_62 (lv_at hl 0 rfl) ?_
      refine lv_iload hC.1 hC.2.1 dX11_songs_64 (lv_at hl 1 rfl) ?_
      refine lv_icmp_ge (tgt := 107) hC.1 hC.2.1 dX11_songs_66 (by decide) (fun _ => ?_) (fun c1 => absurd (nI_le (show N ≤ i by omega) (by omega)) c1)
      refine W.widen (k := 38) (n := 2324) (by omega) (by omega) ?_
      exact fin n1 H locs ls (by omega) S (lv_sub hl [1, 2, 3, 4, 5] rfl)
    | succ dd ih =>
      intro i hi n1 H locs ls hn1 S hl
      refine lv_iload hC.1 hC.2.1 dX11_songs_62 (lv_at hl 0 rfl) ?_
      refine lv_iload hC.1 hC.2.1 dX11_songs_64 (lv_at hl 1 rfl) ?_
      refine lv_icmp_ge (tgt := 107) hC.1 hC.2.1 dX11_songs_66 (by decide) (fun c1 => absurd c1 (nI_ge (by omega) (by omega))) (fun _ => ?_)
      obtain ⟨v, hv1, ev⟩ := hv i (by omega)
      refine lv_aload_n hC.1 hC.2.1 dX11_songs_69 rfl (lv_at hl 2 rfl) ?_
      refine lv_iload hC.1 hC.2.1 dX11_songs_70 (lv_at hl 0 rfl) ?_
      refine sb_iald hC hB S (by decide) (by decide) (by decide) hX0 (vp_in_nI (by omega) (by omega)) dX11_songs_72 ?_
      rw [nI_clamp (by omega), ev]
      refine lv_istore (lv' := [(6, .int (nI v)), (5, .int (nI i)), (4, .int (nI N)), (3, .ref (L 110)), (2, .ref (L 100)), (0, .ref (lay 0)), (1, .int a1)]) hC.1 hC.2.1 dX11_songs_73 hl (by decide) rfl (fun ls hl => ?_)
      refine lv_aload_n hC.1 hC.2.1 dX11_songs_75 rfl (lv_at hl 4 rfl) ?_
      refine lv_aload_n hC.1 hC.2.1 dX11_songs_76 rfl (lv_at hl 4 rfl) ?_
      refine sb_len (rest := [.ref (L 100)]) hC hB hA S (by decide) (by decide) (cwV 0 hC.2.2.2.2 gX11_songs_J4_length_8abf5 rfl rfl rfl hdV_J4_length_8abf5 ⟨Nat.le_of_ble_eq_true rfl, Nat.le_of_ble_eq_true rfl⟩) hl.1 (Nat.le_of_ble_eq_true rfl) dX11_songs_77 ⟨by show _ ≤ 40; omega, by show _ ≤ 2400; omega⟩ (fun H locs S => ?_)
      have rest : ∀ (sa w9 : Nat), tX sa w9 (rA cy lay Γ s.heap.size) s s.heap → w9 ≤ 1 → W p l e (rmS 9 40 2400) s m args below meth c H locs (6 + 2 * i) (84 + 140 * i) (MQ below (va_Qr (S := MS) post (fun τ _ t => rO D cy lay Γ τ t) (rA cy lay Γ s.heap.size)) args s 40 2400 (rA cy lay Γ s.heap.size)) (F0 m 92 ls [.ref sa, .ref (L 100)]) := by
        intro sa w9 hw9 hw91
        have hd := d1 v
        refine sb_apS (kn := 102) (rest := []) hC hB hA S (by decide) (by decide) (by decide) (by decide) (by decide) (by decide) hn102 hw9 (by omega) (by omega) (cwV 1 hC.2.2.2.2 gX11_songs_J4_append_15ec4 rfl rfl rfl hdV_J4_append_15ec4 ⟨Nat.le_of_ble_eq_true rfl, Nat.le_of_ble_eq_true rfl⟩) hl.1 (Nat.le_of_ble_eq_true rfl) dX11_songs_92 ⟨by show _ ≤ 40; omega, by show _ ≤ 2400; omega⟩ (fun H locs S => ?_)
        refine lv_iload hC.1 hC.2.1 dX11_songs_95 (lv_at hl 0 rfl) ?_
        refine sb_apI (kn := 102) (rest := []) hC hB hA S (by decide) (by decide) (by decide) (by decide) (by decide) (by decide) hn102 (v := v) hv1 (by omega) (cwV 1 hC.2.2.2.2 gX11_songs_J4_append_bf812 rfl rfl rfl hdV_J4_append_bf812 ⟨Nat.le_of_ble_eq_true rfl, Nat.le_of_ble_eq_true rfl⟩) hl.1 (Nat.le_of_ble_eq_true rfl) dX11_songs_97 ⟨by show _ ≤ 40; omega, by show _ ≤ 2400; omega⟩ (fun H locs S => ?_)
        refine lv_pop hC.1 hC.2.1 dX11_songs_100 rfl ?_
        refine lv_iinc (k := 1) (v := nI (i + 1)) (lv' := [(5, .int (nI (i + 1))), (6, .int (nI v)), (4, .int (nI N)), (3, .ref (L 110)), (2, .ref (L 100)), (0, .ref (lay 0)), (1, .int a1)]) hC.1 hC.2.1 dX11_songs_101 hl rfl (by rw [show Int32.ofInt 1 = 1 by decide]; exact nI_1 i) (by decide) rfl (fun ls hl => ?_)
        refine lv_goto (tgt := 62) hC.1 hC.2.1 dX11_songs_104 (by decide) ?_
        refine W.widen (k := 6 + 2 * (i + 1)) (n := 84 + 140 * (i + 1)) (by omega) (by omega) ?_
        exact ih (i + 1) (by omega) (n1 + w9 + dg v) H locs ls (by omega) S (lv_sub hl [0, 2, 3, 4, 5, 6] rfl)
      refine lv_if_le (tgt := 89) hC.1 hC.2.1 dX11_songs_80 (by decide) (fun _ => ?_) (fun _ => ?_)
      · refine va_ldcwS hC (hK 0 (323, "", 0) rfl).1 dX11_songs_89 ?_
        exact rest _ _ (hK 0 (323, "", 0) rfl).2 (by decide)
      refine va_ldcwS hC (hK 1 (330, " ", 1) rfl).1 dX11_songs_83 ?_
      refine lv_goto (tgt := 92) hC.1 hC.2.1 dX11_songs_86 (by decide) ?_
      exact rest _ _ (hK 1 (330, " ", 1) rfl).2 (by decide)
  refine W.widen (k := 6 + 2 * 0) (n := 84 + 140 * 0) (by decide) (by decide) ?_
  exact key N 0 (by omega) 0 _ _ _ (by omega) S hl
