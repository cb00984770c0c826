/-! TEXTS: walks of StringBuilder, String (68.songs) -/
def w_T_X7_songs (post : MS → Prop) (pex : String → MS → Prop) (σ : MS) (a1 : Int32) : Prop := w_T_X7_checkWedding (fun σ1 => ∃ w : Nat, w < 14 ∧ a1 = nI w ∧ w_X7_playableFor (fun r σ2 => w_X1_choose (fun σ3 => ∃ N : Nat, N ≤ 16 ∧ σ3 10 1 = nI N ∧ (∀ j, j < N → ∃ v : Nat, v < 1000 ∧ σ3 11 j = nI v) ∧ post σ3) σ2 r) σ1 (σ1 (73 + w) 8)) pex σ a1
set_option maxHeartbeats 8000000 in
set_option maxRecDepth 100000 in
theorem c_T_X7_songs (l : Launch) (hl0 : l.stackTraces = false) (D : va_G) (cy : Nat → ClassId) (lay : Nat → Nat) (ad : Nat → Nat) {σ : MS} {post : MS → Prop} {pex : String → MS → Prop} {a1 : Int32} (h : w_T_X7_songs post pex σ a1) (sz : Nat) : vx_Met l yX7_songs wsX7_songs (rmS 9 40 2400) (va_Pc [.ref (lay 0), .int a1] (agIK D cy lay σ ad sz)) (va_Qr (S := MS) post (fun τ _ t => agO D cy lay τ t) (agA lay sz)) (agXC D cy lay pex sz) 40 2400 (agA lay sz) := by
  refine ag_ofXK (cc := cX7_songs) (maxL := 4) (ret := (some (.object "java/lang/String"))) (own := RX7) (Qc := fun sz => (va_Qr (S := MS) post (fun τ _ t => agO D cy lay τ t) (agA lay sz))) (by decide) rfl (Nat.le_of_ble_eq_true rfl) rfl ?_
  intro p e s m args below meth c ls hC hr hlocks htab hT hB hK G hl
  unfold w_T_X7_songs at h
  have hA : ∀ q, s.heap.size ≤ q → agA lay s.heap.size q := fun _ h => Or.inr h
  have hl : lv_has ls 4 [(0, .ref (lay 0)), (1, .int a1)] := hl
  refine lv_aload_n hC.1 hC.2.1 dX7_songs_0 rfl (lv_at hl 0 rfl) ?_
  refine lv_iload_n hC.1 hC.2.1 dX7_songs_1 rfl (lv_at hl 1 rfl) ?_
  refine ag_vT G htab hlocks (ag_runVT (As := [.int a1]) (rest := []) hC hT G (c_T_X7_checkWedding l hl0 D cy lay h _) (cwV 1 hC.2.2.2.2 gX7_songs_X7_checkWedding rfl rfl rfl hdV_X7_checkWedding ⟨Nat.le_of_ble_eq_true rfl, Nat.le_of_ble_eq_true rfl⟩) (ag_recv hT G (by decide) e_ag k_X7) rfl hl.1 rfl (Nat.le_of_ble_eq_true rfl) dX7_songs_2 ⟨Nat.le_of_ble_eq_true rfl, Nat.le_of_ble_eq_true rfl⟩) (by decide) (by decide) (fun σ1 H locs h G => ?_)
  obtain ⟨w, hw, ea, h1⟩ := h
  subst ea
  refine lv_aload_n hC.1 hC.2.1 dX7_songs_5 rfl (lv_at hl 0 rfl) ?_
  refine ag_get hC hT G (by decide) e_ag k_X7 (fun _ h => List.mem_cons_of_mem _ (List.mem_append_left _ (List.mem_append_left _ (List.mem_append_left _ (List.mem_append_left _ (List.mem_append_left _ (List.mem_append_left _ (List.mem_append_left _ (List.mem_append_right _ h))))))))) 14 (by decide) (wm 1 rfl) rfl dX7_songs_6 ?_
  refine lv_aload_n hC.1 hC.2.1 dX7_songs_9 rfl (lv_at hl 0 rfl) ?_
  refine ag_get hC hT G (by decide) e_ag k_X7 (fun _ h => List.mem_cons_of_mem _ (List.mem_append_left _ (List.mem_append_left _ (List.mem_append_left _ (List.mem_append_left _ (List.mem_append_left _ (List.mem_append_left _ (List.mem_append_left _ (List.mem_append_right _ h))))))))) 1 (by decide) (wm 2 rfl) rfl dX7_songs_10 ?_
  refine lv_aload_n hC.1 hC.2.1 dX7_songs_13 rfl (lv_at hl 0 rfl) ?_
  refine lv_aload_n hC.1 hC.2.1 dX7_songs_14 rfl (lv_at hl 0 rfl) ?_
  refine ag_get hC hT G (by decide) e_ag k_X7 (fun _ h => List.mem_cons_of_mem _ (List.mem_append_left _ (List.mem_append_left _ (List.mem_append_left _ (List.mem_append_left _ (List.mem_append_left _ (List.mem_append_left _ (List.mem_append_left _ (List.mem_append_right _ h))))))))) 3 (by decide) (wm 3 rfl) rfl dX7_songs_15 ?_
  refine lv_iload_n hC.1 hC.2.1 dX7_songs_18 rfl (lv_at hl 1 rfl) ?_
  refine ag_aald hC hT G (by decide) _ rfl e_wds (vp_in_nI hw (by decide)) dX7_songs_19 ?_
  rw [nI_clamp (by omega)]
  refine ag_get hC hT G (k_wd hw) (e_wd hw) k_X6 (fun _ h => List.mem_cons_of_mem _ (List.mem_append_left _ (List.mem_append_left _ (List.mem_append_left _ (List.mem_append_left _ (List.mem_append_left _ (List.mem_append_left _ (List.mem_append_right _ h)))))))) 8 (by decide) (wm 4 rfl) rfl dX7_songs_20 ?_
  refine ag_i G (ag_runV (As := [.int (σ1 (73 + w) 8)]) (rest := [.ref (lay 2), .ref (lay 10)]) hC hT G (c_X7_playableFor l D cy lay h1 _) (cwV 1 hC.2.2.2.2 gX7_songs_X7_playableFor rfl rfl rfl hdV_X7_playableFor ⟨Nat.le_of_ble_eq_true rfl, Nat.le_of_ble_eq_true rfl⟩) (ag_recv hT G (by decide) e_ag k_X7) rfl hl.1 rfl (Nat.le_of_ble_eq_true rfl) dX7_songs_23 ⟨Nat.le_of_ble_eq_true rfl, Nat.le_of_ble_eq_true rfl⟩) (fun r σ2 H locs h G => ?_)
  (try dsimp only at h)
  refine ag_v G (ag_runV (As := [.ref (lay 2), .int r]) (rest := []) hC hT G (c_X1_choose l D cy lay h _) (cwV 2 hC.2.2.2.2 gX7_songs_X1_choose rfl rfl rfl hdV_X1_choose ⟨Nat.le_of_ble_eq_true rfl, Nat.le_of_ble_eq_true rfl⟩) (ag_recv hT G (by decide) e_bs k_X1) rfl hl.1 rfl (Nat.le_of_ble_eq_true rfl) dX7_songs_26 ⟨Nat.le_of_ble_eq_true rfl, Nat.le_of_ble_eq_true rfl⟩) (fun σ3 H locs h G => ?_)
  obtain ⟨N, hN, eN, hv, h⟩ := h
  refine lv_aload_n hC.1 hC.2.1 dX7_songs_29 rfl (lv_at hl 0 rfl) ?_
  refine ag_get hC hT G (by decide) e_ag k_X7 (fun _ h => List.mem_cons_of_mem _ (List.mem_append_left _ (List.mem_append_left _ (List.mem_append_left _ (List.mem_append_left _ (List.mem_append_left _ (List.mem_append_left _ (List.mem_append_left _ (List.mem_append_right _ h))))))))) 14 (by decide) (wm 1 rfl) rfl dX7_songs_30 ?_
  refine ag_get hC hT G (by decide) e_bs k_X1 (fun _ h => List.mem_cons_of_mem _ (List.mem_append_left _ (List.mem_append_left _ (List.mem_append_left _ (List.mem_append_left _ (List.mem_append_left _ (List.mem_append_right _ h))))))) 1 (by decide) (wm 5 rfl) rfl dX7_songs_33 ?_
  refine lv_if_ne (tgt := 43) hC.1 hC.2.1 dX7_songs_36 (by decide) (fun _ => ?_) (fun _ => ?_)
  rotate_left
  · refine va_ldcwS hC (hK 0 (364, "-", 1) rfl).1 dX7_songs_39 ?_
    refine W.widen (k := 40) (n := 2400) (by decide) (by decide) ?_
    exact vx_ret (ag_tret hC hr ⟨_, rfl⟩ hlocks G h dX7_songs_42)
  have G := ag_g G
  have hX0 : agX cy lay σ3 0 = some (.inr (12, Lag lay (σ3 0))) := (agX_at (by decide)).trans rfl
  have hX10 : agX cy lay σ3 10 = some (.inr (6, Lbs lay (σ3 10))) := (agX_at (by decide)).trans rfl
  have hX11 : agX cy lay σ3 11 = some (.inl (cy 0, 16, .inl (σ3 11))) := (agX_at (by decide)).trans rfl
  have hn90 : agX cy lay σ3 90 = none := agX_no (by decide)
  have hn91 : agX cy lay σ3 91 = none := agX_no (by decide)
  have hn92 : agX cy lay σ3 92 = none := agX_no (by decide)
  have hn93 : agX cy lay σ3 93 = none := agX_no (by decide)
  have hn94 : agX cy lay σ3 94 = none := agX_no (by decide)
  refine sb_new (k := 90) (kb := 91) (rest := []) hC hB hA G (by decide) (by decide) (by decide) hn90 hn91 (fun _ h => List.mem_cons_of_mem _ (List.mem_append_left _ (List.mem_append_left _ (List.mem_append_left _ (List.mem_append_left _ (List.mem_append_right _ h)))))) (wm 6 rfl) (wm 7 rfl) (wm 8 rfl) ⟨callB_of 0 hC.2.2.2.2 gX7_songs_J4_init_da8c8 rfl rfl rfl (hC.2.2.2.2 (.initialized RJ4) (wm 8 rfl)) (hC.2.2.2.2 (.methodLink RX7 368 yJ4_init_da8c8) (wm 71 rfl)) hdI_J4_init_da8c8 ⟨Nat.le_of_ble_eq_true rfl, Nat.le_of_ble_eq_true rfl⟩, rfl, hC.2.2.2.2 (.instanceMethod yJ4_init_da8c8) (wm 72 rfl)⟩ hl.1 (Nat.le_of_ble_eq_true rfl) dX7_songs_43 dX7_songs_46 dX7_songs_47 ⟨Nat.le_of_ble_eq_true rfl, Nat.le_of_ble_eq_true rfl⟩ (fun q H locs S => ?_)
  have eo : ∀ j, j < 87 → gU lay 90 q j = lay j := fun j hj => gU_ne (by omega)
  refine lv_astore_n (lv' := [(2, .ref (gU lay 90 q 90)), (0, .ref (lay 0)), (1, .int (nI w))]) hC.1 hC.2.1 dX7_songs_50 rfl hl (by decide) rfl (fun ls hl => ?_)
  generalize gU lay 90 q = L at eo S hl
  rw [← eo 0 (by decide)] at hl
  refine lv_iconst (v := 0) hC.1 hC.2.1 dX7_songs_51 (by decide) ?_
  refine lv_istore_n (lv' := [(3, .int 0), (2, .ref (L 90)), (0, .ref (L 0)), (1, .int (nI w))]) hC.1 hC.2.1 dX7_songs_52 rfl hl (by decide) rfl (fun ls hl => ?_)
  have d1 : ∀ v, dg v ≤ 3 := fun v => by unfold dg; split <;> (try split) <;> omega
  have key : ∀ (d i : Nat), i + d = N → ∀ (n1 : Nat) (H : Heap) (locs : List Loc) (ls : Array Slot), n1 ≤ 4 * i → sbW D cy L (agX cy lay σ3) (agA lay s.heap.size) s.heap H locs 90 91 n1 → lv_has ls 4 [(3, .int (nI i)), (2, .ref (L 90)), (0, .ref (L 0)), (1, .int (nI w))] → W p l e (rmS 9 40 2400) s m args below meth c H locs (3 + 2 * i) (30 + 140 * i) (vx_MQ below (va_Qr (S := MS) post (fun τ _ t => agO D cy lay τ t) (agA lay s.heap.size)) (agXC D cy lay pex s.heap.size) args s 40 2400 (agA lay s.heap.size)) (F0 m 53 ls []) := by
    intro d
    induction d with
    | zero =>
      intro i hi n1 H locs ls hn1 S hl
      obtain rfl : i = N := by omega
      refine lv_iload_n hC.1 hC.2.1 dX7_songs_53 rfl (lv_at hl 0 rfl) ?_
      refine lv_aload_n hC.1 hC.2.1 dX7_songs_54 rfl (lv_at hl 2 rfl) ?_
      refine sb_get hC hB S (by decide) (by decide) (by decide) hX0 k_X7 (fun _ h => List.mem_cons_of_mem _ (List.mem_append_left _ (List.mem_append_left _ (List.mem_append_left _ (List.mem_append_left _ (List.mem_append_left _ (List.mem_append_left _ (List.mem_append_left _ (List.mem_append_right _ h))))))))) 14 (by decide) (wm 1 rfl) rfl dX7_songs_55 ?_
      rw [← eo 10 (by decide)]
      refine sb_get hC hB S (by decide) (by decide) (by decide) hX10 k_X1 (fun _ h => List.mem_cons_of_mem _ (List.mem_append_left _ (List.mem_append_left _ (List.mem_append_left _ (List.mem_append_left _ (List.mem_append_left _ (List.mem_append_right _ h))))))) 1 (by decide) (wm 5 rfl) rfl dX7_songs_58 ?_
      rw [eN]
      refine lv_icmp_ge (tgt := 95) hC.1 hC.2.1 dX7_songs_61 (by decide) (fun _ => ?_) (fun c1 => absurd (le_self _) c1)
      refine lv_aload_n hC.1 hC.2.1 dX7_songs_95 rfl (lv_at hl 1 rfl) ?_
      refine sb_toS (ks := 93) (kr := 94) (rest := []) hC hB hA S (by decide) (by decide) (by decide) (by decide) (by decide) (by decide) (by decide) (by decide) (by decide) (by decide) hn93 hn94 (cwV 0 hC.2.2.2.2 gX7_songs_J4_toString_0e30d rfl rfl rfl hdV_J4_toString_0e30d ⟨Nat.le_of_ble_eq_true rfl, Nat.le_of_ble_eq_true rfl⟩) hl.1 (Nat.le_of_ble_eq_true rfl) dX7_songs_96 ⟨by show _ ≤ 40; omega, by show _ ≤ 2400; omega⟩ (fun qs L' X' H locs hk G => ?_)
      refine W.widen (k := 40) (n := 2400) (by omega) (by omega) ?_
      have G := g_ag (σ := σ3) (lay := lay) (cy := cy) (fun k hk87 => ((hk k (by omega) (by omega) (by omega) (by omega)).2).trans (agX_at hk87)) (fun k hk87 => ((hk k (by omega) (by omega) (by omega) (by omega)).1).trans (eo k hk87)) G
      exact vx_ret (ag_tret hC hr ⟨_, rfl⟩ hlocks G h dX7_songs_99)
    | succ d ih =>
      intro i hi n1 H locs ls hn1 S hl
      refine lv_iload_n hC.1 hC.2.1 dX7_songs_53 rfl (lv_at hl 0 rfl) ?_
      refine lv_aload_n hC.1 hC.2.1 dX7_songs_54 rfl (lv_at hl 2 rfl) ?_
      refine sb_get hC hB S (by decide) (by decide) (by decide) hX0 k_X7 (fun _ h => List.mem_cons_of_mem _ (List.mem_append_left _ (List.mem_append_left _ (List.mem_append_left _ (List.mem_append_left _ (List.mem_append_left _ (List.mem_append_left _ (List.mem_append_left _ (List.mem_append_right _ h))))))))) 14 (by decide) (wm 1 rfl) rfl dX7_songs_55 ?_
      rw [← eo 10 (by decide)]
      refine sb_get hC hB S (by decide) (by decide) (by decide) hX10 k_X1 (fun _ h => List.mem_cons_of_mem _ (List.mem_append_left _ (List.mem_append_left _ (List.mem_append_left _ (List.mem_append_left _ (List.mem_append_left _ (List.mem_append_right _ h))))))) 1 (by decide) (wm 5 rfl) rfl dX7_songs_58 ?_
      rw [eN]
      refine lv_icmp_ge (tgt := 95) hC.1 hC.2.1 dX7_songs_61 (by decide) (fun c1 => absurd c1 (nI_ge (by omega) (by omega))) (fun _ => ?_)
      obtain ⟨v, hv1, ev⟩ := hv i (by omega)
      have num : ∀ (n2 : Nat) (H : Heap) (locs : List Loc), n2 ≤ 4 * i + 1 → sbW D cy L (agX cy lay σ3) (agA lay s.heap.size) s.heap H locs 90 91 n2 → W p l e (rmS 9 40 2400) s m args below meth c H locs (3 + 2 * i + 1) (30 + 140 * i + 70) (vx_MQ below (va_Qr (S := MS) post (fun τ _ t => agO D cy lay τ t) (agA lay s.heap.size)) (agXC D cy lay pex s.heap.size) args s 40 2400 (agA lay s.heap.size)) (F0 m 75 ls []) := by
        intro n2 H locs hn2 S
        refine lv_aload_n hC.1 hC.2.1 dX7_songs_75 rfl (lv_at hl 1 rfl) ?_
        refine lv_aload_n hC.1 hC.2.1 dX7_songs_76 rfl (lv_at hl 2 rfl) ?_
        refine sb_get hC hB S (by decide) (by decide) (by decide) hX0 k_X7 (fun _ h => List.mem_cons_of_mem _ (List.mem_append_left _ (List.mem_append_left _ (List.mem_append_left _ (List.mem_append_left _ (List.mem_append_left _ (List.mem_append_left _ (List.mem_append_left _ (List.mem_append_right _ h))))))))) 14 (by decide) (wm 1 rfl) rfl dX7_songs_77 ?_
        rw [← eo 10 (by decide)]
        refine sb_get hC hB S (by decide) (by decide) (by decide) hX10 k_X1 (fun _ h => List.mem_cons_of_mem _ (List.mem_append_left _ (List.mem_append_left _ (List.mem_append_left _ (List.mem_append_left _ (List.mem_append_left _ (List.mem_append_right _ h))))))) 0 (by decide) (wm 9 rfl) rfl dX7_songs_80 ?_
        rw [← eo 11 (by decide)]
        refine lv_iload_n hC.1 hC.2.1 dX7_songs_83 rfl (lv_at hl 0 rfl) ?_
        refine sb_iald hC hB S (by decide) (by decide) (by decide) hX11 (vp_in_nI (by omega) (by decide)) dX7_songs_84 ?_
        rw [nI_clamp (by omega), ev]
        have hd := d1 v
        refine sb_apI (kn := 92) (rest := []) hC hB hA S (by decide) (by decide) (by decide) (by decide) (by decide) (by decide) hn92 (v := v) hv1 (by omega) (cwV 1 hC.2.2.2.2 gX7_songs_J4_append_bf812 rfl rfl rfl hdV_J4_append_bf812 ⟨Nat.le_of_ble_eq_true rfl, Nat.le_of_ble_eq_true rfl⟩) hl.1 (Nat.le_of_ble_eq_true rfl) dX7_songs_85 ⟨by show _ ≤ 40; omega, by show _ ≤ 2400; omega⟩ (fun H locs S => ?_)
        refine lv_pop hC.1 hC.2.1 dX7_songs_88 rfl ?_
        refine lv_iinc (k := 0) (v := nI (i + 1)) (lv' := [(3, .int (nI (i + 1))), (2, .ref (L 90)), (0, .ref (L 0)), (1, .int (nI w))]) hC.1 hC.2.1 dX7_songs_89 hl rfl (by rw [show Int32.ofInt 1 = 1 by decide]; exact nI_1 i) (by decide) rfl (fun ls hl => ?_)
        refine lv_goto (tgt := 53) hC.1 hC.2.1 dX7_songs_92 (by decide) ?_
        refine W.widen (k := 3 + 2 * (i + 1)) (n := 30 + 140 * (i + 1)) (by omega) (by omega) ?_
        exact ih (i + 1) (by omega) (n2 + dg v) H locs ls (by omega) S hl
      refine lv_iload_n hC.1 hC.2.1 dX7_songs_64 rfl (lv_at hl 0 rfl) ?_
      refine lv_if_le (tgt := 75) hC.1 hC.2.1 dX7_songs_65 (by decide) (fun _ => ?_) (fun _ => ?_)
      · refine W.widen (k := 3 + 2 * i + 1) (n := 30 + 140 * i + 70) (by omega) (by omega) ?_
        exact num n1 H locs (by omega) S
      refine lv_aload_n hC.1 hC.2.1 dX7_songs_68 rfl (lv_at hl 1 rfl) ?_
      refine lv_bipush (v := 32) hC.1 hC.2.1 dX7_songs_69 (by decide) ?_
      refine sb_apC (kn := 92) (rest := []) hC hB hA S (by decide) (by decide) (by decide) (by decide) (by decide) (by decide) hn92 (by decide) (by omega) (cwV 1 hC.2.2.2.2 gX7_songs_J4_append_cf468 rfl rfl rfl hdV_J4_append_cf468 ⟨Nat.le_of_ble_eq_true rfl, Nat.le_of_ble_eq_true rfl⟩) hl.1 (Nat.le_of_ble_eq_true rfl) dX7_songs_71 ⟨by show _ ≤ 40; omega, by show _ ≤ 2400; omega⟩ (fun H locs S => ?_)
      refine lv_pop hC.1 hC.2.1 dX7_songs_74 rfl ?_
      exact num (n1 + 1) H locs (by omega) S
  have hl : lv_has ls 4 [(3, .int (nI 0)), (2, .ref (L 90)), (0, .ref (L 0)), (1, .int (nI w))] := hl
  refine W.widen (k := 3 + 2 * 0) (n := 30 + 140 * 0) (by decide) (by decide) ?_
  exact key N 0 (by omega) 0 _ _ _ (by omega) S hl
