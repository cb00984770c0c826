/-! THE LAW, CALL BY CALL (1) -/
set_option maxHeartbeats 4000000 in
set_option maxRecDepth 100000 in
/-- cancel -/
theorem lc_cancel {p : Program} {l : Launch} {e : Env} {s : State} {m : MethodId} {below : List Frame} {meth : Method} {c : Code} {Q : State → Prop} {D : va_G} {cy : Nat → ClassId} {lay : Nat → Nat} {o b L i K S m0 ea mi ta : Nat} {ad ac am : Nat → Nat} {xs : Nat → Int32} {u : OU} {Y : RY} {H : Heap} {locs : List Loc} {ls : Array Slot} (hl0 : l.stackTraces = false) (hC : CallFix p m c cL_law 7 s #[Value.ref b] (wsL_law ++ lkL) RL) (hr : meth.sig.returnType = some .boolean) (hT : lwT D cy ea mi ta ad ac am s) (hL : L ≤ 3584) (hX : va_X b L xs s s.heap) (hb : b < s.heap.size) (hi : 7 * i + 7 ≤ L) (hK : K + 400 ≤ 601024) (hS : S + 6000 ≤ 7293034) (hm : Y.1 0 = m0) (I : LI ea u Y) (G : lwG D cy lay o u Y s H locs) (hl : lv_has ls 7 [(4, .int (nI (7 * i))), (0, .ref b), (1, .ref (lay 0)), (2, .ref m0), (3, .ref o)]) (kk : ∀ (u' : OU) (Y' : RY) (H1 : Heap) (locs1 : List Loc) (ls1 : Array Slot), LI ea u' Y' → Y'.1 0 = m0 → lwG D cy lay o u' Y' s H1 locs1 → lv_has ls1 7 [(4, .int (nI (7 * i))), (0, .ref b), (1, .ref (lay 0)), (2, .ref m0), (3, .ref o)] → W p l e room_1 s m #[Value.ref b] below meth c H1 locs1 (K + 400) (S + 6000) Q (F0 m 1345 ls1 [])) : W p l e room_1 s m #[Value.ref b] below meth c H locs K S Q (F0 m 610 ls []) := by
  subst hm
  obtain ⟨T, I⟩ := I
  have I : LIT ea T u Y := I
  obtain ⟨x1, ex1⟩ : ∃ x : Int32, xs (Int32.toNatClampNeg (nI (7 * i) + 1)) = x := ⟨_, rfl⟩
  refine lv_aload_n hC.1 hC.2.1 dL_law_610 rfl (lv_at hl 2 rfl) ?_
  refine lv_aload_n hC.1 hC.2.1 dL_law_611 rfl (lv_at hl 1 rfl) ?_
  refine lv_iload hC.1 hC.2.1 dL_law_612 (lv_at hl 0 rfl) ?_
  refine lv_iconst (v := 1) hC.1 hC.2.1 dL_law_614 (by decide) ?_
  refine lv_iadd hC.1 hC.2.1 dL_law_615 ?_
  refine va_sld hC.1 hC.2.1 hX hb (Nat.not_le.mpr hb) G.2.2.2.2.2 (sx hi hL (j := 1) (by decide) rfl) dL_law_616 ?_
  rw [ex1]
  refine lv_aload_n hC.1 hC.2.1 dL_law_617 rfl (lv_at hl 4 rfl) ?_
  obtain ⟨K0, V0, Z0, P0, B0, W0, T0, hw1, hw2⟩ := sp_cancel I x1
  refine lw_w (As := [.ref (lay 0), .int x1, .ref o]) (rest := []) hC hT G (c_L_cancel l hl0 D cy lay o (post := fun r u' => cQ K0 V0 Z0 P0 B0 W0 T0 r u') hw1 _) (vx_cwSW 3 hC.2.2.2.2 (gM_s gL_law_L_cancel) rfl rfl rfl hdS_L_cancel ⟨Nat.le_of_ble_eq_true rfl, Nat.le_of_ble_eq_true rfl⟩) rfl hl.1 rfl (Nat.le_of_ble_eq_true rfl) dL_law_618 ⟨by show _ ≤ 601024; omega, by show _ ≤ 7293034; omega⟩ (fun r1 u1 H locs h1 G => ?_)
  refine lv_istore (lv' := [(5, .int r1), (4, .int (nI (7 * i))), (0, .ref b), (1, .ref (lay 0)), (2, .ref (Y.1 0)), (3, .ref o)]) hC.1 hC.2.1 dL_law_621 hl (by decide) rfl (fun ls hl => ?_)
  refine lv_aload_n hC.1 hC.2.1 dL_law_623 rfl (lv_at hl 4 rfl) ?_
  refine lv_aload_n hC.1 hC.2.1 dL_law_624 rfl (lv_at hl 2 rfl) ?_
  refine lv_iload hC.1 hC.2.1 dL_law_625 (lv_at hl 1 rfl) ?_
  refine lv_iconst (v := 1) hC.1 hC.2.1 dL_law_627 (by decide) ?_
  refine lv_iadd hC.1 hC.2.1 dL_law_628 ?_
  refine va_sld hC.1 hC.2.1 hX hb (Nat.not_le.mpr hb) G.2.2.2.2.2 (sx hi hL (j := 1) (by decide) rfl) dL_law_629 ?_
  rw [ex1]
  refine lw_ri (As := [.int x1]) (rest := []) hC hT G (c_X11_cancel l D cy Y.1 Y.2.1 (post := fun r τ => rfQ K0 V0 Z0 P0 B0 W0 ea r (Y.1, Y.2.1, τ)) hw2 _) (cwV 1 hC.2.2.2.2 (gM_w gL_law_X11_cancel) rfl rfl rfl hdV_X11_cancel ⟨Nat.le_of_ble_eq_true rfl, Nat.le_of_ble_eq_true rfl⟩) rfl hl.1 rfl (Nat.le_of_ble_eq_true rfl) dL_law_630 ⟨by show _ ≤ 601024; omega, by show _ ≤ 7293034; omega⟩ (fun r2 σ2 H locs h2 G => ?_)
  refine lv_istore (lv' := [(6, .int r2), (5, .int r1), (4, .int (nI (7 * i))), (0, .ref b), (1, .ref (lay 0)), (2, .ref (Y.1 0)), (3, .ref o)]) hC.1 hC.2.1 dL_law_633 hl (by decide) rfl (fun ls hl => ?_)
  obtain ⟨e1, e2, e3⟩ := qq (Y := (Y.1, Y.2.1, σ2)) h1 h2
  refine lv_goto (tgt := 1345) hC.1 hC.2.1 dL_law_635 (by decide) ?_
  refine W.widen (k := K + 400) (n := S + 6000) (by omega) (by omega) ?_
  exact kk u1 (Y.1, Y.2.1, σ2) _ _ _ e3 rfl G (lv_sub hl [2, 3, 4, 5, 6] rfl)
set_option maxHeartbeats 4000000 in
set_option maxRecDepth 100000 in
/-- ill -/
theorem lc_ill {p : Program} {l : Launch} {e : Env} {s : State} {m : MethodId} {below : List Frame} {meth : Method} {c : Code} {Q : State → Prop} {D : va_G} {cy : Nat → ClassId} {lay : Nat → Nat} {o b L i K S m0 ea mi ta : Nat} {ad ac am : Nat → Nat} {xs : Nat → Int32} {u : OU} {Y : RY} {H : Heap} {locs : List Loc} {ls : Array Slot} (hl0 : l.stackTraces = false) (hC : CallFix p m c cL_law 7 s #[Value.ref b] (wsL_law ++ lkL) RL) (hr : meth.sig.returnType = some .boolean) (hT : lwT D cy ea mi ta ad ac am s) (hL : L ≤ 3584) (hX : va_X b L xs s s.heap) (hb : b < s.heap.size) (hi : 7 * i + 7 ≤ L) (hK : K + 400 ≤ 601024) (hS : S + 6000 ≤ 7293034) (hm : Y.1 0 = m0) (I : LI ea u Y) (G : lwG D cy lay o u Y s H locs) (hl : lv_has ls 7 [(4, .int (nI (7 * i))), (0, .ref b), (1, .ref (lay 0)), (2, .ref m0), (3, .ref o)]) (kk : ∀ (u' : OU) (Y' : RY) (H1 : Heap) (locs1 : List Loc) (ls1 : Array Slot), LI ea u' Y' → Y'.1 0 = m0 → lwG D cy lay o u' Y' s H1 locs1 → lv_has ls1 7 [(4, .int (nI (7 * i))), (0, .ref b), (1, .ref (lay 0)), (2, .ref m0), (3, .ref o)] → W p l e room_1 s m #[Value.ref b] below meth c H1 locs1 (K + 400) (S + 6000) Q (F0 m 1345 ls1 [])) : W p l e room_1 s m #[Value.ref b] below meth c H locs K S Q (F0 m 638 ls []) := by
  subst hm
  obtain ⟨T, I⟩ := I
  have I : LIT ea T u Y := I
  obtain ⟨x1, ex1⟩ : ∃ x : Int32, xs (Int32.toNatClampNeg (nI (7 * i) + 1)) = x := ⟨_, rfl⟩
  obtain ⟨x2, ex2⟩ : ∃ x : Int32, xs (Int32.toNatClampNeg (nI (7 * i) + 2)) = x := ⟨_, rfl⟩
  refine lv_aload_n hC.1 hC.2.1 dL_law_638 rfl (lv_at hl 2 rfl) ?_
  refine lv_aload_n hC.1 hC.2.1 dL_law_639 rfl (lv_at hl 1 rfl) ?_
  refine lv_iload hC.1 hC.2.1 dL_law_640 (lv_at hl 0 rfl) ?_
  refine lv_iconst (v := 1) hC.1 hC.2.1 dL_law_642 (by decide) ?_
  refine lv_iadd hC.1 hC.2.1 dL_law_643 ?_
  refine va_sld hC.1 hC.2.1 hX hb (Nat.not_le.mpr hb) G.2.2.2.2.2 (sx hi hL (j := 1) (by decide) rfl) dL_law_644 ?_
  rw [ex1]
  refine lv_aload_n hC.1 hC.2.1 dL_law_645 rfl (lv_at hl 1 rfl) ?_
  refine lv_iload hC.1 hC.2.1 dL_law_646 (lv_at hl 0 rfl) ?_
  refine lv_iconst (v := 2) hC.1 hC.2.1 dL_law_648 (by decide) ?_
  refine lv_iadd hC.1 hC.2.1 dL_law_649 ?_
  refine va_sld hC.1 hC.2.1 hX hb (Nat.not_le.mpr hb) G.2.2.2.2.2 (sx hi hL (j := 2) (by decide) rfl) dL_law_650 ?_
  rw [ex2]
  refine lv_aload_n hC.1 hC.2.1 dL_law_651 rfl (lv_at hl 4 rfl) ?_
  obtain ⟨K0, V0, Z0, P0, B0, W0, T0, hw1, hw2⟩ := sp_ill I x1 x2
  refine lw_w (As := [.ref (lay 0), .int x1, .int x2, .ref o]) (rest := []) hC hT G (c_L_ill l hl0 D cy lay o (post := fun r u' => cQ K0 V0 Z0 P0 B0 W0 T0 r u') hw1 _) (vx_cwSW 4 hC.2.2.2.2 (gM_s gL_law_L_ill) rfl rfl rfl hdS_L_ill ⟨Nat.le_of_ble_eq_true rfl, Nat.le_of_ble_eq_true rfl⟩) rfl hl.1 rfl (Nat.le_of_ble_eq_true rfl) dL_law_652 ⟨by show _ ≤ 601024; omega, by show _ ≤ 7293034; omega⟩ (fun r1 u1 H locs h1 G => ?_)
  refine lv_istore (lv' := [(5, .int r1), (4, .int (nI (7 * i))), (0, .ref b), (1, .ref (lay 0)), (2, .ref (Y.1 0)), (3, .ref o)]) hC.1 hC.2.1 dL_law_655 hl (by decide) rfl (fun ls hl => ?_)
  refine lv_aload_n hC.1 hC.2.1 dL_law_657 rfl (lv_at hl 4 rfl) ?_
  refine lv_aload_n hC.1 hC.2.1 dL_law_658 rfl (lv_at hl 2 rfl) ?_
  refine lv_iload hC.1 hC.2.1 dL_law_659 (lv_at hl 1 rfl) ?_
  refine lv_iconst (v := 1) hC.1 hC.2.1 dL_law_661 (by decide) ?_
  refine lv_iadd hC.1 hC.2.1 dL_law_662 ?_
  refine va_sld hC.1 hC.2.1 hX hb (Nat.not_le.mpr hb) G.2.2.2.2.2 (sx hi hL (j := 1) (by decide) rfl) dL_law_663 ?_
  rw [ex1]
  refine lv_aload_n hC.1 hC.2.1 dL_law_664 rfl (lv_at hl 2 rfl) ?_
  refine lv_iload hC.1 hC.2.1 dL_law_665 (lv_at hl 1 rfl) ?_
  refine lv_iconst (v := 2) hC.1 hC.2.1 dL_law_667 (by decide) ?_
  refine lv_iadd hC.1 hC.2.1 dL_law_668 ?_
  refine va_sld hC.1 hC.2.1 hX hb (Nat.not_le.mpr hb) G.2.2.2.2.2 (sx hi hL (j := 2) (by decide) rfl) dL_law_669 ?_
  rw [ex2]
  refine lw_ri (As := [.int x1, .int x2]) (rest := []) hC hT G (c_X11_ill l D cy Y.1 Y.2.1 (post := fun r τ => rfQ K0 V0 Z0 P0 B0 W0 ea r (Y.1, Y.2.1, τ)) hw2 _) (cwV 2 hC.2.2.2.2 (gM_w gL_law_X11_ill) rfl rfl rfl hdV_X11_ill ⟨Nat.le_of_ble_eq_true rfl, Nat.le_of_ble_eq_true rfl⟩) rfl hl.1 rfl (Nat.le_of_ble_eq_true rfl) dL_law_670 ⟨by show _ ≤ 601024; omega, by show _ ≤ 7293034; omega⟩ (fun r2 σ2 H locs h2 G => ?_)
  refine lv_istore (lv' := [(6, .int r2), (5, .int r1), (4, .int (nI (7 * i))), (0, .ref b), (1, .ref (lay 0)), (2, .ref (Y.1 0)), (3, .ref o)]) hC.1 hC.2.1 dL_law_673 hl (by decide) rfl (fun ls hl => ?_)
  obtain ⟨e1, e2, e3⟩ := qq (Y := (Y.1, Y.2.1, σ2)) h1 h2
  refine lv_goto (tgt := 1345) hC.1 hC.2.1 dL_law_675 (by decide) ?_
  refine W.widen (k := K + 400) (n := S + 6000) (by omega) (by omega) ?_
  exact kk u1 (Y.1, Y.2.1, σ2) _ _ _ e3 rfl G (lv_sub hl [2, 3, 4, 5, 6] rfl)
set_option maxHeartbeats 4000000 in
set_option maxRecDepth 100000 in
/-- late -/
theorem lc_late {p : Program} {l : Launch} {e : Env} {s : State} {m : MethodId} {below : List Frame} {meth : Method} {c : Code} {Q : State → Prop} {D : va_G} {cy : Nat → ClassId} {lay : Nat → Nat} {o b L i K S m0 ea mi ta : Nat} {ad ac am : Nat → Nat} {xs : Nat → Int32} {u : OU} {Y : RY} {H : Heap} {locs : List Loc} {ls : Array Slot} (hl0 : l.stackTraces = false) (hC : CallFix p m c cL_law 7 s #[Value.ref b] (wsL_law ++ lkL) RL) (hr : meth.sig.returnType = some .boolean) (hT : lwT D cy ea mi ta ad ac am s) (hL : L ≤ 3584) (hX : va_X b L xs s s.heap) (hb : b < s.heap.size) (hi : 7 * i + 7 ≤ L) (hK : K + 400 ≤ 601024) (hS : S + 6000 ≤ 7293034) (hm : Y.1 0 = m0) (I : LI ea u Y) (G : lwG D cy lay o u Y s H locs) (hl : lv_has ls 7 [(4, .int (nI (7 * i))), (0, .ref b), (1, .ref (lay 0)), (2, .ref m0), (3, .ref o)]) (kk : ∀ (u' : OU) (Y' : RY) (H1 : Heap) (locs1 : List Loc) (ls1 : Array Slot), LI ea u' Y' → Y'.1 0 = m0 → lwG D cy lay o u' Y' s H1 locs1 → lv_has ls1 7 [(4, .int (nI (7 * i))), (0, .ref b), (1, .ref (lay 0)), (2, .ref m0), (3, .ref o)] → W p l e room_1 s m #[Value.ref b] below meth c H1 locs1 (K + 400) (S + 6000) Q (F0 m 1345 ls1 [])) : W p l e room_1 s m #[Value.ref b] below meth c H locs K S Q (F0 m 678 ls []) := by
  subst hm
  obtain ⟨T, I⟩ := I
  have I : LIT ea T u Y := I
  obtain ⟨x1, ex1⟩ : ∃ x : Int32, xs (Int32.toNatClampNeg (nI (7 * i) + 1)) = x := ⟨_, rfl⟩
  obtain ⟨x2, ex2⟩ : ∃ x : Int32, xs (Int32.toNatClampNeg (nI (7 * i) + 2)) = x := ⟨_, rfl⟩
  refine lv_aload_n hC.1 hC.2.1 dL_law_678 rfl (lv_at hl 2 rfl) ?_
  refine lv_aload_n hC.1 hC.2.1 dL_law_679 rfl (lv_at hl 1 rfl) ?_
  refine lv_iload hC.1 hC.2.1 dL_law_680 (lv_at hl 0 rfl) ?_
  refine lv_iconst (v := 1) hC.1 hC.2.1 dL_law_682 (by decide) ?_
  refine lv_iadd hC.1 hC.2.1 dL_law_683 ?_
  refine va_sld hC.1 hC.2.1 hX hb (Nat.not_le.mpr hb) G.2.2.2.2.2 (sx hi hL (j := 1) (by decide) rfl) dL_law_684 ?_
  rw [ex1]
  refine lv_aload_n hC.1 hC.2.1 dL_law_685 rfl (lv_at hl 1 rfl) ?_
  refine lv_iload hC.1 hC.2.1 dL_law_686 (lv_at hl 0 rfl) ?_
  refine lv_iconst (v := 2) hC.1 hC.2.1 dL_law_688 (by decide) ?_
  refine lv_iadd hC.1 hC.2.1 dL_law_689 ?_
  refine va_sld hC.1 hC.2.1 hX hb (Nat.not_le.mpr hb) G.2.2.2.2.2 (sx hi hL (j := 2) (by decide) rfl) dL_law_690 ?_
  rw [ex2]
  refine lv_aload_n hC.1 hC.2.1 dL_law_691 rfl (lv_at hl 4 rfl) ?_
  obtain ⟨K0, V0, Z0, P0, B0, W0, T0, hw1, hw2⟩ := sp_late I x1 x2
  refine lw_w (As := [.ref (lay 0), .int x1, .int x2, .ref o]) (rest := []) hC hT G (c_L_late l hl0 D cy lay o (post := fun r u' => cQ K0 V0 Z0 P0 B0 W0 T0 r u') hw1 _) (vx_cwSW 4 hC.2.2.2.2 (gM_s gL_law_L_late) rfl rfl rfl hdS_L_late ⟨Nat.le_of_ble_eq_true rfl, Nat.le_of_ble_eq_true rfl⟩) rfl hl.1 rfl (Nat.le_of_ble_eq_true rfl) dL_law_692 ⟨by show _ ≤ 601024; omega, by show _ ≤ 7293034; omega⟩ (fun r1 u1 H locs h1 G => ?_)
  refine lv_istore (lv' := [(5, .int r1), (4, .int (nI (7 * i))), (0, .ref b), (1, .ref (lay 0)), (2, .ref (Y.1 0)), (3, .ref o)]) hC.1 hC.2.1 dL_law_695 hl (by decide) rfl (fun ls hl => ?_)
  refine lv_aload_n hC.1 hC.2.1 dL_law_697 rfl (lv_at hl 4 rfl) ?_
  refine lv_aload_n hC.1 hC.2.1 dL_law_698 rfl (lv_at hl 2 rfl) ?_
  refine lv_iload hC.1 hC.2.1 dL_law_699 (lv_at hl 1 rfl) ?_
  refine lv_iconst (v := 1) hC.1 hC.2.1 dL_law_701 (by decide) ?_
  refine lv_iadd hC.1 hC.2.1 dL_law_702 ?_
  refine va_sld hC.1 hC.2.1 hX hb (Nat.not_le.mpr hb) G.2.2.2.2.2 (sx hi hL (j := 1) (by decide) rfl) dL_law_703 ?_
  rw [ex1]
  refine lv_aload_n hC.1 hC.2.1 dL_law_704 rfl (lv_at hl 2 rfl) ?_
  refine lv_iload hC.1 hC.2.1 dL_law_705 (lv_at hl 1 rfl) ?_
  refine lv_iconst (v := 2) hC.1 hC.2.1 dL_law_707 (by decide) ?_
  refine lv_iadd hC.1 hC.2.1 dL_law_708 ?_
  refine va_sld hC.1 hC.2.1 hX hb (Nat.not_le.mpr hb) G.2.2.2.2.2 (sx hi hL (j := 2) (by decide) rfl) dL_law_709 ?_
  rw [ex2]
  refine lw_ri (As := [.int x1, .int x2]) (rest := []) hC hT G (c_X11_late l D cy Y.1 Y.2.1 (post := fun r τ => rfQ K0 V0 Z0 P0 B0 W0 ea r (Y.1, Y.2.1, τ)) hw2 _) (cwV 2 hC.2.2.2.2 (gM_w gL_law_X11_late) rfl rfl rfl hdV_X11_late ⟨Nat.le_of_ble_eq_true rfl, Nat.le_of_ble_eq_true rfl⟩) rfl hl.1 rfl (Nat.le_of_ble_eq_true rfl) dL_law_710 ⟨by show _ ≤ 601024; omega, by show _ ≤ 7293034; omega⟩ (fun r2 σ2 H locs h2 G => ?_)
  refine lv_istore (lv' := [(6, .int r2), (5, .int r1), (4, .int (nI (7 * i))), (0, .ref b), (1, .ref (lay 0)), (2, .ref (Y.1 0)), (3, .ref o)]) hC.1 hC.2.1 dL_law_713 hl (by decide) rfl (fun ls hl => ?_)
  obtain ⟨e1, e2, e3⟩ := qq (Y := (Y.1, Y.2.1, σ2)) h1 h2
  refine lv_goto (tgt := 1345) hC.1 hC.2.1 dL_law_715 (by decide) ?_
  refine W.widen (k := K + 400) (n := S + 6000) (by omega) (by omega) ?_
  exact kk u1 (Y.1, Y.2.1, σ2) _ _ _ e3 rfl G (lv_sub hl [2, 3, 4, 5, 6] rfl)
set_option maxHeartbeats 4000000 in
set_option maxRecDepth 100000 in
/-- pass -/
theorem lc_pass {p : Program} {l : Launch} {e : Env} {s : State} {m : MethodId} {below : List Frame} {meth : Method} {c : Code} {Q : State → Prop} {D : va_G} {cy : Nat → ClassId} {lay : Nat → Nat} {o b L i K S m0 ea mi ta : Nat} {ad ac am : Nat → Nat} {xs : Nat → Int32} {u : OU} {Y : RY} {H : Heap} {locs : List Loc} {ls : Array Slot} (hl0 : l.stackTraces = false) (hC : CallFix p m c cL_law 7 s #[Value.ref b] (wsL_law ++ lkL) RL) (hr : meth.sig.returnType = some .boolean) (hT : lwT D cy ea mi ta ad ac am s) (hL : L ≤ 3584) (hX : va_X b L xs s s.heap) (hb : b < s.heap.size) (hi : 7 * i + 7 ≤ L) (hK : K + 400 ≤ 601024) (hS : S + 6000 ≤ 7293034) (hm : Y.1 0 = m0) (I : LI ea u Y) (G : lwG D cy lay o u Y s H locs) (hl : lv_has ls 7 [(4, .int (nI (7 * i))), (0, .ref b), (1, .ref (lay 0)), (2, .ref m0), (3, .ref o)]) (kk : ∀ (u' : OU) (Y' : RY) (H1 : Heap) (locs1 : List Loc) (ls1 : Array Slot), LI ea u' Y' → Y'.1 0 = m0 → lwG D cy lay o u' Y' s H1 locs1 → lv_has ls1 7 [(4, .int (nI (7 * i))), (0, .ref b), (1, .ref (lay 0)), (2, .ref m0), (3, .ref o)] → W p l e room_1 s m #[Value.ref b] below meth c H1 locs1 (K + 400) (S + 6000) Q (F0 m 1345 ls1 [])) : W p l e room_1 s m #[Value.ref b] below meth c H locs K S Q (F0 m 718 ls []) := by
  subst hm
  obtain ⟨T, I⟩ := I
  have I : LIT ea T u Y := I
  obtain ⟨x1, ex1⟩ : ∃ x : Int32, xs (Int32.toNatClampNeg (nI (7 * i) + 1)) = x := ⟨_, rfl⟩
  refine lv_aload_n hC.1 hC.2.1 dL_law_718 rfl (lv_at hl 2 rfl) ?_
  refine lv_aload_n hC.1 hC.2.1 dL_law_719 rfl (lv_at hl 1 rfl) ?_
  refine lv_iload hC.1 hC.2.1 dL_law_720 (lv_at hl 0 rfl) ?_
  refine lv_iconst (v := 1) hC.1 hC.2.1 dL_law_722 (by decide) ?_
  refine lv_iadd hC.1 hC.2.1 dL_law_723 ?_
  refine va_sld hC.1 hC.2.1 hX hb (Nat.not_le.mpr hb) G.2.2.2.2.2 (sx hi hL (j := 1) (by decide) rfl) dL_law_724 ?_
  rw [ex1]
  refine lv_aload_n hC.1 hC.2.1 dL_law_725 rfl (lv_at hl 4 rfl) ?_
  obtain ⟨K0, V0, Z0, P0, B0, W0, T0, hw1, hw2⟩ := sp_pass I x1
  refine lw_w (As := [.ref (lay 0), .int x1, .ref o]) (rest := []) hC hT G (c_L_pass l hl0 D cy lay o (post := fun r u' => cQ K0 V0 Z0 P0 B0 W0 T0 r u') hw1 _) (vx_cwSW 3 hC.2.2.2.2 (gM_s gL_law_L_pass) rfl rfl rfl hdS_L_pass ⟨Nat.le_of_ble_eq_true rfl, Nat.le_of_ble_eq_true rfl⟩) rfl hl.1 rfl (Nat.le_of_ble_eq_true rfl) dL_law_726 ⟨by show _ ≤ 601024; omega, by show _ ≤ 7293034; omega⟩ (fun r1 u1 H locs h1 G => ?_)
  refine lv_istore (lv' := [(5, .int r1), (4, .int (nI (7 * i))), (0, .ref b), (1, .ref (lay 0)), (2, .ref (Y.1 0)), (3, .ref o)]) hC.1 hC.2.1 dL_law_729 hl (by decide) rfl (fun ls hl => ?_)
  refine lv_aload_n hC.1 hC.2.1 dL_law_731 rfl (lv_at hl 4 rfl) ?_
  refine lv_aload_n hC.1 hC.2.1 dL_law_732 rfl (lv_at hl 2 rfl) ?_
  refine lv_iload hC.1 hC.2.1 dL_law_733 (lv_at hl 1 rfl) ?_
  refine lv_iconst (v := 1) hC.1 hC.2.1 dL_law_735 (by decide) ?_
  refine lv_iadd hC.1 hC.2.1 dL_law_736 ?_
  refine va_sld hC.1 hC.2.1 hX hb (Nat.not_le.mpr hb) G.2.2.2.2.2 (sx hi hL (j := 1) (by decide) rfl) dL_law_737 ?_
  rw [ex1]
  refine lw_ri (As := [.int x1]) (rest := []) hC hT G (c_X11_pass l D cy Y.1 Y.2.1 (post := fun r τ => rfQ K0 V0 Z0 P0 B0 W0 ea r (Y.1, Y.2.1, τ)) hw2 _) (cwV 1 hC.2.2.2.2 (gM_w gL_law_X11_pass) rfl rfl rfl hdV_X11_pass ⟨Nat.le_of_ble_eq_true rfl, Nat.le_of_ble_eq_true rfl⟩) rfl hl.1 rfl (Nat.le_of_ble_eq_true rfl) dL_law_738 ⟨by show _ ≤ 601024; omega, by show _ ≤ 7293034; omega⟩ (fun r2 σ2 H locs h2 G => ?_)
  refine lv_istore (lv' := [(6, .int r2), (5, .int r1), (4, .int (nI (7 * i))), (0, .ref b), (1, .ref (lay 0)), (2, .ref (Y.1 0)), (3, .ref o)]) hC.1 hC.2.1 dL_law_741 hl (by decide) rfl (fun ls hl => ?_)
  obtain ⟨e1, e2, e3⟩ := qq (Y := (Y.1, Y.2.1, σ2)) h1 h2
  refine lv_goto (tgt := 1345) hC.1 hC.2.1 dL_law_743 (by decide) ?_
  refine W.widen (k := K + 400) (n := S + 6000) (by omega) (by omega) ?_
  exact kk u1 (Y.1, Y.2.1, σ2) _ _ _ e3 rfl G (lv_sub hl [2, 3, 4, 5, 6] rfl)
set_option maxHeartbeats 4000000 in
set_option maxRecDepth 100000 in
/-- ofPlayer -/
theorem lc_ofPlayer {p : Program} {l : Launch} {e : Env} {s : State} {m : MethodId} {below : List Frame} {meth : Method} {c : Code} {Q : State → Prop} {D : va_G} {cy : Nat → ClassId} {lay : Nat → Nat} {o b L i K S m0 ea mi ta : Nat} {ad ac am : Nat → Nat} {xs : Nat → Int32} {u : OU} {Y : RY} {H : Heap} {locs : List Loc} {ls : Array Slot} (hl0 : l.stackTraces = false) (hC : CallFix p m c cL_law 7 s #[Value.ref b] (wsL_law ++ lkL) RL) (hr : meth.sig.returnType = some .boolean) (hT : lwT D cy ea mi ta ad ac am s) (hL : L ≤ 3584) (hX : va_X b L xs s s.heap) (hb : b < s.heap.size) (hi : 7 * i + 7 ≤ L) (hK : K + 400 ≤ 601024) (hS : S + 6000 ≤ 7293034) (hm : Y.1 0 = m0) (I : LI ea u Y) (G : lwG D cy lay o u Y s H locs) (hl : lv_has ls 7 [(4, .int (nI (7 * i))), (0, .ref b), (1, .ref (lay 0)), (2, .ref m0), (3, .ref o)]) (kk : ∀ (u' : OU) (Y' : RY) (H1 : Heap) (locs1 : List Loc) (ls1 : Array Slot), LI ea u' Y' → Y'.1 0 = m0 → lwG D cy lay o u' Y' s H1 locs1 → lv_has ls1 7 [(4, .int (nI (7 * i))), (0, .ref b), (1, .ref (lay 0)), (2, .ref m0), (3, .ref o)] → W p l e room_1 s m #[Value.ref b] below meth c H1 locs1 (K + 400) (S + 6000) Q (F0 m 1345 ls1 [])) : W p l e room_1 s m #[Value.ref b] below meth c H locs K S Q (F0 m 746 ls []) := by
  subst hm
  obtain ⟨T, I⟩ := I
  have I : LIT ea T u Y := I
  obtain ⟨x1, ex1⟩ : ∃ x : Int32, xs (Int32.toNatClampNeg (nI (7 * i) + 1)) = x := ⟨_, rfl⟩
  obtain ⟨x2, ex2⟩ : ∃ x : Int32, xs (Int32.toNatClampNeg (nI (7 * i) + 2)) = x := ⟨_, rfl⟩
  refine lv_aload_n hC.1 hC.2.1 dL_law_746 rfl (lv_at hl 2 rfl) ?_
  refine lv_aload_n hC.1 hC.2.1 dL_law_747 rfl (lv_at hl 1 rfl) ?_
  refine lv_iload hC.1 hC.2.1 dL_law_748 (lv_at hl 0 rfl) ?_
  refine lv_iconst (v := 1) hC.1 hC.2.1 dL_law_750 (by decide) ?_
  refine lv_iadd hC.1 hC.2.1 dL_law_751 ?_
  refine va_sld hC.1 hC.2.1 hX hb (Nat.not_le.mpr hb) G.2.2.2.2.2 (sx hi hL (j := 1) (by decide) rfl) dL_law_752 ?_
  rw [ex1]
  refine lv_aload_n hC.1 hC.2.1 dL_law_753 rfl (lv_at hl 1 rfl) ?_
  refine lv_iload hC.1 hC.2.1 dL_law_754 (lv_at hl 0 rfl) ?_
  refine lv_iconst (v := 2) hC.1 hC.2.1 dL_law_756 (by decide) ?_
  refine lv_iadd hC.1 hC.2.1 dL_law_757 ?_
  refine va_sld hC.1 hC.2.1 hX hb (Nat.not_le.mpr hb) G.2.2.2.2.2 (sx hi hL (j := 2) (by decide) rfl) dL_law_758 ?_
  rw [ex2]
  refine lv_aload_n hC.1 hC.2.1 dL_law_759 rfl (lv_at hl 4 rfl) ?_
  obtain ⟨K0, V0, Z0, P0, B0, W0, T0, hw1, hw2⟩ := sp_ofPlayer I x1 x2
  refine lw_w (As := [.ref (lay 0), .int x1, .int x2, .ref o]) (rest := []) hC hT G (c_L_ofPlayer l hl0 D cy lay o (post := fun r u' => cQ K0 V0 Z0 P0 B0 W0 T0 r u') hw1 _) (vx_cwSW 4 hC.2.2.2.2 (gM_s gL_law_L_ofPlayer) rfl rfl rfl hdS_L_ofPlayer ⟨Nat.le_of_ble_eq_true rfl, Nat.le_of_ble_eq_true rfl⟩) rfl hl.1 rfl (Nat.le_of_ble_eq_true rfl) dL_law_760 ⟨by show _ ≤ 601024; omega, by show _ ≤ 7293034; omega⟩ (fun r1 u1 H locs h1 G => ?_)
  refine lv_istore (lv' := [(5, .int r1), (4, .int (nI (7 * i))), (0, .ref b), (1, .ref (lay 0)), (2, .ref (Y.1 0)), (3, .ref o)]) hC.1 hC.2.1 dL_law_763 hl (by decide) rfl (fun ls hl => ?_)
  refine lv_aload_n hC.1 hC.2.1 dL_law_765 rfl (lv_at hl 4 rfl) ?_
  refine lv_aload_n hC.1 hC.2.1 dL_law_766 rfl (lv_at hl 2 rfl) ?_
  refine lv_iload hC.1 hC.2.1 dL_law_767 (lv_at hl 1 rfl) ?_
  refine lv_iconst (v := 1) hC.1 hC.2.1 dL_law_769 (by decide) ?_
  refine lv_iadd hC.1 hC.2.1 dL_law_770 ?_
  refine va_sld hC.1 hC.2.1 hX hb (Nat.not_le.mpr hb) G.2.2.2.2.2 (sx hi hL (j := 1) (by decide) rfl) dL_law_771 ?_
  rw [ex1]
  refine lv_aload_n hC.1 hC.2.1 dL_law_772 rfl (lv_at hl 2 rfl) ?_
  refine lv_iload hC.1 hC.2.1 dL_law_773 (lv_at hl 1 rfl) ?_
  refine lv_iconst (v := 2) hC.1 hC.2.1 dL_law_775 (by decide) ?_
  refine lv_iadd hC.1 hC.2.1 dL_law_776 ?_
  refine va_sld hC.1 hC.2.1 hX hb (Nat.not_le.mpr hb) G.2.2.2.2.2 (sx hi hL (j := 2) (by decide) rfl) dL_law_777 ?_
  rw [ex2]
  refine lw_ri (As := [.int x1, .int x2]) (rest := []) hC hT G (c_X11_ofPlayer l D cy Y.1 Y.2.1 (post := fun r τ => rfQ K0 V0 Z0 P0 B0 W0 ea r (Y.1, Y.2.1, τ)) hw2 _) (cwV 2 hC.2.2.2.2 (gM_w gL_law_X11_ofPlayer) rfl rfl rfl hdV_X11_ofPlayer ⟨Nat.le_of_ble_eq_true rfl, Nat.le_of_ble_eq_true rfl⟩) rfl hl.1 rfl (Nat.le_of_ble_eq_true rfl) dL_law_778 ⟨by show _ ≤ 601024; omega, by show _ ≤ 7293034; omega⟩ (fun r2 σ2 H locs h2 G => ?_)
  refine lv_istore (lv' := [(6, .int r2), (5, .int r1), (4, .int (nI (7 * i))), (0, .ref b), (1, .ref (lay 0)), (2, .ref (Y.1 0)), (3, .ref o)]) hC.1 hC.2.1 dL_law_781 hl (by decide) rfl (fun ls hl => ?_)
  obtain ⟨e1, e2, e3⟩ := qq (Y := (Y.1, Y.2.1, σ2)) h1 h2
  refine lv_goto (tgt := 1345) hC.1 hC.2.1 dL_law_783 (by decide) ?_
  refine W.widen (k := K + 400) (n := S + 6000) (by omega) (by omega) ?_
  exact kk u1 (Y.1, Y.2.1, σ2) _ _ _ e3 rfl G (lv_sub hl [2, 3, 4, 5, 6] rfl)
set_option maxHeartbeats 4000000 in
set_option maxRecDepth 100000 in
/-- ofSong -/
theorem lc_ofSong {p : Program} {l : Launch} {e : Env} {s : State} {m : MethodId} {below : List Frame} {meth : Method} {c : Code} {Q : State → Prop} {D : va_G} {cy : Nat → ClassId} {lay : Nat → Nat} {o b L i K S m0 ea mi ta : Nat} {ad ac am : Nat → Nat} {xs : Nat → Int32} {u : OU} {Y : RY} {H : Heap} {locs : List Loc} {ls : Array Slot} (hl0 : l.stackTraces = false) (hC : CallFix p m c cL_law 7 s #[Value.ref b] (wsL_law ++ lkL) RL) (hr : meth.sig.returnType = some .boolean) (hT : lwT D cy ea mi ta ad ac am s) (hL : L ≤ 3584) (hX : va_X b L xs s s.heap) (hb : b < s.heap.size) (hi : 7 * i + 7 ≤ L) (hK : K + 400 ≤ 601024) (hS : S + 6000 ≤ 7293034) (hm : Y.1 0 = m0) (I : LI ea u Y) (G : lwG D cy lay o u Y s H locs) (hl : lv_has ls 7 [(4, .int (nI (7 * i))), (0, .ref b), (1, .ref (lay 0)), (2, .ref m0), (3, .ref o)]) (kk : ∀ (u' : OU) (Y' : RY) (H1 : Heap) (locs1 : List Loc) (ls1 : Array Slot), LI ea u' Y' → Y'.1 0 = m0 → lwG D cy lay o u' Y' s H1 locs1 → lv_has ls1 7 [(4, .int (nI (7 * i))), (0, .ref b), (1, .ref (lay 0)), (2, .ref m0), (3, .ref o)] → W p l e room_1 s m #[Value.ref b] below meth c H1 locs1 (K + 400) (S + 6000) Q (F0 m 1345 ls1 [])) : W p l e room_1 s m #[Value.ref b] below meth c H locs K S Q (F0 m 786 ls []) := by
  subst hm
  obtain ⟨T, I⟩ := I
  have I : LIT ea T u Y := I
  obtain ⟨x1, ex1⟩ : ∃ x : Int32, xs (Int32.toNatClampNeg (nI (7 * i) + 1)) = x := ⟨_, rfl⟩
  obtain ⟨x2, ex2⟩ : ∃ x : Int32, xs (Int32.toNatClampNeg (nI (7 * i) + 2)) = x := ⟨_, rfl⟩
  refine lv_aload_n hC.1 hC.2.1 dL_law_786 rfl (lv_at hl 2 rfl) ?_
  refine lv_aload_n hC.1 hC.2.1 dL_law_787 rfl (lv_at hl 1 rfl) ?_
  refine lv_iload hC.1 hC.2.1 dL_law_788 (lv_at hl 0 rfl) ?_
  refine lv_iconst (v := 1) hC.1 hC.2.1 dL_law_790 (by decide) ?_
  refine lv_iadd hC.1 hC.2.1 dL_law_791 ?_
  refine va_sld hC.1 hC.2.1 hX hb (Nat.not_le.mpr hb) G.2.2.2.2.2 (sx hi hL (j := 1) (by decide) rfl) dL_law_792 ?_
  rw [ex1]
  refine lv_aload_n hC.1 hC.2.1 dL_law_793 rfl (lv_at hl 1 rfl) ?_
  refine lv_iload hC.1 hC.2.1 dL_law_794 (lv_at hl 0 rfl) ?_
  refine lv_iconst (v := 2) hC.1 hC.2.1 dL_law_796 (by decide) ?_
  refine lv_iadd hC.1 hC.2.1 dL_law_797 ?_
  refine va_sld hC.1 hC.2.1 hX hb (Nat.not_le.mpr hb) G.2.2.2.2.2 (sx hi hL (j := 2) (by decide) rfl) dL_law_798 ?_
  rw [ex2]
  refine lv_aload_n hC.1 hC.2.1 dL_law_799 rfl (lv_at hl 4 rfl) ?_
  obtain ⟨K0, V0, Z0, P0, B0, W0, T0, hw1, hw2⟩ := sp_ofSong I x1 x2
  refine lw_w (As := [.ref (lay 0), .int x1, .int x2, .ref o]) (rest := []) hC hT G (c_L_ofSong l hl0 D cy lay o (post := fun r u' => cQ K0 V0 Z0 P0 B0 W0 T0 r u') hw1 _) (vx_cwSW 4 hC.2.2.2.2 (gM_s gL_law_L_ofSong) rfl rfl rfl hdS_L_ofSong ⟨Nat.le_of_ble_eq_true rfl, Nat.le_of_ble_eq_true rfl⟩) rfl hl.1 rfl (Nat.le_of_ble_eq_true rfl) dL_law_800 ⟨by show _ ≤ 601024; omega, by show _ ≤ 7293034; omega⟩ (fun r1 u1 H locs h1 G => ?_)
  refine lv_istore (lv' := [(5, .int r1), (4, .int (nI (7 * i))), (0, .ref b), (1, .ref (lay 0)), (2, .ref (Y.1 0)), (3, .ref o)]) hC.1 hC.2.1 dL_law_803 hl (by decide) rfl (fun ls hl => ?_)
  refine lv_aload_n hC.1 hC.2.1 dL_law_805 rfl (lv_at hl 4 rfl) ?_
  refine lv_aload_n hC.1 hC.2.1 dL_law_806 rfl (lv_at hl 2 rfl) ?_
  refine lv_iload hC.1 hC.2.1 dL_law_807 (lv_at hl 1 rfl) ?_
  refine lv_iconst (v := 1) hC.1 hC.2.1 dL_law_809 (by decide) ?_
  refine lv_iadd hC.1 hC.2.1 dL_law_810 ?_
  refine va_sld hC.1 hC.2.1 hX hb (Nat.not_le.mpr hb) G.2.2.2.2.2 (sx hi hL (j := 1) (by decide) rfl) dL_law_811 ?_
  rw [ex1]
  refine lv_aload_n hC.1 hC.2.1 dL_law_812 rfl (lv_at hl 2 rfl) ?_
  refine lv_iload hC.1 hC.2.1 dL_law_813 (lv_at hl 1 rfl) ?_
  refine lv_iconst (v := 2) hC.1 hC.2.1 dL_law_815 (by decide) ?_
  refine lv_iadd hC.1 hC.2.1 dL_law_816 ?_
  refine va_sld hC.1 hC.2.1 hX hb (Nat.not_le.mpr hb) G.2.2.2.2.2 (sx hi hL (j := 2) (by decide) rfl) dL_law_817 ?_
  rw [ex2]
  refine lw_ri (As := [.int x1, .int x2]) (rest := []) hC hT G (c_X11_ofSong l D cy Y.1 Y.2.1 (post := fun r τ => rfQ K0 V0 Z0 P0 B0 W0 ea r (Y.1, Y.2.1, τ)) hw2 _) (cwV 2 hC.2.2.2.2 (gM_w gL_law_X11_ofSong) rfl rfl rfl hdV_X11_ofSong ⟨Nat.le_of_ble_eq_true rfl, Nat.le_of_ble_eq_true rfl⟩) rfl hl.1 rfl (Nat.le_of_ble_eq_true rfl) dL_law_818 ⟨by show _ ≤ 601024; omega, by show _ ≤ 7293034; omega⟩ (fun r2 σ2 H locs h2 G => ?_)
  refine lv_istore (lv' := [(6, .int r2), (5, .int r1), (4, .int (nI (7 * i))), (0, .ref b), (1, .ref (lay 0)), (2, .ref (Y.1 0)), (3, .ref o)]) hC.1 hC.2.1 dL_law_821 hl (by decide) rfl (fun ls hl => ?_)
  obtain ⟨e1, e2, e3⟩ := qq (Y := (Y.1, Y.2.1, σ2)) h1 h2
  refine lv_goto (tgt := 1345) hC.1 hC.2.1 dL_law_823 (by decide) ?_
  refine W.widen (k := K + 400) (n := S + 6000) (by omega) (by omega) ?_
  exact kk u1 (Y.1, Y.2.1, σ2) _ _ _ e3 rfl G (lv_sub hl [2, 3, 4, 5, 6] rfl)
set_option maxHeartbeats 4000000 in
set_option maxRecDepth 100000 in
/-- ofBand -/
theorem lc_ofBand {p : Program} {l : Launch} {e : Env} {s : State} {m : MethodId} {below : List Frame} {meth : Method} {c : Code} {Q : State → Prop} {D : va_G} {cy : Nat → ClassId} {lay : Nat → Nat} {o b L i K S m0 ea mi ta : Nat} {ad ac am : Nat → Nat} {xs : Nat → Int32} {u : OU} {Y : RY} {H : Heap} {locs : List Loc} {ls : Array Slot} (hl0 : l.stackTraces = false) (hC : CallFix p m c cL_law 7 s #[Value.ref b] (wsL_law ++ lkL) RL) (hr : meth.sig.returnType = some .boolean) (hT : lwT D cy ea mi ta ad ac am s) (hL : L ≤ 3584) (hX : va_X b L xs s s.heap) (hb : b < s.heap.size) (hi : 7 * i + 7 ≤ L) (hK : K + 400 ≤ 601024) (hS : S + 6000 ≤ 7293034) (hm : Y.1 0 = m0) (I : LI ea u Y) (G : lwG D cy lay o u Y s H locs) (hl : lv_has ls 7 [(4, .int (nI (7 * i))), (0, .ref b), (1, .ref (lay 0)), (2, .ref m0), (3, .ref o)]) (kk : ∀ (u' : OU) (Y' : RY) (H1 : Heap) (locs1 : List Loc) (ls1 : Array Slot), LI ea u' Y' → Y'.1 0 = m0 → lwG D cy lay o u' Y' s H1 locs1 → lv_has ls1 7 [(4, .int (nI (7 * i))), (0, .ref b), (1, .ref (lay 0)), (2, .ref m0), (3, .ref o)] → W p l e room_1 s m #[Value.ref b] below meth c H1 locs1 (K + 400) (S + 6000) Q (F0 m 1345 ls1 [])) : W p l e room_1 s m #[Value.ref b] below meth c H locs K S Q (F0 m 826 ls []) := by
  subst hm
  obtain ⟨T, I⟩ := I
  have I : LIT ea T u Y := I
  obtain ⟨x1, ex1⟩ : ∃ x : Int32, xs (Int32.toNatClampNeg (nI (7 * i) + 1)) = x := ⟨_, rfl⟩
  obtain ⟨x2, ex2⟩ : ∃ x : Int32, xs (Int32.toNatClampNeg (nI (7 * i) + 2)) = x := ⟨_, rfl⟩
  refine lv_aload_n hC.1 hC.2.1 dL_law_826 rfl (lv_at hl 2 rfl) ?_
  refine lv_aload_n hC.1 hC.2.1 dL_law_827 rfl (lv_at hl 1 rfl) ?_
  refine lv_iload hC.1 hC.2.1 dL_law_828 (lv_at hl 0 rfl) ?_
  refine lv_iconst (v := 1) hC.1 hC.2.1 dL_law_830 (by decide) ?_
  refine lv_iadd hC.1 hC.2.1 dL_law_831 ?_
  refine va_sld hC.1 hC.2.1 hX hb (Nat.not_le.mpr hb) G.2.2.2.2.2 (sx hi hL (j := 1) (by decide) rfl) dL_law_832 ?_
  rw [ex1]
  refine lv_aload_n hC.1 hC.2.1 dL_law_833 rfl (lv_at hl 1 rfl) ?_
  refine lv_iload hC.1 hC.2.1 dL_law_834 (lv_at hl 0 rfl) ?_
  refine lv_iconst (v := 2) hC.1 hC.2.1 dL_law_836 (by decide) ?_
  refine lv_iadd hC.1 hC.2.1 dL_law_837 ?_
  refine va_sld hC.1 hC.2.1 hX hb (Nat.not_le.mpr hb) G.2.2.2.2.2 (sx hi hL (j := 2) (by decide) rfl) dL_law_838 ?_
  rw [ex2]
  refine lv_aload_n hC.1 hC.2.1 dL_law_839 rfl (lv_at hl 4 rfl) ?_
  obtain ⟨K0, V0, Z0, P0, B0, W0, T0, hw1, hw2⟩ := sp_ofBand I x1 x2
  refine lw_w (As := [.ref (lay 0), .int x1, .int x2, .ref o]) (rest := []) hC hT G (c_L_ofBand l hl0 D cy lay o (post := fun r u' => cQ K0 V0 Z0 P0 B0 W0 T0 r u') hw1 _) (vx_cwSW 4 hC.2.2.2.2 (gM_s gL_law_L_ofBand) rfl rfl rfl hdS_L_ofBand ⟨Nat.le_of_ble_eq_true rfl, Nat.le_of_ble_eq_true rfl⟩) rfl hl.1 rfl (Nat.le_of_ble_eq_true rfl) dL_law_840 ⟨by show _ ≤ 601024; omega, by show _ ≤ 7293034; omega⟩ (fun r1 u1 H locs h1 G => ?_)
  refine lv_istore (lv' := [(5, .int r1), (4, .int (nI (7 * i))), (0, .ref b), (1, .ref (lay 0)), (2, .ref (Y.1 0)), (3, .ref o)]) hC.1 hC.2.1 dL_law_843 hl (by decide) rfl (fun ls hl => ?_)
  refine lv_aload_n hC.1 hC.2.1 dL_law_845 rfl (lv_at hl 4 rfl) ?_
  refine lv_aload_n hC.1 hC.2.1 dL_law_846 rfl (lv_at hl 2 rfl) ?_
  refine lv_iload hC.1 hC.2.1 dL_law_847 (lv_at hl 1 rfl) ?_
  refine lv_iconst (v := 1) hC.1 hC.2.1 dL_law_849 (by decide) ?_
  refine lv_iadd hC.1 hC.2.1 dL_law_850 ?_
  refine va_sld hC.1 hC.2.1 hX hb (Nat.not_le.mpr hb) G.2.2.2.2.2 (sx hi hL (j := 1) (by decide) rfl) dL_law_851 ?_
  rw [ex1]
  refine lv_aload_n hC.1 hC.2.1 dL_law_852 rfl (lv_at hl 2 rfl) ?_
  refine lv_iload hC.1 hC.2.1 dL_law_853 (lv_at hl 1 rfl) ?_
  refine lv_iconst (v := 2) hC.1 hC.2.1 dL_law_855 (by decide) ?_
  refine lv_iadd hC.1 hC.2.1 dL_law_856 ?_
  refine va_sld hC.1 hC.2.1 hX hb (Nat.not_le.mpr hb) G.2.2.2.2.2 (sx hi hL (j := 2) (by decide) rfl) dL_law_857 ?_
  rw [ex2]
  refine lw_ri (As := [.int x1, .int x2]) (rest := []) hC hT G (c_X11_ofBand l D cy Y.1 Y.2.1 (post := fun r τ => rfQ K0 V0 Z0 P0 B0 W0 ea r (Y.1, Y.2.1, τ)) hw2 _) (cwV 2 hC.2.2.2.2 (gM_w gL_law_X11_ofBand) rfl rfl rfl hdV_X11_ofBand ⟨Nat.le_of_ble_eq_true rfl, Nat.le_of_ble_eq_true rfl⟩) rfl hl.1 rfl (Nat.le_of_ble_eq_true rfl) dL_law_858 ⟨by show _ ≤ 601024; omega, by show _ ≤ 7293034; omega⟩ (fun r2 σ2 H locs h2 G => ?_)
  refine lv_istore (lv' := [(6, .int r2), (5, .int r1), (4, .int (nI (7 * i))), (0, .ref b), (1, .ref (lay 0)), (2, .ref (Y.1 0)), (3, .ref o)]) hC.1 hC.2.1 dL_law_861 hl (by decide) rfl (fun ls hl => ?_)
  obtain ⟨e1, e2, e3⟩ := qq (Y := (Y.1, Y.2.1, σ2)) h1 h2
  refine lv_goto (tgt := 1345) hC.1 hC.2.1 dL_law_863 (by decide) ?_
  refine W.widen (k := K + 400) (n := S + 6000) (by omega) (by omega) ?_
  exact kk u1 (Y.1, Y.2.1, σ2) _ _ _ e3 rfl G (lv_sub hl [2, 3, 4, 5, 6] rfl)
set_option maxHeartbeats 4000000 in
set_option maxRecDepth 100000 in
/-- ofWedding -/
theorem lc_ofWedding {p : Program} {l : Launch} {e : Env} {s : State} {m : MethodId} {below : List Frame} {meth : Method} {c : Code} {Q : State → Prop} {D : va_G} {cy : Nat → ClassId} {lay : Nat → Nat} {o b L i K S m0 ea mi ta : Nat} {ad ac am : Nat → Nat} {xs : Nat → Int32} {u : OU} {Y : RY} {H : Heap} {locs : List Loc} {ls : Array Slot} (hl0 : l.stackTraces = false) (hC : CallFix p m c cL_law 7 s #[Value.ref b] (wsL_law ++ lkL) RL) (hr : meth.sig.returnType = some .boolean) (hT : lwT D cy ea mi ta ad ac am s) (hL : L ≤ 3584) (hX : va_X b L xs s s.heap) (hb : b < s.heap.size) (hi : 7 * i + 7 ≤ L) (hK : K + 400 ≤ 601024) (hS : S + 6000 ≤ 7293034) (hm : Y.1 0 = m0) (I : LI ea u Y) (G : lwG D cy lay o u Y s H locs) (hl : lv_has ls 7 [(4, .int (nI (7 * i))), (0, .ref b), (1, .ref (lay 0)), (2, .ref m0), (3, .ref o)]) (kk : ∀ (u' : OU) (Y' : RY) (H1 : Heap) (locs1 : List Loc) (ls1 : Array Slot), LI ea u' Y' → Y'.1 0 = m0 → lwG D cy lay o u' Y' s H1 locs1 → lv_has ls1 7 [(4, .int (nI (7 * i))), (0, .ref b), (1, .ref (lay 0)), (2, .ref m0), (3, .ref o)] → W p l e room_1 s m #[Value.ref b] below meth c H1 locs1 (K + 400) (S + 6000) Q (F0 m 1345 ls1 [])) : W p l e room_1 s m #[Value.ref b] below meth c H locs K S Q (F0 m 866 ls []) := by
  subst hm
  obtain ⟨T, I⟩ := I
  have I : LIT ea T u Y := I
  obtain ⟨x1, ex1⟩ : ∃ x : Int32, xs (Int32.toNatClampNeg (nI (7 * i) + 1)) = x := ⟨_, rfl⟩
  obtain ⟨x2, ex2⟩ : ∃ x : Int32, xs (Int32.toNatClampNeg (nI (7 * i) + 2)) = x := ⟨_, rfl⟩
  refine lv_aload_n hC.1 hC.2.1 dL_law_866 rfl (lv_at hl 2 rfl) ?_
  refine lv_aload_n hC.1 hC.2.1 dL_law_867 rfl (lv_at hl 1 rfl) ?_
  refine lv_iload hC.1 hC.2.1 dL_law_868 (lv_at hl 0 rfl) ?_
  refine lv_iconst (v := 1) hC.1 hC.2.1 dL_law_870 (by decide) ?_
  refine lv_iadd hC.1 hC.2.1 dL_law_871 ?_
  refine va_sld hC.1 hC.2.1 hX hb (Nat.not_le.mpr hb) G.2.2.2.2.2 (sx hi hL (j := 1) (by decide) rfl) dL_law_872 ?_
  rw [ex1]
  refine lv_aload_n hC.1 hC.2.1 dL_law_873 rfl (lv_at hl 1 rfl) ?_
  refine lv_iload hC.1 hC.2.1 dL_law_874 (lv_at hl 0 rfl) ?_
  refine lv_iconst (v := 2) hC.1 hC.2.1 dL_law_876 (by decide) ?_
  refine lv_iadd hC.1 hC.2.1 dL_law_877 ?_
  refine va_sld hC.1 hC.2.1 hX hb (Nat.not_le.mpr hb) G.2.2.2.2.2 (sx hi hL (j := 2) (by decide) rfl) dL_law_878 ?_
  rw [ex2]
  refine lv_aload_n hC.1 hC.2.1 dL_law_879 rfl (lv_at hl 4 rfl) ?_
  obtain ⟨K0, V0, Z0, P0, B0, W0, T0, hw1, hw2⟩ := sp_ofWedding I x1 x2
  refine lw_w (As := [.ref (lay 0), .int x1, .int x2, .ref o]) (rest := []) hC hT G (c_L_ofWedding l hl0 D cy lay o (post := fun r u' => cQ K0 V0 Z0 P0 B0 W0 T0 r u') hw1 _) (vx_cwSW 4 hC.2.2.2.2 (gM_s gL_law_L_ofWedding) rfl rfl rfl hdS_L_ofWedding ⟨Nat.le_of_ble_eq_true rfl, Nat.le_of_ble_eq_true rfl⟩) rfl hl.1 rfl (Nat.le_of_ble_eq_true rfl) dL_law_880 ⟨by show _ ≤ 601024; omega, by show _ ≤ 7293034; omega⟩ (fun r1 u1 H locs h1 G => ?_)
  refine lv_istore (lv' := [(5, .int r1), (4, .int (nI (7 * i))), (0, .ref b), (1, .ref (lay 0)), (2, .ref (Y.1 0)), (3, .ref o)]) hC.1 hC.2.1 dL_law_883 hl (by decide) rfl (fun ls hl => ?_)
  refine lv_aload_n hC.1 hC.2.1 dL_law_885 rfl (lv_at hl 4 rfl) ?_
  refine lv_aload_n hC.1 hC.2.1 dL_law_886 rfl (lv_at hl 2 rfl) ?_
  refine lv_iload hC.1 hC.2.1 dL_law_887 (lv_at hl 1 rfl) ?_
  refine lv_iconst (v := 1) hC.1 hC.2.1 dL_law_889 (by decide) ?_
  refine lv_iadd hC.1 hC.2.1 dL_law_890 ?_
  refine va_sld hC.1 hC.2.1 hX hb (Nat.not_le.mpr hb) G.2.2.2.2.2 (sx hi hL (j := 1) (by decide) rfl) dL_law_891 ?_
  rw [ex1]
  refine lv_aload_n hC.1 hC.2.1 dL_law_892 rfl (lv_at hl 2 rfl) ?_
  refine lv_iload hC.1 hC.2.1 dL_law_893 (lv_at hl 1 rfl) ?_
  refine lv_iconst (v := 2) hC.1 hC.2.1 dL_law_895 (by decide) ?_
  refine lv_iadd hC.1 hC.2.1 dL_law_896 ?_
  refine va_sld hC.1 hC.2.1 hX hb (Nat.not_le.mpr hb) G.2.2.2.2.2 (sx hi hL (j := 2) (by decide) rfl) dL_law_897 ?_
  rw [ex2]
  refine lw_ri (As := [.int x1, .int x2]) (rest := []) hC hT G (c_X11_ofWedding l D cy Y.1 Y.2.1 (post := fun r τ => rfQ K0 V0 Z0 P0 B0 W0 ea r (Y.1, Y.2.1, τ)) hw2 _) (cwV 2 hC.2.2.2.2 (gM_w gL_law_X11_ofWedding) rfl rfl rfl hdV_X11_ofWedding ⟨Nat.le_of_ble_eq_true rfl, Nat.le_of_ble_eq_true rfl⟩) rfl hl.1 rfl (Nat.le_of_ble_eq_true rfl) dL_law_898 ⟨by show _ ≤ 601024; omega, by show _ ≤ 7293034; omega⟩ (fun r2 σ2 H locs h2 G => ?_)
  refine lv_istore (lv' := [(6, .int r2), (5, .int r1), (4, .int (nI (7 * i))), (0, .ref b), (1, .ref (lay 0)), (2, .ref (Y.1 0)), (3, .ref o)]) hC.1 hC.2.1 dL_law_901 hl (by decide) rfl (fun ls hl => ?_)
  obtain ⟨e1, e2, e3⟩ := qq (Y := (Y.1, Y.2.1, σ2)) h1 h2
  refine lv_goto (tgt := 1345) hC.1 hC.2.1 dL_law_903 (by decide) ?_
  refine W.widen (k := K + 400) (n := S + 6000) (by omega) (by omega) ?_
  exact kk u1 (Y.1, Y.2.1, σ2) _ _ _ e3 rfl G (lv_sub hl [2, 3, 4, 5, 6] rfl)
