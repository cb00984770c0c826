/-! THE LAW, CALL BY CALL (2) -/
set_option maxHeartbeats 4000000 in
set_option maxRecDepth 100000 in
/-- drive -/
theorem lc_drive {p : Program} {l : Launch} {e : Env} {s : State} {m : MethodId} {below : List Frame} {meth : Method} {c : Code} {Q : State → Prop} {D : va_G} {cy : Nat → ClassId} {lay : Nat → Nat} {o b L i K S m0 ea mi ta : Nat} {ad ac am : Nat → Nat} {xs : Nat → Int32} {u : OU} {Y : RY} {H : Heap} {locs : List Loc} {ls : Array Slot} (hl0 : l.stackTraces = false) (hC : CallFix p m c cL_law 7 s #[Value.ref b] (wsL_law ++ lkL) RL) (hr : meth.sig.returnType = some .boolean) (hT : lwT D cy ea mi ta ad ac am s) (hL : L ≤ 3584) (hX : va_X b L xs s s.heap) (hb : b < s.heap.size) (hi : 7 * i + 7 ≤ L) (hK : K + 400 ≤ 601024) (hS : S + 6000 ≤ 7293034) (hm : Y.1 0 = m0) (I : LI ea u Y) (G : lwG D cy lay o u Y s H locs) (hl : lv_has ls 7 [(4, .int (nI (7 * i))), (0, .ref b), (1, .ref (lay 0)), (2, .ref m0), (3, .ref o)]) (kk : ∀ (u' : OU) (Y' : RY) (H1 : Heap) (locs1 : List Loc) (ls1 : Array Slot), LI ea u' Y' → Y'.1 0 = m0 → lwG D cy lay o u' Y' s H1 locs1 → lv_has ls1 7 [(4, .int (nI (7 * i))), (0, .ref b), (1, .ref (lay 0)), (2, .ref m0), (3, .ref o)] → W p l e room_1 s m #[Value.ref b] below meth c H1 locs1 (K + 400) (S + 6000) Q (F0 m 1345 ls1 [])) : W p l e room_1 s m #[Value.ref b] below meth c H locs K S Q (F0 m 906 ls []) := by
  subst hm
  obtain ⟨T, I⟩ := I
  have I : LIT ea T u Y := I
  obtain ⟨x1, ex1⟩ : ∃ x : Int32, xs (Int32.toNatClampNeg (nI (7 * i) + 1)) = x := ⟨_, rfl⟩
  obtain ⟨x2, ex2⟩ : ∃ x : Int32, xs (Int32.toNatClampNeg (nI (7 * i) + 2)) = x := ⟨_, rfl⟩
  refine lv_aload_n hC.1 hC.2.1 dL_law_906 rfl (lv_at hl 2 rfl) ?_
  refine lv_aload_n hC.1 hC.2.1 dL_law_907 rfl (lv_at hl 1 rfl) ?_
  refine lv_iload hC.1 hC.2.1 dL_law_908 (lv_at hl 0 rfl) ?_
  refine lv_iconst (v := 1) hC.1 hC.2.1 dL_law_910 (by decide) ?_
  refine lv_iadd hC.1 hC.2.1 dL_law_911 ?_
  refine va_sld hC.1 hC.2.1 hX hb (Nat.not_le.mpr hb) G.2.2.2.2.2 (sx hi hL (j := 1) (by decide) rfl) dL_law_912 ?_
  rw [ex1]
  refine lv_aload_n hC.1 hC.2.1 dL_law_913 rfl (lv_at hl 1 rfl) ?_
  refine lv_iload hC.1 hC.2.1 dL_law_914 (lv_at hl 0 rfl) ?_
  refine lv_iconst (v := 2) hC.1 hC.2.1 dL_law_916 (by decide) ?_
  refine lv_iadd hC.1 hC.2.1 dL_law_917 ?_
  refine va_sld hC.1 hC.2.1 hX hb (Nat.not_le.mpr hb) G.2.2.2.2.2 (sx hi hL (j := 2) (by decide) rfl) dL_law_918 ?_
  rw [ex2]
  refine lv_aload_n hC.1 hC.2.1 dL_law_919 rfl (lv_at hl 4 rfl) ?_
  obtain ⟨K0, V0, Z0, P0, B0, W0, T0, hw1, hw2⟩ := sp_drive I x1 x2
  refine lw_w (As := [.ref (lay 0), .int x1, .int x2, .ref o]) (rest := []) hC hT G (c_L_drive l hl0 D cy lay o (post := fun r u' => cQ K0 V0 Z0 P0 B0 W0 T0 r u') hw1 _) (vx_cwSW 4 hC.2.2.2.2 (gM_s gL_law_L_drive) rfl rfl rfl hdS_L_drive ⟨Nat.le_of_ble_eq_true rfl, Nat.le_of_ble_eq_true rfl⟩) rfl hl.1 rfl (Nat.le_of_ble_eq_true rfl) dL_law_920 ⟨by show _ ≤ 601024; omega, by show _ ≤ 7293034; omega⟩ (fun r1 u1 H locs h1 G => ?_)
  refine lv_istore (lv' := [(5, .int r1), (4, .int (nI (7 * i))), (0, .ref b), (1, .ref (lay 0)), (2, .ref (Y.1 0)), (3, .ref o)]) hC.1 hC.2.1 dL_law_923 hl (by decide) rfl (fun ls hl => ?_)
  refine lv_aload_n hC.1 hC.2.1 dL_law_925 rfl (lv_at hl 4 rfl) ?_
  refine lv_aload_n hC.1 hC.2.1 dL_law_926 rfl (lv_at hl 2 rfl) ?_
  refine lv_iload hC.1 hC.2.1 dL_law_927 (lv_at hl 1 rfl) ?_
  refine lv_iconst (v := 1) hC.1 hC.2.1 dL_law_929 (by decide) ?_
  refine lv_iadd hC.1 hC.2.1 dL_law_930 ?_
  refine va_sld hC.1 hC.2.1 hX hb (Nat.not_le.mpr hb) G.2.2.2.2.2 (sx hi hL (j := 1) (by decide) rfl) dL_law_931 ?_
  rw [ex1]
  refine lv_aload_n hC.1 hC.2.1 dL_law_932 rfl (lv_at hl 2 rfl) ?_
  refine lv_iload hC.1 hC.2.1 dL_law_933 (lv_at hl 1 rfl) ?_
  refine lv_iconst (v := 2) hC.1 hC.2.1 dL_law_935 (by decide) ?_
  refine lv_iadd hC.1 hC.2.1 dL_law_936 ?_
  refine va_sld hC.1 hC.2.1 hX hb (Nat.not_le.mpr hb) G.2.2.2.2.2 (sx hi hL (j := 2) (by decide) rfl) dL_law_937 ?_
  rw [ex2]
  refine lw_ri (As := [.int x1, .int x2]) (rest := []) hC hT G (c_X11_drive_ l D cy Y.1 Y.2.1 (post := fun r τ => rfQ K0 V0 Z0 P0 B0 W0 ea r (Y.1, Y.2.1, τ)) hw2 _) (cwV 2 hC.2.2.2.2 (gM_w gL_law_X11_drive_) rfl rfl rfl hdV_X11_drive_ ⟨Nat.le_of_ble_eq_true rfl, Nat.le_of_ble_eq_true rfl⟩) rfl hl.1 rfl (Nat.le_of_ble_eq_true rfl) dL_law_938 ⟨by show _ ≤ 601024; omega, by show _ ≤ 7293034; omega⟩ (fun r2 σ2 H locs h2 G => ?_)
  refine lv_istore (lv' := [(6, .int r2), (5, .int r1), (4, .int (nI (7 * i))), (0, .ref b), (1, .ref (lay 0)), (2, .ref (Y.1 0)), (3, .ref o)]) hC.1 hC.2.1 dL_law_941 hl (by decide) rfl (fun ls hl => ?_)
  obtain ⟨e1, e2, e3⟩ := qq (Y := (Y.1, Y.2.1, σ2)) h1 h2
  refine lv_goto (tgt := 1345) hC.1 hC.2.1 dL_law_943 (by decide) ?_
  refine W.widen (k := K + 400) (n := S + 6000) (by omega) (by omega) ?_
  exact kk u1 (Y.1, Y.2.1, σ2) _ _ _ e3 rfl G (lv_sub hl [2, 3, 4, 5, 6] rfl)
set_option maxHeartbeats 4000000 in
set_option maxRecDepth 100000 in
/-- free -/
theorem lc_free {p : Program} {l : Launch} {e : Env} {s : State} {m : MethodId} {below : List Frame} {meth : Method} {c : Code} {Q : State → Prop} {D : va_G} {cy : Nat → ClassId} {lay : Nat → Nat} {o b L i K S m0 ea mi ta : Nat} {ad ac am : Nat → Nat} {xs : Nat → Int32} {u : OU} {Y : RY} {H : Heap} {locs : List Loc} {ls : Array Slot} (hl0 : l.stackTraces = false) (hC : CallFix p m c cL_law 7 s #[Value.ref b] (wsL_law ++ lkL) RL) (hr : meth.sig.returnType = some .boolean) (hT : lwT D cy ea mi ta ad ac am s) (hL : L ≤ 3584) (hX : va_X b L xs s s.heap) (hb : b < s.heap.size) (hi : 7 * i + 7 ≤ L) (hK : K + 400 ≤ 601024) (hS : S + 6000 ≤ 7293034) (hm : Y.1 0 = m0) (I : LI ea u Y) (G : lwG D cy lay o u Y s H locs) (hl : lv_has ls 7 [(4, .int (nI (7 * i))), (0, .ref b), (1, .ref (lay 0)), (2, .ref m0), (3, .ref o)]) (kk : ∀ (u' : OU) (Y' : RY) (H1 : Heap) (locs1 : List Loc) (ls1 : Array Slot), LI ea u' Y' → Y'.1 0 = m0 → lwG D cy lay o u' Y' s H1 locs1 → lv_has ls1 7 [(4, .int (nI (7 * i))), (0, .ref b), (1, .ref (lay 0)), (2, .ref m0), (3, .ref o)] → W p l e room_1 s m #[Value.ref b] below meth c H1 locs1 (K + 400) (S + 6000) Q (F0 m 1345 ls1 [])) : W p l e room_1 s m #[Value.ref b] below meth c H locs K S Q (F0 m 946 ls []) := by
  subst hm
  obtain ⟨T, I⟩ := I
  have I : LIT ea T u Y := I
  obtain ⟨x1, ex1⟩ : ∃ x : Int32, xs (Int32.toNatClampNeg (nI (7 * i) + 1)) = x := ⟨_, rfl⟩
  obtain ⟨x2, ex2⟩ : ∃ x : Int32, xs (Int32.toNatClampNeg (nI (7 * i) + 2)) = x := ⟨_, rfl⟩
  refine lv_aload_n hC.1 hC.2.1 dL_law_946 rfl (lv_at hl 2 rfl) ?_
  refine lv_aload_n hC.1 hC.2.1 dL_law_947 rfl (lv_at hl 1 rfl) ?_
  refine lv_iload hC.1 hC.2.1 dL_law_948 (lv_at hl 0 rfl) ?_
  refine lv_iconst (v := 1) hC.1 hC.2.1 dL_law_950 (by decide) ?_
  refine lv_iadd hC.1 hC.2.1 dL_law_951 ?_
  refine va_sld hC.1 hC.2.1 hX hb (Nat.not_le.mpr hb) G.2.2.2.2.2 (sx hi hL (j := 1) (by decide) rfl) dL_law_952 ?_
  rw [ex1]
  refine lv_aload_n hC.1 hC.2.1 dL_law_953 rfl (lv_at hl 1 rfl) ?_
  refine lv_iload hC.1 hC.2.1 dL_law_954 (lv_at hl 0 rfl) ?_
  refine lv_iconst (v := 2) hC.1 hC.2.1 dL_law_956 (by decide) ?_
  refine lv_iadd hC.1 hC.2.1 dL_law_957 ?_
  refine va_sld hC.1 hC.2.1 hX hb (Nat.not_le.mpr hb) G.2.2.2.2.2 (sx hi hL (j := 2) (by decide) rfl) dL_law_958 ?_
  rw [ex2]
  refine lv_aload_n hC.1 hC.2.1 dL_law_959 rfl (lv_at hl 4 rfl) ?_
  obtain ⟨K0, V0, Z0, P0, B0, W0, T0, hw1, hw2⟩ := sp_free I x1 x2
  refine lw_w (As := [.ref (lay 0), .int x1, .int x2, .ref o]) (rest := []) hC hT G (c_L_free l hl0 D cy lay o (post := fun r u' => cQ K0 V0 Z0 P0 B0 W0 T0 r u') hw1 _) (vx_cwSW 4 hC.2.2.2.2 (gM_s gL_law_L_free) rfl rfl rfl hdS_L_free ⟨Nat.le_of_ble_eq_true rfl, Nat.le_of_ble_eq_true rfl⟩) rfl hl.1 rfl (Nat.le_of_ble_eq_true rfl) dL_law_960 ⟨by show _ ≤ 601024; omega, by show _ ≤ 7293034; omega⟩ (fun r1 u1 H locs h1 G => ?_)
  refine lv_istore (lv' := [(5, .int r1), (4, .int (nI (7 * i))), (0, .ref b), (1, .ref (lay 0)), (2, .ref (Y.1 0)), (3, .ref o)]) hC.1 hC.2.1 dL_law_963 hl (by decide) rfl (fun ls hl => ?_)
  refine lv_aload_n hC.1 hC.2.1 dL_law_965 rfl (lv_at hl 4 rfl) ?_
  refine lv_aload_n hC.1 hC.2.1 dL_law_966 rfl (lv_at hl 2 rfl) ?_
  refine lv_iload hC.1 hC.2.1 dL_law_967 (lv_at hl 1 rfl) ?_
  refine lv_iconst (v := 1) hC.1 hC.2.1 dL_law_969 (by decide) ?_
  refine lv_iadd hC.1 hC.2.1 dL_law_970 ?_
  refine va_sld hC.1 hC.2.1 hX hb (Nat.not_le.mpr hb) G.2.2.2.2.2 (sx hi hL (j := 1) (by decide) rfl) dL_law_971 ?_
  rw [ex1]
  refine lv_aload_n hC.1 hC.2.1 dL_law_972 rfl (lv_at hl 2 rfl) ?_
  refine lv_iload hC.1 hC.2.1 dL_law_973 (lv_at hl 1 rfl) ?_
  refine lv_iconst (v := 2) hC.1 hC.2.1 dL_law_975 (by decide) ?_
  refine lv_iadd hC.1 hC.2.1 dL_law_976 ?_
  refine va_sld hC.1 hC.2.1 hX hb (Nat.not_le.mpr hb) G.2.2.2.2.2 (sx hi hL (j := 2) (by decide) rfl) dL_law_977 ?_
  rw [ex2]
  refine lw_ri (As := [.int x1, .int x2]) (rest := []) hC hT G (c_X11_free l D cy Y.1 Y.2.1 (post := fun r τ => rfQ K0 V0 Z0 P0 B0 W0 ea r (Y.1, Y.2.1, τ) ∧ (r = 0 ∨ r = 1)) hw2 _) (cwV 2 hC.2.2.2.2 (gM_w gL_law_X11_free) rfl rfl rfl hdV_X11_free ⟨Nat.le_of_ble_eq_true rfl, Nat.le_of_ble_eq_true rfl⟩) rfl hl.1 rfl (Nat.le_of_ble_eq_true rfl) dL_law_978 ⟨by show _ ≤ 601024; omega, by show _ ≤ 7293034; omega⟩ (fun r2 σ2 H locs h2 G => ?_)
  refine lv_istore (lv' := [(6, .int r2), (5, .int r1), (4, .int (nI (7 * i))), (0, .ref b), (1, .ref (lay 0)), (2, .ref (Y.1 0)), (3, .ref o)]) hC.1 hC.2.1 dL_law_981 hl (by decide) rfl (fun ls hl => ?_)
  obtain ⟨e1, e2, e3⟩ := qq (Y := (Y.1, Y.2.1, σ2)) h1 h2.1
  refine lv_goto (tgt := 1345) hC.1 hC.2.1 dL_law_983 (by decide) ?_
  refine W.widen (k := K + 400) (n := S + 6000) (by omega) (by omega) ?_
  exact kk u1 (Y.1, Y.2.1, σ2) _ _ _ e3 rfl G (lv_sub hl [2, 3, 4, 5, 6] rfl)
set_option maxHeartbeats 4000000 in
set_option maxRecDepth 100000 in
/-- filling -/
theorem lc_filling {p : Program} {l : Launch} {e : Env} {s : State} {m : MethodId} {below : List Frame} {meth : Method} {c : Code} {Q : State → Prop} {D : va_G} {cy : Nat → ClassId} {lay : Nat → Nat} {o b L i K S m0 ea mi ta : Nat} {ad ac am : Nat → Nat} {xs : Nat → Int32} {u : OU} {Y : RY} {H : Heap} {locs : List Loc} {ls : Array Slot} (hl0 : l.stackTraces = false) (hC : CallFix p m c cL_law 7 s #[Value.ref b] (wsL_law ++ lkL) RL) (hr : meth.sig.returnType = some .boolean) (hT : lwT D cy ea mi ta ad ac am s) (hL : L ≤ 3584) (hX : va_X b L xs s s.heap) (hb : b < s.heap.size) (hi : 7 * i + 7 ≤ L) (hK : K + 400 ≤ 601024) (hS : S + 6000 ≤ 7293034) (hm : Y.1 0 = m0) (I : LI ea u Y) (G : lwG D cy lay o u Y s H locs) (hl : lv_has ls 7 [(4, .int (nI (7 * i))), (0, .ref b), (1, .ref (lay 0)), (2, .ref m0), (3, .ref o)]) (kk : ∀ (u' : OU) (Y' : RY) (H1 : Heap) (locs1 : List Loc) (ls1 : Array Slot), LI ea u' Y' → Y'.1 0 = m0 → lwG D cy lay o u' Y' s H1 locs1 → lv_has ls1 7 [(4, .int (nI (7 * i))), (0, .ref b), (1, .ref (lay 0)), (2, .ref m0), (3, .ref o)] → W p l e room_1 s m #[Value.ref b] below meth c H1 locs1 (K + 400) (S + 6000) Q (F0 m 1345 ls1 [])) : W p l e room_1 s m #[Value.ref b] below meth c H locs K S Q (F0 m 986 ls []) := by
  subst hm
  obtain ⟨T, I⟩ := I
  have I : LIT ea T u Y := I
  obtain ⟨x1, ex1⟩ : ∃ x : Int32, xs (Int32.toNatClampNeg (nI (7 * i) + 1)) = x := ⟨_, rfl⟩
  obtain ⟨x2, ex2⟩ : ∃ x : Int32, xs (Int32.toNatClampNeg (nI (7 * i) + 2)) = x := ⟨_, rfl⟩
  refine lv_aload_n hC.1 hC.2.1 dL_law_986 rfl (lv_at hl 2 rfl) ?_
  refine lv_aload_n hC.1 hC.2.1 dL_law_987 rfl (lv_at hl 1 rfl) ?_
  refine lv_iload hC.1 hC.2.1 dL_law_988 (lv_at hl 0 rfl) ?_
  refine lv_iconst (v := 1) hC.1 hC.2.1 dL_law_990 (by decide) ?_
  refine lv_iadd hC.1 hC.2.1 dL_law_991 ?_
  refine va_sld hC.1 hC.2.1 hX hb (Nat.not_le.mpr hb) G.2.2.2.2.2 (sx hi hL (j := 1) (by decide) rfl) dL_law_992 ?_
  rw [ex1]
  refine lv_aload_n hC.1 hC.2.1 dL_law_993 rfl (lv_at hl 1 rfl) ?_
  refine lv_iload hC.1 hC.2.1 dL_law_994 (lv_at hl 0 rfl) ?_
  refine lv_iconst (v := 2) hC.1 hC.2.1 dL_law_996 (by decide) ?_
  refine lv_iadd hC.1 hC.2.1 dL_law_997 ?_
  refine va_sld hC.1 hC.2.1 hX hb (Nat.not_le.mpr hb) G.2.2.2.2.2 (sx hi hL (j := 2) (by decide) rfl) dL_law_998 ?_
  rw [ex2]
  refine lv_aload_n hC.1 hC.2.1 dL_law_999 rfl (lv_at hl 4 rfl) ?_
  obtain ⟨K0, V0, Z0, P0, B0, W0, T0, hw1, hw2⟩ := sp_filling I x1 x2
  refine lw_w (As := [.ref (lay 0), .int x1, .int x2, .ref o]) (rest := []) hC hT G (c_L_filling l hl0 D cy lay o (post := fun r u' => cQ K0 V0 Z0 P0 B0 W0 T0 r u') hw1 _) (vx_cwSW 4 hC.2.2.2.2 (gM_s gL_law_L_filling) rfl rfl rfl hdS_L_filling ⟨Nat.le_of_ble_eq_true rfl, Nat.le_of_ble_eq_true rfl⟩) rfl hl.1 rfl (Nat.le_of_ble_eq_true rfl) dL_law_1000 ⟨by show _ ≤ 601024; omega, by show _ ≤ 7293034; omega⟩ (fun r1 u1 H locs h1 G => ?_)
  refine lv_istore (lv' := [(5, .int r1), (4, .int (nI (7 * i))), (0, .ref b), (1, .ref (lay 0)), (2, .ref (Y.1 0)), (3, .ref o)]) hC.1 hC.2.1 dL_law_1003 hl (by decide) rfl (fun ls hl => ?_)
  refine lv_aload_n hC.1 hC.2.1 dL_law_1005 rfl (lv_at hl 4 rfl) ?_
  refine lv_aload_n hC.1 hC.2.1 dL_law_1006 rfl (lv_at hl 2 rfl) ?_
  refine lv_iload hC.1 hC.2.1 dL_law_1007 (lv_at hl 1 rfl) ?_
  refine lv_iconst (v := 1) hC.1 hC.2.1 dL_law_1009 (by decide) ?_
  refine lv_iadd hC.1 hC.2.1 dL_law_1010 ?_
  refine va_sld hC.1 hC.2.1 hX hb (Nat.not_le.mpr hb) G.2.2.2.2.2 (sx hi hL (j := 1) (by decide) rfl) dL_law_1011 ?_
  rw [ex1]
  refine lv_aload_n hC.1 hC.2.1 dL_law_1012 rfl (lv_at hl 2 rfl) ?_
  refine lv_iload hC.1 hC.2.1 dL_law_1013 (lv_at hl 1 rfl) ?_
  refine lv_iconst (v := 2) hC.1 hC.2.1 dL_law_1015 (by decide) ?_
  refine lv_iadd hC.1 hC.2.1 dL_law_1016 ?_
  refine va_sld hC.1 hC.2.1 hX hb (Nat.not_le.mpr hb) G.2.2.2.2.2 (sx hi hL (j := 2) (by decide) rfl) dL_law_1017 ?_
  rw [ex2]
  refine lw_ri (As := [.int x1, .int x2]) (rest := []) hC hT G (c_X11_filling l D cy Y.1 Y.2.1 (post := fun r τ => rfQ K0 V0 Z0 P0 B0 W0 ea r (Y.1, Y.2.1, τ)) hw2 _) (cwV 2 hC.2.2.2.2 (gM_w gL_law_X11_filling) rfl rfl rfl hdV_X11_filling ⟨Nat.le_of_ble_eq_true rfl, Nat.le_of_ble_eq_true rfl⟩) rfl hl.1 rfl (Nat.le_of_ble_eq_true rfl) dL_law_1018 ⟨by show _ ≤ 601024; omega, by show _ ≤ 7293034; omega⟩ (fun r2 σ2 H locs h2 G => ?_)
  refine lv_istore (lv' := [(6, .int r2), (5, .int r1), (4, .int (nI (7 * i))), (0, .ref b), (1, .ref (lay 0)), (2, .ref (Y.1 0)), (3, .ref o)]) hC.1 hC.2.1 dL_law_1021 hl (by decide) rfl (fun ls hl => ?_)
  obtain ⟨e1, e2, e3⟩ := qq (Y := (Y.1, Y.2.1, σ2)) h1 h2
  refine lv_goto (tgt := 1345) hC.1 hC.2.1 dL_law_1023 (by decide) ?_
  refine W.widen (k := K + 400) (n := S + 6000) (by omega) (by omega) ?_
  exact kk u1 (Y.1, Y.2.1, σ2) _ _ _ e3 rfl G (lv_sub hl [2, 3, 4, 5, 6] rfl)
set_option maxHeartbeats 4000000 in
set_option maxRecDepth 100000 in
/-- set -/
theorem lc_set {p : Program} {l : Launch} {e : Env} {s : State} {m : MethodId} {below : List Frame} {meth : Method} {c : Code} {Q : State → Prop} {D : va_G} {cy : Nat → ClassId} {lay : Nat → Nat} {o b L i K S m0 ea mi ta : Nat} {ad ac am : Nat → Nat} {xs : Nat → Int32} {u : OU} {Y : RY} {H : Heap} {locs : List Loc} {ls : Array Slot} (hl0 : l.stackTraces = false) (hC : CallFix p m c cL_law 7 s #[Value.ref b] (wsL_law ++ lkL) RL) (hr : meth.sig.returnType = some .boolean) (hT : lwT D cy ea mi ta ad ac am s) (hL : L ≤ 3584) (hX : va_X b L xs s s.heap) (hb : b < s.heap.size) (hi : 7 * i + 7 ≤ L) (hK : K + 400 ≤ 601024) (hS : S + 6000 ≤ 7293034) (hm : Y.1 0 = m0) (I : LI ea u Y) (G : lwG D cy lay o u Y s H locs) (hl : lv_has ls 7 [(4, .int (nI (7 * i))), (0, .ref b), (1, .ref (lay 0)), (2, .ref m0), (3, .ref o)]) (kk : ∀ (u' : OU) (Y' : RY) (H1 : Heap) (locs1 : List Loc) (ls1 : Array Slot), LI ea u' Y' → Y'.1 0 = m0 → lwG D cy lay o u' Y' s H1 locs1 → lv_has ls1 7 [(4, .int (nI (7 * i))), (0, .ref b), (1, .ref (lay 0)), (2, .ref m0), (3, .ref o)] → W p l e room_1 s m #[Value.ref b] below meth c H1 locs1 (K + 400) (S + 6000) Q (F0 m 1345 ls1 [])) : W p l e room_1 s m #[Value.ref b] below meth c H locs K S Q (F0 m 1026 ls []) := by
  subst hm
  obtain ⟨T, I⟩ := I
  have I : LIT ea T u Y := I
  obtain ⟨x1, ex1⟩ : ∃ x : Int32, xs (Int32.toNatClampNeg (nI (7 * i) + 1)) = x := ⟨_, rfl⟩
  obtain ⟨x2, ex2⟩ : ∃ x : Int32, xs (Int32.toNatClampNeg (nI (7 * i) + 2)) = x := ⟨_, rfl⟩
  refine lv_aload_n hC.1 hC.2.1 dL_law_1026 rfl (lv_at hl 2 rfl) ?_
  refine lv_aload_n hC.1 hC.2.1 dL_law_1027 rfl (lv_at hl 1 rfl) ?_
  refine lv_iload hC.1 hC.2.1 dL_law_1028 (lv_at hl 0 rfl) ?_
  refine lv_iconst (v := 1) hC.1 hC.2.1 dL_law_1030 (by decide) ?_
  refine lv_iadd hC.1 hC.2.1 dL_law_1031 ?_
  refine va_sld hC.1 hC.2.1 hX hb (Nat.not_le.mpr hb) G.2.2.2.2.2 (sx hi hL (j := 1) (by decide) rfl) dL_law_1032 ?_
  rw [ex1]
  refine lv_aload_n hC.1 hC.2.1 dL_law_1033 rfl (lv_at hl 1 rfl) ?_
  refine lv_iload hC.1 hC.2.1 dL_law_1034 (lv_at hl 0 rfl) ?_
  refine lv_iconst (v := 2) hC.1 hC.2.1 dL_law_1036 (by decide) ?_
  refine lv_iadd hC.1 hC.2.1 dL_law_1037 ?_
  refine va_sld hC.1 hC.2.1 hX hb (Nat.not_le.mpr hb) G.2.2.2.2.2 (sx hi hL (j := 2) (by decide) rfl) dL_law_1038 ?_
  rw [ex2]
  have goz0 : ∀ z0 : Int32, z0 = (if x2 = 0 then (0 : Int32) else 1) → W p l e room_1 s m #[Value.ref b] below meth c H locs K S Q (F0 m 1047 ls [.int z0, .int x1, .ref (lay 0)]) := fun z0 hz0 => ?_
  · exact lv_if_eq (tgt := 1046) hC.1 hC.2.1 dL_law_1039 (by decide) (fun cz => lv_iconst (v := 0) hC.1 hC.2.1 dL_law_1046 (by decide) (goz0 0 (by rw [if_pos cz]))) (fun cz => lv_iconst (v := 1) hC.1 hC.2.1 dL_law_1042 (by decide) (lv_goto (tgt := 1047) hC.1 hC.2.1 dL_law_1043 (by decide) (goz0 1 (by rw [if_neg cz]))))
  refine lv_aload_n hC.1 hC.2.1 dL_law_1047 rfl (lv_at hl 4 rfl) ?_
  obtain ⟨K0, V0, Z0, P0, B0, W0, T0, hw1, hw2⟩ := sp_set I x1 z0
  refine lw_w (As := [.ref (lay 0), .int x1, .int z0, .ref o]) (rest := []) hC hT G (c_L_set l hl0 D cy lay o (post := fun r u' => cQ K0 V0 Z0 P0 B0 W0 T0 r u') hw1 _) (vx_cwSW 4 hC.2.2.2.2 (gM_s gL_law_L_set) rfl rfl rfl hdS_L_set ⟨Nat.le_of_ble_eq_true rfl, Nat.le_of_ble_eq_true rfl⟩) rfl hl.1 rfl (Nat.le_of_ble_eq_true rfl) dL_law_1048 ⟨by show _ ≤ 601024; omega, by show _ ≤ 7293034; omega⟩ (fun r1 u1 H locs h1 G => ?_)
  refine lv_istore (lv' := [(5, .int r1), (4, .int (nI (7 * i))), (0, .ref b), (1, .ref (lay 0)), (2, .ref (Y.1 0)), (3, .ref o)]) hC.1 hC.2.1 dL_law_1051 hl (by decide) rfl (fun ls hl => ?_)
  refine lv_aload_n hC.1 hC.2.1 dL_law_1053 rfl (lv_at hl 4 rfl) ?_
  refine lv_aload_n hC.1 hC.2.1 dL_law_1054 rfl (lv_at hl 2 rfl) ?_
  refine lv_iload hC.1 hC.2.1 dL_law_1055 (lv_at hl 1 rfl) ?_
  refine lv_iconst (v := 1) hC.1 hC.2.1 dL_law_1057 (by decide) ?_
  refine lv_iadd hC.1 hC.2.1 dL_law_1058 ?_
  refine va_sld hC.1 hC.2.1 hX hb (Nat.not_le.mpr hb) G.2.2.2.2.2 (sx hi hL (j := 1) (by decide) rfl) dL_law_1059 ?_
  rw [ex1]
  refine lv_aload_n hC.1 hC.2.1 dL_law_1060 rfl (lv_at hl 2 rfl) ?_
  refine lv_iload hC.1 hC.2.1 dL_law_1061 (lv_at hl 1 rfl) ?_
  refine lv_iconst (v := 2) hC.1 hC.2.1 dL_law_1063 (by decide) ?_
  refine lv_iadd hC.1 hC.2.1 dL_law_1064 ?_
  refine va_sld hC.1 hC.2.1 hX hb (Nat.not_le.mpr hb) G.2.2.2.2.2 (sx hi hL (j := 2) (by decide) rfl) dL_law_1065 ?_
  rw [ex2]
  have goz1 : ∀ z1 : Int32, z1 = (if x2 = 0 then (0 : Int32) else 1) → W p l e room_1 s m #[Value.ref b] below meth c H locs (K + 1) (S + 6) Q (F0 m 1074 ls [.int z1, .int x1, .ref (Y.1 0)]) := fun z1 hz1 => ?_
  · exact lv_if_eq (tgt := 1073) hC.1 hC.2.1 dL_law_1066 (by decide) (fun cz => lv_iconst (v := 0) hC.1 hC.2.1 dL_law_1073 (by decide) (goz1 0 (by rw [if_pos cz]))) (fun cz => lv_iconst (v := 1) hC.1 hC.2.1 dL_law_1069 (by decide) (lv_goto (tgt := 1074) hC.1 hC.2.1 dL_law_1070 (by decide) (goz1 1 (by rw [if_neg cz]))))
  rw [show z1 = z0 from hz1.trans hz0.symm]
  refine lw_ri (As := [.int x1, .int z0]) (rest := []) hC hT G (c_X11_set l D cy Y.1 Y.2.1 (post := fun r τ => rfQ K0 V0 Z0 P0 B0 W0 ea r (Y.1, Y.2.1, τ)) hw2 _) (cwV 2 hC.2.2.2.2 (gM_w gL_law_X11_set) rfl rfl rfl hdV_X11_set ⟨Nat.le_of_ble_eq_true rfl, Nat.le_of_ble_eq_true rfl⟩) rfl hl.1 rfl (Nat.le_of_ble_eq_true rfl) dL_law_1074 ⟨by show _ ≤ 601024; omega, by show _ ≤ 7293034; omega⟩ (fun r2 σ2 H locs h2 G => ?_)
  refine lv_istore (lv' := [(6, .int r2), (5, .int r1), (4, .int (nI (7 * i))), (0, .ref b), (1, .ref (lay 0)), (2, .ref (Y.1 0)), (3, .ref o)]) hC.1 hC.2.1 dL_law_1077 hl (by decide) rfl (fun ls hl => ?_)
  obtain ⟨e1, e2, e3⟩ := qq (Y := (Y.1, Y.2.1, σ2)) h1 h2
  refine lv_goto (tgt := 1345) hC.1 hC.2.1 dL_law_1079 (by decide) ?_
  refine W.widen (k := K + 400) (n := S + 6000) (by omega) (by omega) ?_
  exact kk u1 (Y.1, Y.2.1, σ2) _ _ _ e3 rfl G (lv_sub hl [2, 3, 4, 5, 6] rfl)
set_option maxHeartbeats 4000000 in
set_option maxRecDepth 100000 in
/-- songs -/
theorem lc_songs {p : Program} {l : Launch} {e : Env} {s : State} {m : MethodId} {below : List Frame} {meth : Method} {c : Code} {Q : State → Prop} {D : va_G} {cy : Nat → ClassId} {lay : Nat → Nat} {o b L i K S m0 ea mi ta : Nat} {ad ac am : Nat → Nat} {xs : Nat → Int32} {u : OU} {Y : RY} {H : Heap} {locs : List Loc} {ls : Array Slot} (hl0 : l.stackTraces = false) (hC : CallFix p m c cL_law 7 s #[Value.ref b] (wsL_law ++ lkL) RL) (hr : meth.sig.returnType = some .boolean) (hT : lwT D cy ea mi ta ad ac am s) (hL : L ≤ 3584) (hX : va_X b L xs s s.heap) (hb : b < s.heap.size) (hi : 7 * i + 7 ≤ L) (hK : K + 400 ≤ 601024) (hS : S + 6000 ≤ 7293034) (hm : Y.1 0 = m0) (I : LI ea u Y) (G : lwG D cy lay o u Y s H locs) (hl : lv_has ls 7 [(4, .int (nI (7 * i))), (0, .ref b), (1, .ref (lay 0)), (2, .ref m0), (3, .ref o)]) (kk : ∀ (u' : OU) (Y' : RY) (H1 : Heap) (locs1 : List Loc) (ls1 : Array Slot), LI ea u' Y' → Y'.1 0 = m0 → lwG D cy lay o u' Y' s H1 locs1 → lv_has ls1 7 [(4, .int (nI (7 * i))), (0, .ref b), (1, .ref (lay 0)), (2, .ref m0), (3, .ref o)] → W p l e room_1 s m #[Value.ref b] below meth c H1 locs1 (K + 400) (S + 6000) Q (F0 m 1345 ls1 [])) : W p l e room_1 s m #[Value.ref b] below meth c H locs K S Q (F0 m 1082 ls []) := by
  subst hm
  obtain ⟨T, I⟩ := I
  have I : LIT ea T u Y := I
  obtain ⟨x1, ex1⟩ : ∃ x : Int32, xs (Int32.toNatClampNeg (nI (7 * i) + 1)) = x := ⟨_, rfl⟩
  refine lv_aload_n hC.1 hC.2.1 dL_law_1082 rfl (lv_at hl 2 rfl) ?_
  refine lv_aload_n hC.1 hC.2.1 dL_law_1083 rfl (lv_at hl 1 rfl) ?_
  refine lv_iload hC.1 hC.2.1 dL_law_1084 (lv_at hl 0 rfl) ?_
  refine lv_iconst (v := 1) hC.1 hC.2.1 dL_law_1086 (by decide) ?_
  refine lv_iadd hC.1 hC.2.1 dL_law_1087 ?_
  refine va_sld hC.1 hC.2.1 hX hb (Nat.not_le.mpr hb) G.2.2.2.2.2 (sx hi hL (j := 1) (by decide) rfl) dL_law_1088 ?_
  rw [ex1]
  refine lv_aload_n hC.1 hC.2.1 dL_law_1089 rfl (lv_at hl 4 rfl) ?_
  refine lw_wK (As := [.ref (lay 0), .int x1, .ref o]) (rest := []) hC hT G (c_L_songs l hl0 D cy lay o ac (post := fun _ u' => Scr u.1 u'.1) (sp_songs I x1) _) (vx_cwSW 3 hC.2.2.2.2 (gM_s gL_law_L_songs) rfl rfl rfl hdS_L_songs ⟨Nat.le_of_ble_eq_true rfl, Nat.le_of_ble_eq_true rfl⟩) rfl hl.1 rfl (Nat.le_of_ble_eq_true rfl) dL_law_1090 ⟨by show _ ≤ 601024; omega, by show _ ≤ 7293034; omega⟩ (fun r1 u1 H locs h1 G => ?_)
  refine lv_istore (lv' := [(5, .int r1), (4, .int (nI (7 * i))), (0, .ref b), (1, .ref (lay 0)), (2, .ref (Y.1 0)), (3, .ref o)]) hC.1 hC.2.1 dL_law_1093 hl (by decide) rfl (fun ls hl => ?_)
  refine lv_aload_n hC.1 hC.2.1 dL_law_1095 rfl (lv_at hl 4 rfl) ?_
  refine lv_aload_n hC.1 hC.2.1 dL_law_1096 rfl (lv_at hl 2 rfl) ?_
  refine lv_iload hC.1 hC.2.1 dL_law_1097 (lv_at hl 1 rfl) ?_
  refine lv_iconst (v := 1) hC.1 hC.2.1 dL_law_1099 (by decide) ?_
  refine lv_iadd hC.1 hC.2.1 dL_law_1100 ?_
  refine va_sld hC.1 hC.2.1 hX hb (Nat.not_le.mpr hb) G.2.2.2.2.2 (sx hi hL (j := 1) (by decide) rfl) dL_law_1101 ?_
  rw [ex1]
  refine lw_rt (As := [.int x1]) (rest := []) hC hT G (c_X11_songs l D cy Y.1 Y.2.1 am (post := fun τ => rOk (tR u.1) Y.2.1 τ) (sf_songs I.ro (fun _ hτ => hτ)) _) (cwV 1 hC.2.2.2.2 (gM_w gL_law_X11_songs) rfl rfl rfl hdV_X11_songs ⟨Nat.le_of_ble_eq_true rfl, Nat.le_of_ble_eq_true rfl⟩) rfl hl.1 rfl (Nat.le_of_ble_eq_true rfl) dL_law_1102 ⟨by show _ ≤ 601024; omega, by show _ ≤ 7293034; omega⟩ (fun ra σ2 H locs h2 G => ?_)
  refine lv_astore (lv' := [(6, .ref ra), (5, .int r1), (4, .int (nI (7 * i))), (0, .ref b), (1, .ref (lay 0)), (2, .ref (Y.1 0)), (3, .ref o)]) hC.1 hC.2.1 dL_law_1105 hl (by decide) rfl (fun ls hl => ?_)
  refine lv_goto (tgt := 1345) hC.1 hC.2.1 dL_law_1107 (by decide) ?_
  refine W.widen (k := K + 400) (n := S + 6000) (by omega) (by omega) ?_
  exact kk u1 (Y.1, Y.2.1, σ2) _ _ _ (LIT.same (u := u) (u' := u1) I h1 h2) rfl G (lv_sub hl [2, 3, 4, 5, 6] rfl)
set_option maxHeartbeats 4000000 in
set_option maxRecDepth 100000 in
/-- desk -/
theorem lc_desk {p : Program} {l : Launch} {e : Env} {s : State} {m : MethodId} {below : List Frame} {meth : Method} {c : Code} {Q : State → Prop} {D : va_G} {cy : Nat → ClassId} {lay : Nat → Nat} {o b L i K S m0 ea mi ta : Nat} {ad ac am : Nat → Nat} {xs : Nat → Int32} {u : OU} {Y : RY} {H : Heap} {locs : List Loc} {ls : Array Slot} (hl0 : l.stackTraces = false) (hC : CallFix p m c cL_law 7 s #[Value.ref b] (wsL_law ++ lkL) RL) (hr : meth.sig.returnType = some .boolean) (hT : lwT D cy ea mi ta ad ac am s) (hL : L ≤ 3584) (hX : va_X b L xs s s.heap) (hb : b < s.heap.size) (hi : 7 * i + 7 ≤ L) (hK : K + 400 ≤ 601024) (hS : S + 6000 ≤ 7293034) (hm : Y.1 0 = m0) (I : LI ea u Y) (G : lwG D cy lay o u Y s H locs) (hl : lv_has ls 7 [(4, .int (nI (7 * i))), (0, .ref b), (1, .ref (lay 0)), (2, .ref m0), (3, .ref o)]) (kk : ∀ (u' : OU) (Y' : RY) (H1 : Heap) (locs1 : List Loc) (ls1 : Array Slot), LI ea u' Y' → Y'.1 0 = m0 → lwG D cy lay o u' Y' s H1 locs1 → lv_has ls1 7 [(4, .int (nI (7 * i))), (0, .ref b), (1, .ref (lay 0)), (2, .ref m0), (3, .ref o)] → W p l e room_1 s m #[Value.ref b] below meth c H1 locs1 (K + 400) (S + 6000) Q (F0 m 1345 ls1 [])) : W p l e room_1 s m #[Value.ref b] below meth c H locs K S Q (F0 m 1110 ls []) := by
  subst hm
  obtain ⟨T, I⟩ := I
  have I : LIT ea T u Y := I
  obtain ⟨x1, ex1⟩ : ∃ x : Int32, xs (Int32.toNatClampNeg (nI (7 * i) + 1)) = x := ⟨_, rfl⟩
  refine lv_aload_n hC.1 hC.2.1 dL_law_1110 rfl (lv_at hl 2 rfl) ?_
  refine lv_aload_n hC.1 hC.2.1 dL_law_1111 rfl (lv_at hl 1 rfl) ?_
  refine lv_iload hC.1 hC.2.1 dL_law_1112 (lv_at hl 0 rfl) ?_
  refine lv_iconst (v := 1) hC.1 hC.2.1 dL_law_1114 (by decide) ?_
  refine lv_iadd hC.1 hC.2.1 dL_law_1115 ?_
  refine va_sld hC.1 hC.2.1 hX hb (Nat.not_le.mpr hb) G.2.2.2.2.2 (sx hi hL (j := 1) (by decide) rfl) dL_law_1116 ?_
  rw [ex1]
  refine lv_aload_n hC.1 hC.2.1 dL_law_1117 rfl (lv_at hl 4 rfl) ?_
  obtain ⟨K0, V0, Z0, P0, B0, W0, T0, hw1, hw2⟩ := sp_desk I x1
  refine lw_w (As := [.ref (lay 0), .int x1, .ref o]) (rest := []) hC hT G (c_L_desk l hl0 D cy lay o (post := fun r u' => cQ K0 V0 Z0 P0 B0 W0 T0 r u') hw1 _) (vx_cwSW 3 hC.2.2.2.2 (gM_s gL_law_L_desk) rfl rfl rfl hdS_L_desk ⟨Nat.le_of_ble_eq_true rfl, Nat.le_of_ble_eq_true rfl⟩) rfl hl.1 rfl (Nat.le_of_ble_eq_true rfl) dL_law_1118 ⟨by show _ ≤ 601024; omega, by show _ ≤ 7293034; omega⟩ (fun r1 u1 H locs h1 G => ?_)
  refine lv_istore (lv' := [(5, .int r1), (4, .int (nI (7 * i))), (0, .ref b), (1, .ref (lay 0)), (2, .ref (Y.1 0)), (3, .ref o)]) hC.1 hC.2.1 dL_law_1121 hl (by decide) rfl (fun ls hl => ?_)
  refine lv_aload_n hC.1 hC.2.1 dL_law_1123 rfl (lv_at hl 4 rfl) ?_
  refine lv_aload_n hC.1 hC.2.1 dL_law_1124 rfl (lv_at hl 2 rfl) ?_
  refine lv_iload hC.1 hC.2.1 dL_law_1125 (lv_at hl 1 rfl) ?_
  refine lv_iconst (v := 1) hC.1 hC.2.1 dL_law_1127 (by decide) ?_
  refine lv_iadd hC.1 hC.2.1 dL_law_1128 ?_
  refine va_sld hC.1 hC.2.1 hX hb (Nat.not_le.mpr hb) G.2.2.2.2.2 (sx hi hL (j := 1) (by decide) rfl) dL_law_1129 ?_
  rw [ex1]
  refine lw_ri (As := [.int x1]) (rest := []) hC hT G (c_X11_desk l D cy Y.1 Y.2.1 (post := fun r τ => rfQ K0 V0 Z0 P0 B0 W0 ea r (Y.1, Y.2.1, τ)) hw2 _) (cwV 1 hC.2.2.2.2 (gM_w gL_law_X11_desk) rfl rfl rfl hdV_X11_desk ⟨Nat.le_of_ble_eq_true rfl, Nat.le_of_ble_eq_true rfl⟩) rfl hl.1 rfl (Nat.le_of_ble_eq_true rfl) dL_law_1130 ⟨by show _ ≤ 601024; omega, by show _ ≤ 7293034; omega⟩ (fun r2 σ2 H locs h2 G => ?_)
  refine lv_istore (lv' := [(6, .int r2), (5, .int r1), (4, .int (nI (7 * i))), (0, .ref b), (1, .ref (lay 0)), (2, .ref (Y.1 0)), (3, .ref o)]) hC.1 hC.2.1 dL_law_1133 hl (by decide) rfl (fun ls hl => ?_)
  obtain ⟨e1, e2, e3⟩ := qq (Y := (Y.1, Y.2.1, σ2)) h1 h2
  refine lv_goto (tgt := 1345) hC.1 hC.2.1 dL_law_1135 (by decide) ?_
  refine W.widen (k := K + 400) (n := S + 6000) (by omega) (by omega) ?_
  exact kk u1 (Y.1, Y.2.1, σ2) _ _ _ e3 rfl G (lv_sub hl [2, 3, 4, 5, 6] rfl)
set_option maxHeartbeats 4000000 in
set_option maxRecDepth 100000 in
/-- tell -/
theorem lc_tell {p : Program} {l : Launch} {e : Env} {s : State} {m : MethodId} {below : List Frame} {meth : Method} {c : Code} {Q : State → Prop} {D : va_G} {cy : Nat → ClassId} {lay : Nat → Nat} {o b L i K S m0 ea mi ta : Nat} {ad ac am : Nat → Nat} {xs : Nat → Int32} {u : OU} {Y : RY} {H : Heap} {locs : List Loc} {ls : Array Slot} (hl0 : l.stackTraces = false) (hC : CallFix p m c cL_law 7 s #[Value.ref b] (wsL_law ++ lkL) RL) (hr : meth.sig.returnType = some .boolean) (hT : lwT D cy ea mi ta ad ac am s) (hL : L ≤ 3584) (hX : va_X b L xs s s.heap) (hb : b < s.heap.size) (hi : 7 * i + 7 ≤ L) (hK : K + 400 ≤ 601024) (hS : S + 6000 ≤ 7293034) (hm : Y.1 0 = m0) (I : LI ea u Y) (G : lwG D cy lay o u Y s H locs) (hl : lv_has ls 7 [(4, .int (nI (7 * i))), (0, .ref b), (1, .ref (lay 0)), (2, .ref m0), (3, .ref o)]) (kk : ∀ (u' : OU) (Y' : RY) (H1 : Heap) (locs1 : List Loc) (ls1 : Array Slot), LI ea u' Y' → Y'.1 0 = m0 → lwG D cy lay o u' Y' s H1 locs1 → lv_has ls1 7 [(4, .int (nI (7 * i))), (0, .ref b), (1, .ref (lay 0)), (2, .ref m0), (3, .ref o)] → W p l e room_1 s m #[Value.ref b] below meth c H1 locs1 (K + 400) (S + 6000) Q (F0 m 1345 ls1 [])) : W p l e room_1 s m #[Value.ref b] below meth c H locs K S Q (F0 m 1138 ls []) := by
  subst hm
  obtain ⟨T, I⟩ := I
  have I : LIT ea T u Y := I
  obtain ⟨x1, ex1⟩ : ∃ x : Int32, xs (Int32.toNatClampNeg (nI (7 * i) + 1)) = x := ⟨_, rfl⟩
  refine lv_aload_n hC.1 hC.2.1 dL_law_1138 rfl (lv_at hl 2 rfl) ?_
  refine lv_aload_n hC.1 hC.2.1 dL_law_1139 rfl (lv_at hl 1 rfl) ?_
  refine lv_iload hC.1 hC.2.1 dL_law_1140 (lv_at hl 0 rfl) ?_
  refine lv_iconst (v := 1) hC.1 hC.2.1 dL_law_1142 (by decide) ?_
  refine lv_iadd hC.1 hC.2.1 dL_law_1143 ?_
  refine va_sld hC.1 hC.2.1 hX hb (Nat.not_le.mpr hb) G.2.2.2.2.2 (sx hi hL (j := 1) (by decide) rfl) dL_law_1144 ?_
  rw [ex1]
  refine lv_aload_n hC.1 hC.2.1 dL_law_1145 rfl (lv_at hl 4 rfl) ?_
  refine lw_wK (As := [.ref (lay 0), .int x1, .ref o]) (rest := []) hC hT G (c_L_tell l hl0 D cy lay o ac (post := fun _ u' => Scr u.1 u'.1) (sp_tell I x1) _) (vx_cwSW 3 hC.2.2.2.2 (gM_s gL_law_L_tell) rfl rfl rfl hdS_L_tell ⟨Nat.le_of_ble_eq_true rfl, Nat.le_of_ble_eq_true rfl⟩) rfl hl.1 rfl (Nat.le_of_ble_eq_true rfl) dL_law_1146 ⟨by show _ ≤ 601024; omega, by show _ ≤ 7293034; omega⟩ (fun r1 u1 H locs h1 G => ?_)
  refine lv_istore (lv' := [(5, .int r1), (4, .int (nI (7 * i))), (0, .ref b), (1, .ref (lay 0)), (2, .ref (Y.1 0)), (3, .ref o)]) hC.1 hC.2.1 dL_law_1149 hl (by decide) rfl (fun ls hl => ?_)
  refine lv_aload_n hC.1 hC.2.1 dL_law_1151 rfl (lv_at hl 4 rfl) ?_
  refine lv_aload_n hC.1 hC.2.1 dL_law_1152 rfl (lv_at hl 2 rfl) ?_
  refine lv_iload hC.1 hC.2.1 dL_law_1153 (lv_at hl 1 rfl) ?_
  refine lv_iconst (v := 1) hC.1 hC.2.1 dL_law_1155 (by decide) ?_
  refine lv_iadd hC.1 hC.2.1 dL_law_1156 ?_
  refine va_sld hC.1 hC.2.1 hX hb (Nat.not_le.mpr hb) G.2.2.2.2.2 (sx hi hL (j := 1) (by decide) rfl) dL_law_1157 ?_
  rw [ex1]
  refine lw_rt (As := [.int x1]) (rest := []) hC hT G (c_X11_tell l D cy Y.1 Y.2.1 am (post := fun τ => rOk (tR u.1) Y.2.1 τ) (sf_tell I.ro (fun _ hτ => hτ)) _) (cwV 1 hC.2.2.2.2 (gM_w gL_law_X11_tell) rfl rfl rfl hdV_X11_tell ⟨Nat.le_of_ble_eq_true rfl, Nat.le_of_ble_eq_true rfl⟩) rfl hl.1 rfl (Nat.le_of_ble_eq_true rfl) dL_law_1158 ⟨by show _ ≤ 601024; omega, by show _ ≤ 7293034; omega⟩ (fun ra σ2 H locs h2 G => ?_)
  refine lv_astore (lv' := [(6, .ref ra), (5, .int r1), (4, .int (nI (7 * i))), (0, .ref b), (1, .ref (lay 0)), (2, .ref (Y.1 0)), (3, .ref o)]) hC.1 hC.2.1 dL_law_1161 hl (by decide) rfl (fun ls hl => ?_)
  refine lv_goto (tgt := 1345) hC.1 hC.2.1 dL_law_1163 (by decide) ?_
  refine W.widen (k := K + 400) (n := S + 6000) (by omega) (by omega) ?_
  exact kk u1 (Y.1, Y.2.1, σ2) _ _ _ (LIT.same (u := u) (u' := u1) I h1 h2) rfl G (lv_sub hl [2, 3, 4, 5, 6] rfl)
set_option maxHeartbeats 4000000 in
set_option maxRecDepth 100000 in
/-- wouldLose -/
theorem lc_wouldLose {p : Program} {l : Launch} {e : Env} {s : State} {m : MethodId} {below : List Frame} {meth : Method} {c : Code} {Q : State → Prop} {D : va_G} {cy : Nat → ClassId} {lay : Nat → Nat} {o b L i K S m0 ea mi ta : Nat} {ad ac am : Nat → Nat} {xs : Nat → Int32} {u : OU} {Y : RY} {H : Heap} {locs : List Loc} {ls : Array Slot} (hl0 : l.stackTraces = false) (hC : CallFix p m c cL_law 7 s #[Value.ref b] (wsL_law ++ lkL) RL) (hr : meth.sig.returnType = some .boolean) (hT : lwT D cy ea mi ta ad ac am s) (hL : L ≤ 3584) (hX : va_X b L xs s s.heap) (hb : b < s.heap.size) (hi : 7 * i + 7 ≤ L) (hK : K + 400 ≤ 601024) (hS : S + 6000 ≤ 7293034) (hm : Y.1 0 = m0) (I : LI ea u Y) (G : lwG D cy lay o u Y s H locs) (hl : lv_has ls 7 [(4, .int (nI (7 * i))), (0, .ref b), (1, .ref (lay 0)), (2, .ref m0), (3, .ref o)]) (kk : ∀ (u' : OU) (Y' : RY) (H1 : Heap) (locs1 : List Loc) (ls1 : Array Slot), LI ea u' Y' → Y'.1 0 = m0 → lwG D cy lay o u' Y' s H1 locs1 → lv_has ls1 7 [(4, .int (nI (7 * i))), (0, .ref b), (1, .ref (lay 0)), (2, .ref m0), (3, .ref o)] → W p l e room_1 s m #[Value.ref b] below meth c H1 locs1 (K + 400) (S + 6000) Q (F0 m 1345 ls1 [])) : W p l e room_1 s m #[Value.ref b] below meth c H locs K S Q (F0 m 1166 ls []) := by
  subst hm
  obtain ⟨T, I⟩ := I
  have I : LIT ea T u Y := I
  obtain ⟨x1, ex1⟩ : ∃ x : Int32, xs (Int32.toNatClampNeg (nI (7 * i) + 1)) = x := ⟨_, rfl⟩
  obtain ⟨x2, ex2⟩ : ∃ x : Int32, xs (Int32.toNatClampNeg (nI (7 * i) + 2)) = x := ⟨_, rfl⟩
  refine lv_aload_n hC.1 hC.2.1 dL_law_1166 rfl (lv_at hl 2 rfl) ?_
  refine lv_aload_n hC.1 hC.2.1 dL_law_1167 rfl (lv_at hl 1 rfl) ?_
  refine lv_iload hC.1 hC.2.1 dL_law_1168 (lv_at hl 0 rfl) ?_
  refine lv_iconst (v := 1) hC.1 hC.2.1 dL_law_1170 (by decide) ?_
  refine lv_iadd hC.1 hC.2.1 dL_law_1171 ?_
  refine va_sld hC.1 hC.2.1 hX hb (Nat.not_le.mpr hb) G.2.2.2.2.2 (sx hi hL (j := 1) (by decide) rfl) dL_law_1172 ?_
  rw [ex1]
  refine lv_aload_n hC.1 hC.2.1 dL_law_1173 rfl (lv_at hl 1 rfl) ?_
  refine lv_iload hC.1 hC.2.1 dL_law_1174 (lv_at hl 0 rfl) ?_
  refine lv_iconst (v := 2) hC.1 hC.2.1 dL_law_1176 (by decide) ?_
  refine lv_iadd hC.1 hC.2.1 dL_law_1177 ?_
  refine va_sld hC.1 hC.2.1 hX hb (Nat.not_le.mpr hb) G.2.2.2.2.2 (sx hi hL (j := 2) (by decide) rfl) dL_law_1178 ?_
  rw [ex2]
  refine lv_aload_n hC.1 hC.2.1 dL_law_1179 rfl (lv_at hl 4 rfl) ?_
  obtain ⟨K0, V0, Z0, P0, B0, W0, T0, hw1, hw2⟩ := sp_wouldLose I x1 x2
  refine lw_w (As := [.ref (lay 0), .int x1, .int x2, .ref o]) (rest := []) hC hT G (c_L_wouldLose l hl0 D cy lay o (post := fun r u' => cQ K0 V0 Z0 P0 B0 W0 T0 r u') hw1 _) (vx_cwSW 4 hC.2.2.2.2 (gM_s gL_law_L_wouldLose) rfl rfl rfl hdS_L_wouldLose ⟨Nat.le_of_ble_eq_true rfl, Nat.le_of_ble_eq_true rfl⟩) rfl hl.1 rfl (Nat.le_of_ble_eq_true rfl) dL_law_1180 ⟨by show _ ≤ 601024; omega, by show _ ≤ 7293034; omega⟩ (fun r1 u1 H locs h1 G => ?_)
  refine lv_istore (lv' := [(5, .int r1), (4, .int (nI (7 * i))), (0, .ref b), (1, .ref (lay 0)), (2, .ref (Y.1 0)), (3, .ref o)]) hC.1 hC.2.1 dL_law_1183 hl (by decide) rfl (fun ls hl => ?_)
  refine lv_aload_n hC.1 hC.2.1 dL_law_1185 rfl (lv_at hl 4 rfl) ?_
  refine lv_aload_n hC.1 hC.2.1 dL_law_1186 rfl (lv_at hl 2 rfl) ?_
  refine lv_iload hC.1 hC.2.1 dL_law_1187 (lv_at hl 1 rfl) ?_
  refine lv_iconst (v := 1) hC.1 hC.2.1 dL_law_1189 (by decide) ?_
  refine lv_iadd hC.1 hC.2.1 dL_law_1190 ?_
  refine va_sld hC.1 hC.2.1 hX hb (Nat.not_le.mpr hb) G.2.2.2.2.2 (sx hi hL (j := 1) (by decide) rfl) dL_law_1191 ?_
  rw [ex1]
  refine lv_aload_n hC.1 hC.2.1 dL_law_1192 rfl (lv_at hl 2 rfl) ?_
  refine lv_iload hC.1 hC.2.1 dL_law_1193 (lv_at hl 1 rfl) ?_
  refine lv_iconst (v := 2) hC.1 hC.2.1 dL_law_1195 (by decide) ?_
  refine lv_iadd hC.1 hC.2.1 dL_law_1196 ?_
  refine va_sld hC.1 hC.2.1 hX hb (Nat.not_le.mpr hb) G.2.2.2.2.2 (sx hi hL (j := 2) (by decide) rfl) dL_law_1197 ?_
  rw [ex2]
  refine lw_ri (As := [.int x1, .int x2]) (rest := []) hC hT G (c_X11_wouldLose l D cy Y.1 Y.2.1 (post := fun r τ => rfQ K0 V0 Z0 P0 B0 W0 ea r (Y.1, Y.2.1, τ)) hw2 _) (cwV 2 hC.2.2.2.2 (gM_w gL_law_X11_wouldLose) rfl rfl rfl hdV_X11_wouldLose ⟨Nat.le_of_ble_eq_true rfl, Nat.le_of_ble_eq_true rfl⟩) rfl hl.1 rfl (Nat.le_of_ble_eq_true rfl) dL_law_1198 ⟨by show _ ≤ 601024; omega, by show _ ≤ 7293034; omega⟩ (fun r2 σ2 H locs h2 G => ?_)
  refine lv_istore (lv' := [(6, .int r2), (5, .int r1), (4, .int (nI (7 * i))), (0, .ref b), (1, .ref (lay 0)), (2, .ref (Y.1 0)), (3, .ref o)]) hC.1 hC.2.1 dL_law_1201 hl (by decide) rfl (fun ls hl => ?_)
  obtain ⟨e1, e2, e3⟩ := qq (Y := (Y.1, Y.2.1, σ2)) h1 h2
  refine lv_goto (tgt := 1345) hC.1 hC.2.1 dL_law_1203 (by decide) ?_
  refine W.widen (k := K + 400) (n := S + 6000) (by omega) (by omega) ?_
  exact kk u1 (Y.1, Y.2.1, σ2) _ _ _ e3 rfl G (lv_sub hl [2, 3, 4, 5, 6] rfl)
