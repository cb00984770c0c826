/-! THE LAW, CALL BY CALL (3) -/
set_option maxHeartbeats 4000000 in
set_option maxRecDepth 100000 in
/-- plan -/
theorem lc_plan {p : Program} {l : Launch} {e : Env} {s : State} {m : MethodId} {below : List Frame} {meth : Method} {c : Code} {Q : State → Prop} {D : va_G} {cy : Nat → ClassId} {lay : Nat → Nat} {o b L i K S m0 ea mi ta : Nat} {ad ac am : Nat → Nat} {xs : Nat → Int32} {u : OU} {Y : RY} {H : Heap} {locs : List Loc} {ls : Array Slot} (hl0 : l.stackTraces = false) (hC : CallFix p m c cL_law 7 s #[Value.ref b] (wsL_law ++ lkL) RL) (hr : meth.sig.returnType = some .boolean) (hT : lwT D cy ea mi ta ad ac am s) (hL : L ≤ 3584) (hX : va_X b L xs s s.heap) (hb : b < s.heap.size) (hi : 7 * i + 7 ≤ L) (hK : K + 400 ≤ 601024) (hS : S + 6000 ≤ 7293034) (hm : Y.1 0 = m0) (I : LI ea u Y) (G : lwG D cy lay o u Y s H locs) (hl : lv_has ls 7 [(4, .int (nI (7 * i))), (0, .ref b), (1, .ref (lay 0)), (2, .ref m0), (3, .ref o)]) (kk : ∀ (u' : OU) (Y' : RY) (H1 : Heap) (locs1 : List Loc) (ls1 : Array Slot), LI ea u' Y' → Y'.1 0 = m0 → lwG D cy lay o u' Y' s H1 locs1 → lv_has ls1 7 [(4, .int (nI (7 * i))), (0, .ref b), (1, .ref (lay 0)), (2, .ref m0), (3, .ref o)] → W p l e room_1 s m #[Value.ref b] below meth c H1 locs1 (K + 400) (S + 6000) Q (F0 m 1345 ls1 [])) : W p l e room_1 s m #[Value.ref b] below meth c H locs K S Q (F0 m 1206 ls []) := by
  subst hm
  obtain ⟨T, I⟩ := I
  have I : LIT ea T u Y := I
  obtain ⟨x1, ex1⟩ : ∃ x : Int32, xs (Int32.toNatClampNeg (nI (7 * i) + 1)) = x := ⟨_, rfl⟩
  obtain ⟨x2, ex2⟩ : ∃ x : Int32, xs (Int32.toNatClampNeg (nI (7 * i) + 2)) = x := ⟨_, rfl⟩
  refine lv_aload_n hC.1 hC.2.1 dL_law_1206 rfl (lv_at hl 2 rfl) ?_
  refine lv_aload_n hC.1 hC.2.1 dL_law_1207 rfl (lv_at hl 1 rfl) ?_
  refine lv_iload hC.1 hC.2.1 dL_law_1208 (lv_at hl 0 rfl) ?_
  refine lv_iconst (v := 1) hC.1 hC.2.1 dL_law_1210 (by decide) ?_
  refine lv_iadd hC.1 hC.2.1 dL_law_1211 ?_
  refine va_sld hC.1 hC.2.1 hX hb (Nat.not_le.mpr hb) G.2.2.2.2.2 (sx hi hL (j := 1) (by decide) rfl) dL_law_1212 ?_
  rw [ex1]
  refine lv_aload_n hC.1 hC.2.1 dL_law_1213 rfl (lv_at hl 1 rfl) ?_
  refine lv_iload hC.1 hC.2.1 dL_law_1214 (lv_at hl 0 rfl) ?_
  refine lv_iconst (v := 2) hC.1 hC.2.1 dL_law_1216 (by decide) ?_
  refine lv_iadd hC.1 hC.2.1 dL_law_1217 ?_
  refine va_sld hC.1 hC.2.1 hX hb (Nat.not_le.mpr hb) G.2.2.2.2.2 (sx hi hL (j := 2) (by decide) rfl) dL_law_1218 ?_
  rw [ex2]
  have goz0 : ∀ z0 : Int32, z0 = (if x2 = 0 then (0 : Int32) else 1) → W p l e room_1 s m #[Value.ref b] below meth c H locs K S Q (F0 m 1227 ls [.int z0, .int x1, .ref (lay 0)]) := fun z0 hz0 => ?_
  · exact lv_if_eq (tgt := 1226) hC.1 hC.2.1 dL_law_1219 (by decide) (fun cz => lv_iconst (v := 0) hC.1 hC.2.1 dL_law_1226 (by decide) (goz0 0 (by rw [if_pos cz]))) (fun cz => lv_iconst (v := 1) hC.1 hC.2.1 dL_law_1222 (by decide) (lv_goto (tgt := 1227) hC.1 hC.2.1 dL_law_1223 (by decide) (goz0 1 (by rw [if_neg cz]))))
  refine lv_aload_n hC.1 hC.2.1 dL_law_1227 rfl (lv_at hl 4 rfl) ?_
  obtain ⟨K0, V0, Z0, P0, B0, W0, T0, hw1, hw2⟩ := sp_plan I x1 z0
  refine lw_w (As := [.ref (lay 0), .int x1, .int z0, .ref o]) (rest := []) hC hT G (c_L_plan l hl0 D cy lay o (post := fun r u' => cQ K0 V0 Z0 P0 B0 W0 T0 r u') hw1 _) (vx_cwSW 4 hC.2.2.2.2 (gM_s gL_law_L_plan) rfl rfl rfl hdS_L_plan ⟨Nat.le_of_ble_eq_true rfl, Nat.le_of_ble_eq_true rfl⟩) rfl hl.1 rfl (Nat.le_of_ble_eq_true rfl) dL_law_1228 ⟨by show _ ≤ 601024; omega, by show _ ≤ 7293034; omega⟩ (fun r1 u1 H locs h1 G => ?_)
  refine lv_istore (lv' := [(5, .int r1), (4, .int (nI (7 * i))), (0, .ref b), (1, .ref (lay 0)), (2, .ref (Y.1 0)), (3, .ref o)]) hC.1 hC.2.1 dL_law_1231 hl (by decide) rfl (fun ls hl => ?_)
  refine lv_aload_n hC.1 hC.2.1 dL_law_1233 rfl (lv_at hl 4 rfl) ?_
  refine lv_aload_n hC.1 hC.2.1 dL_law_1234 rfl (lv_at hl 2 rfl) ?_
  refine lv_iload hC.1 hC.2.1 dL_law_1235 (lv_at hl 1 rfl) ?_
  refine lv_iconst (v := 1) hC.1 hC.2.1 dL_law_1237 (by decide) ?_
  refine lv_iadd hC.1 hC.2.1 dL_law_1238 ?_
  refine va_sld hC.1 hC.2.1 hX hb (Nat.not_le.mpr hb) G.2.2.2.2.2 (sx hi hL (j := 1) (by decide) rfl) dL_law_1239 ?_
  rw [ex1]
  refine lv_aload_n hC.1 hC.2.1 dL_law_1240 rfl (lv_at hl 2 rfl) ?_
  refine lv_iload hC.1 hC.2.1 dL_law_1241 (lv_at hl 1 rfl) ?_
  refine lv_iconst (v := 2) hC.1 hC.2.1 dL_law_1243 (by decide) ?_
  refine lv_iadd hC.1 hC.2.1 dL_law_1244 ?_
  refine va_sld hC.1 hC.2.1 hX hb (Nat.not_le.mpr hb) G.2.2.2.2.2 (sx hi hL (j := 2) (by decide) rfl) dL_law_1245 ?_
  rw [ex2]
  have goz1 : ∀ z1 : Int32, z1 = (if x2 = 0 then (0 : Int32) else 1) → W p l e room_1 s m #[Value.ref b] below meth c H locs (K + 1) (S + 6) Q (F0 m 1254 ls [.int z1, .int x1, .ref (Y.1 0)]) := fun z1 hz1 => ?_
  · exact lv_if_eq (tgt := 1253) hC.1 hC.2.1 dL_law_1246 (by decide) (fun cz => lv_iconst (v := 0) hC.1 hC.2.1 dL_law_1253 (by decide) (goz1 0 (by rw [if_pos cz]))) (fun cz => lv_iconst (v := 1) hC.1 hC.2.1 dL_law_1249 (by decide) (lv_goto (tgt := 1254) hC.1 hC.2.1 dL_law_1250 (by decide) (goz1 1 (by rw [if_neg cz]))))
  rw [show z1 = z0 from hz1.trans hz0.symm]
  refine lw_ri (As := [.int x1, .int z0]) (rest := []) hC hT G (c_X11_plan l D cy Y.1 Y.2.1 (post := fun r τ => rfQ K0 V0 Z0 P0 B0 W0 ea r (Y.1, Y.2.1, τ)) hw2 _) (cwV 2 hC.2.2.2.2 (gM_w gL_law_X11_plan) rfl rfl rfl hdV_X11_plan ⟨Nat.le_of_ble_eq_true rfl, Nat.le_of_ble_eq_true rfl⟩) rfl hl.1 rfl (Nat.le_of_ble_eq_true rfl) dL_law_1254 ⟨by show _ ≤ 601024; omega, by show _ ≤ 7293034; omega⟩ (fun r2 σ2 H locs h2 G => ?_)
  refine lv_istore (lv' := [(6, .int r2), (5, .int r1), (4, .int (nI (7 * i))), (0, .ref b), (1, .ref (lay 0)), (2, .ref (Y.1 0)), (3, .ref o)]) hC.1 hC.2.1 dL_law_1257 hl (by decide) rfl (fun ls hl => ?_)
  obtain ⟨e1, e2, e3⟩ := qq (Y := (Y.1, Y.2.1, σ2)) h1 h2
  refine lv_goto (tgt := 1345) hC.1 hC.2.1 dL_law_1259 (by decide) ?_
  refine W.widen (k := K + 400) (n := S + 6000) (by omega) (by omega) ?_
  exact kk u1 (Y.1, Y.2.1, σ2) _ _ _ e3 rfl G (lv_sub hl [2, 3, 4, 5, 6] rfl)
set_option maxHeartbeats 4000000 in
set_option maxRecDepth 100000 in
/-- wouldCancel -/
theorem lc_wouldCancel {p : Program} {l : Launch} {e : Env} {s : State} {m : MethodId} {below : List Frame} {meth : Method} {c : Code} {Q : State → Prop} {D : va_G} {cy : Nat → ClassId} {lay : Nat → Nat} {o b L i K S m0 ea mi ta : Nat} {ad ac am : Nat → Nat} {xs : Nat → Int32} {u : OU} {Y : RY} {H : Heap} {locs : List Loc} {ls : Array Slot} (hl0 : l.stackTraces = false) (hC : CallFix p m c cL_law 7 s #[Value.ref b] (wsL_law ++ lkL) RL) (hr : meth.sig.returnType = some .boolean) (hT : lwT D cy ea mi ta ad ac am s) (hL : L ≤ 3584) (hX : va_X b L xs s s.heap) (hb : b < s.heap.size) (hi : 7 * i + 7 ≤ L) (hK : K + 400 ≤ 601024) (hS : S + 6000 ≤ 7293034) (hm : Y.1 0 = m0) (I : LI ea u Y) (G : lwG D cy lay o u Y s H locs) (hl : lv_has ls 7 [(4, .int (nI (7 * i))), (0, .ref b), (1, .ref (lay 0)), (2, .ref m0), (3, .ref o)]) (kk : ∀ (u' : OU) (Y' : RY) (H1 : Heap) (locs1 : List Loc) (ls1 : Array Slot), LI ea u' Y' → Y'.1 0 = m0 → lwG D cy lay o u' Y' s H1 locs1 → lv_has ls1 7 [(4, .int (nI (7 * i))), (0, .ref b), (1, .ref (lay 0)), (2, .ref m0), (3, .ref o)] → W p l e room_1 s m #[Value.ref b] below meth c H1 locs1 (K + 400) (S + 6000) Q (F0 m 1345 ls1 [])) : W p l e room_1 s m #[Value.ref b] below meth c H locs K S Q (F0 m 1262 ls []) := by
  subst hm
  obtain ⟨T, I⟩ := I
  have I : LIT ea T u Y := I
  obtain ⟨x1, ex1⟩ : ∃ x : Int32, xs (Int32.toNatClampNeg (nI (7 * i) + 1)) = x := ⟨_, rfl⟩
  refine lv_aload_n hC.1 hC.2.1 dL_law_1262 rfl (lv_at hl 2 rfl) ?_
  refine lv_aload_n hC.1 hC.2.1 dL_law_1263 rfl (lv_at hl 1 rfl) ?_
  refine lv_iload hC.1 hC.2.1 dL_law_1264 (lv_at hl 0 rfl) ?_
  refine lv_iconst (v := 1) hC.1 hC.2.1 dL_law_1266 (by decide) ?_
  refine lv_iadd hC.1 hC.2.1 dL_law_1267 ?_
  refine va_sld hC.1 hC.2.1 hX hb (Nat.not_le.mpr hb) G.2.2.2.2.2 (sx hi hL (j := 1) (by decide) rfl) dL_law_1268 ?_
  rw [ex1]
  refine lv_aload_n hC.1 hC.2.1 dL_law_1269 rfl (lv_at hl 4 rfl) ?_
  obtain ⟨K0, V0, Z0, P0, B0, W0, T0, hw1, hw2⟩ := sp_wouldCancel I x1
  refine lw_w (As := [.ref (lay 0), .int x1, .ref o]) (rest := []) hC hT G (c_L_wouldCancel l hl0 D cy lay o (post := fun r u' => cQ K0 V0 Z0 P0 B0 W0 T0 r u') hw1 _) (vx_cwSW 3 hC.2.2.2.2 (gM_s gL_law_L_wouldCancel) rfl rfl rfl hdS_L_wouldCancel ⟨Nat.le_of_ble_eq_true rfl, Nat.le_of_ble_eq_true rfl⟩) rfl hl.1 rfl (Nat.le_of_ble_eq_true rfl) dL_law_1270 ⟨by show _ ≤ 601024; omega, by show _ ≤ 7293034; omega⟩ (fun r1 u1 H locs h1 G => ?_)
  refine lv_istore (lv' := [(5, .int r1), (4, .int (nI (7 * i))), (0, .ref b), (1, .ref (lay 0)), (2, .ref (Y.1 0)), (3, .ref o)]) hC.1 hC.2.1 dL_law_1273 hl (by decide) rfl (fun ls hl => ?_)
  refine lv_aload_n hC.1 hC.2.1 dL_law_1275 rfl (lv_at hl 4 rfl) ?_
  refine lv_aload_n hC.1 hC.2.1 dL_law_1276 rfl (lv_at hl 2 rfl) ?_
  refine lv_iload hC.1 hC.2.1 dL_law_1277 (lv_at hl 1 rfl) ?_
  refine lv_iconst (v := 1) hC.1 hC.2.1 dL_law_1279 (by decide) ?_
  refine lv_iadd hC.1 hC.2.1 dL_law_1280 ?_
  refine va_sld hC.1 hC.2.1 hX hb (Nat.not_le.mpr hb) G.2.2.2.2.2 (sx hi hL (j := 1) (by decide) rfl) dL_law_1281 ?_
  rw [ex1]
  refine lw_ri (As := [.int x1]) (rest := []) hC hT G (c_X11_wouldCancel l D cy Y.1 Y.2.1 (post := fun r τ => rfQ K0 V0 Z0 P0 B0 W0 ea r (Y.1, Y.2.1, τ)) hw2 _) (cwV 1 hC.2.2.2.2 (gM_w gL_law_X11_wouldCancel) rfl rfl rfl hdV_X11_wouldCancel ⟨Nat.le_of_ble_eq_true rfl, Nat.le_of_ble_eq_true rfl⟩) rfl hl.1 rfl (Nat.le_of_ble_eq_true rfl) dL_law_1282 ⟨by show _ ≤ 601024; omega, by show _ ≤ 7293034; omega⟩ (fun r2 σ2 H locs h2 G => ?_)
  refine lv_istore (lv' := [(6, .int r2), (5, .int r1), (4, .int (nI (7 * i))), (0, .ref b), (1, .ref (lay 0)), (2, .ref (Y.1 0)), (3, .ref o)]) hC.1 hC.2.1 dL_law_1285 hl (by decide) rfl (fun ls hl => ?_)
  obtain ⟨e1, e2, e3⟩ := qq (Y := (Y.1, Y.2.1, σ2)) h1 h2
  refine lv_goto (tgt := 1345) hC.1 hC.2.1 dL_law_1287 (by decide) ?_
  refine W.widen (k := K + 400) (n := S + 6000) (by omega) (by omega) ?_
  exact kk u1 (Y.1, Y.2.1, σ2) _ _ _ e3 rfl G (lv_sub hl [2, 3, 4, 5, 6] rfl)
set_option maxHeartbeats 4000000 in
set_option maxRecDepth 100000 in
/-- key -/
theorem lc_key {p : Program} {l : Launch} {e : Env} {s : State} {m : MethodId} {below : List Frame} {meth : Method} {c : Code} {Q : State → Prop} {D : va_G} {cy : Nat → ClassId} {lay : Nat → Nat} {o b L i K S m0 ea mi ta : Nat} {ad ac am : Nat → Nat} {xs : Nat → Int32} {u : OU} {Y : RY} {H : Heap} {locs : List Loc} {ls : Array Slot} (hl0 : l.stackTraces = false) (hC : CallFix p m c cL_law 7 s #[Value.ref b] (wsL_law ++ lkL) RL) (hr : meth.sig.returnType = some .boolean) (hT : lwT D cy ea mi ta ad ac am s) (hL : L ≤ 3584) (hX : va_X b L xs s s.heap) (hb : b < s.heap.size) (hi : 7 * i + 7 ≤ L) (hK : K + 400 ≤ 601024) (hS : S + 6000 ≤ 7293034) (hm : Y.1 0 = m0) (I : LI ea u Y) (G : lwG D cy lay o u Y s H locs) (hl : lv_has ls 7 [(4, .int (nI (7 * i))), (0, .ref b), (1, .ref (lay 0)), (2, .ref m0), (3, .ref o)]) (kk : ∀ (u' : OU) (Y' : RY) (H1 : Heap) (locs1 : List Loc) (ls1 : Array Slot), LI ea u' Y' → Y'.1 0 = m0 → lwG D cy lay o u' Y' s H1 locs1 → lv_has ls1 7 [(4, .int (nI (7 * i))), (0, .ref b), (1, .ref (lay 0)), (2, .ref m0), (3, .ref o)] → W p l e room_1 s m #[Value.ref b] below meth c H1 locs1 (K + 400) (S + 6000) Q (F0 m 1345 ls1 [])) : W p l e room_1 s m #[Value.ref b] below meth c H locs K S Q (F0 m 1290 ls []) := by
  subst hm
  obtain ⟨T, I⟩ := I
  have I : LIT ea T u Y := I
  obtain ⟨x1, ex1⟩ : ∃ x : Int32, xs (Int32.toNatClampNeg (nI (7 * i) + 1)) = x := ⟨_, rfl⟩
  refine lv_aload_n hC.1 hC.2.1 dL_law_1290 rfl (lv_at hl 2 rfl) ?_
  refine lv_aload_n hC.1 hC.2.1 dL_law_1291 rfl (lv_at hl 1 rfl) ?_
  refine lv_iload hC.1 hC.2.1 dL_law_1292 (lv_at hl 0 rfl) ?_
  refine lv_iconst (v := 1) hC.1 hC.2.1 dL_law_1294 (by decide) ?_
  refine lv_iadd hC.1 hC.2.1 dL_law_1295 ?_
  refine va_sld hC.1 hC.2.1 hX hb (Nat.not_le.mpr hb) G.2.2.2.2.2 (sx hi hL (j := 1) (by decide) rfl) dL_law_1296 ?_
  rw [ex1]
  refine lv_aload_n hC.1 hC.2.1 dL_law_1297 rfl (lv_at hl 4 rfl) ?_
  obtain ⟨K0, V0, Z0, P0, B0, W0, T0, hw1, hw2⟩ := sp_key I x1
  refine lw_w (As := [.ref (lay 0), .int x1, .ref o]) (rest := []) hC hT G (c_L_key l hl0 D cy lay o (post := fun r u' => cQ K0 V0 Z0 P0 B0 W0 T0 r u') hw1 _) (vx_cwSW 3 hC.2.2.2.2 (gM_s gL_law_L_key) rfl rfl rfl hdS_L_key ⟨Nat.le_of_ble_eq_true rfl, Nat.le_of_ble_eq_true rfl⟩) rfl hl.1 rfl (Nat.le_of_ble_eq_true rfl) dL_law_1298 ⟨by show _ ≤ 601024; omega, by show _ ≤ 7293034; omega⟩ (fun r1 u1 H locs h1 G => ?_)
  refine lv_istore (lv' := [(5, .int r1), (4, .int (nI (7 * i))), (0, .ref b), (1, .ref (lay 0)), (2, .ref (Y.1 0)), (3, .ref o)]) hC.1 hC.2.1 dL_law_1301 hl (by decide) rfl (fun ls hl => ?_)
  refine lv_aload_n hC.1 hC.2.1 dL_law_1303 rfl (lv_at hl 4 rfl) ?_
  refine lv_aload_n hC.1 hC.2.1 dL_law_1304 rfl (lv_at hl 2 rfl) ?_
  refine lv_iload hC.1 hC.2.1 dL_law_1305 (lv_at hl 1 rfl) ?_
  refine lv_iconst (v := 1) hC.1 hC.2.1 dL_law_1307 (by decide) ?_
  refine lv_iadd hC.1 hC.2.1 dL_law_1308 ?_
  refine va_sld hC.1 hC.2.1 hX hb (Nat.not_le.mpr hb) G.2.2.2.2.2 (sx hi hL (j := 1) (by decide) rfl) dL_law_1309 ?_
  rw [ex1]
  refine lw_ri (As := [.int x1]) (rest := []) hC hT G (c_X11_key l D cy Y.1 Y.2.1 (post := fun r τ => rfQ K0 V0 Z0 P0 B0 W0 ea r (Y.1, Y.2.1, τ)) hw2 _) (cwV 1 hC.2.2.2.2 (gM_w gL_law_X11_key) rfl rfl rfl hdV_X11_key ⟨Nat.le_of_ble_eq_true rfl, Nat.le_of_ble_eq_true rfl⟩) rfl hl.1 rfl (Nat.le_of_ble_eq_true rfl) dL_law_1310 ⟨by show _ ≤ 601024; omega, by show _ ≤ 7293034; omega⟩ (fun r2 σ2 H locs h2 G => ?_)
  refine lv_istore (lv' := [(6, .int r2), (5, .int r1), (4, .int (nI (7 * i))), (0, .ref b), (1, .ref (lay 0)), (2, .ref (Y.1 0)), (3, .ref o)]) hC.1 hC.2.1 dL_law_1313 hl (by decide) rfl (fun ls hl => ?_)
  obtain ⟨e1, e2, e3⟩ := qq (Y := (Y.1, Y.2.1, σ2)) h1 h2
  refine lv_goto (tgt := 1345) hC.1 hC.2.1 dL_law_1315 (by decide) ?_
  refine W.widen (k := K + 400) (n := S + 6000) (by omega) (by omega) ?_
  exact kk u1 (Y.1, Y.2.1, σ2) _ _ _ e3 rfl G (lv_sub hl [2, 3, 4, 5, 6] rfl)
set_option maxHeartbeats 4000000 in
set_option maxRecDepth 100000 in
/-- isSound -/
theorem lc_isSound {p : Program} {l : Launch} {e : Env} {s : State} {m : MethodId} {below : List Frame} {meth : Method} {c : Code} {Q : State → Prop} {D : va_G} {cy : Nat → ClassId} {lay : Nat → Nat} {o b L i K S m0 ea mi ta : Nat} {ad ac am : Nat → Nat} {xs : Nat → Int32} {u : OU} {Y : RY} {H : Heap} {locs : List Loc} {ls : Array Slot} (hl0 : l.stackTraces = false) (hC : CallFix p m c cL_law 7 s #[Value.ref b] (wsL_law ++ lkL) RL) (hr : meth.sig.returnType = some .boolean) (hT : lwT D cy ea mi ta ad ac am s) (hL : L ≤ 3584) (hX : va_X b L xs s s.heap) (hb : b < s.heap.size) (hi : 7 * i + 7 ≤ L) (hK : K + 400 ≤ 601024) (hS : S + 6000 ≤ 7293034) (hm : Y.1 0 = m0) (I : LI ea u Y) (G : lwG D cy lay o u Y s H locs) (hl : lv_has ls 7 [(4, .int (nI (7 * i))), (0, .ref b), (1, .ref (lay 0)), (2, .ref m0), (3, .ref o)]) (kk : ∀ (u' : OU) (Y' : RY) (H1 : Heap) (locs1 : List Loc) (ls1 : Array Slot), LI ea u' Y' → Y'.1 0 = m0 → lwG D cy lay o u' Y' s H1 locs1 → lv_has ls1 7 [(4, .int (nI (7 * i))), (0, .ref b), (1, .ref (lay 0)), (2, .ref m0), (3, .ref o)] → W p l e room_1 s m #[Value.ref b] below meth c H1 locs1 (K + 400) (S + 6000) Q (F0 m 1345 ls1 [])) : W p l e room_1 s m #[Value.ref b] below meth c H locs K S Q (F0 m 1318 ls []) := by
  subst hm
  obtain ⟨T, I⟩ := I
  have I : LIT ea T u Y := I
  refine lv_aload_n hC.1 hC.2.1 dL_law_1318 rfl (lv_at hl 2 rfl) ?_
  refine lw_ci (As := []) (rest := []) hC hT G (c_X7_isSound l D cy lay (post := fun _ τ => Scr u.1 τ) (law_isSound I.ok (Scr.rf _)) _) (cwV 0 hC.2.2.2.2 (gM_w gL_law_X7_isSound) rfl rfl rfl hdV_X7_isSound ⟨Nat.le_of_ble_eq_true rfl, Nat.le_of_ble_eq_true rfl⟩) rfl hl.1 rfl (Nat.le_of_ble_eq_true rfl) dL_law_1319 ⟨by show _ ≤ 601024; omega, by show _ ≤ 7293034; omega⟩ (fun r1 σ1 H locs h1 G => ?_)
  refine lv_pop hC.1 hC.2.1 dL_law_1322 rfl ?_
  refine lv_aload_n hC.1 hC.2.1 dL_law_1323 rfl (lv_at hl 3 rfl) ?_
  refine lw_ri (As := []) (rest := []) hC hT G (c_X11_isSound l D cy Y.1 Y.2.1 (post := fun _ τ => rOk (tR u.1) Y.2.1 τ) (sf_isSound I.ro (fun _ _ hτ => hτ)) _) (cwV 0 hC.2.2.2.2 (gM_w gL_law_X11_isSound) rfl rfl rfl hdV_X11_isSound ⟨Nat.le_of_ble_eq_true rfl, Nat.le_of_ble_eq_true rfl⟩) rfl hl.1 rfl (Nat.le_of_ble_eq_true rfl) dL_law_1324 ⟨by show _ ≤ 601024; omega, by show _ ≤ 7293034; omega⟩ (fun r2 σ2 H locs h2 G => ?_)
  refine lv_pop hC.1 hC.2.1 dL_law_1327 rfl ?_
  refine lv_goto (tgt := 1345) hC.1 hC.2.1 dL_law_1328 (by decide) ?_
  refine W.widen (k := K + 400) (n := S + 6000) (by omega) (by omega) ?_
  exact kk (σ1, u.2) (Y.1, Y.2.1, σ2) _ _ _ (LIT.same (u := u) (u' := (σ1, u.2)) I h1 h2) rfl G hl
set_option maxHeartbeats 4000000 in
set_option maxRecDepth 100000 in
/-- digest -/
theorem lc_digest {p : Program} {l : Launch} {e : Env} {s : State} {m : MethodId} {below : List Frame} {meth : Method} {c : Code} {Q : State → Prop} {D : va_G} {cy : Nat → ClassId} {lay : Nat → Nat} {o b L i K S m0 ea mi ta : Nat} {ad ac am : Nat → Nat} {xs : Nat → Int32} {u : OU} {Y : RY} {H : Heap} {locs : List Loc} {ls : Array Slot} (hl0 : l.stackTraces = false) (hC : CallFix p m c cL_law 7 s #[Value.ref b] (wsL_law ++ lkL) RL) (hr : meth.sig.returnType = some .boolean) (hT : lwT D cy ea mi ta ad ac am s) (hL : L ≤ 3584) (hX : va_X b L xs s s.heap) (hb : b < s.heap.size) (hi : 7 * i + 7 ≤ L) (hK : K + 400 ≤ 601024) (hS : S + 6000 ≤ 7293034) (hm : Y.1 0 = m0) (I : LI ea u Y) (G : lwG D cy lay o u Y s H locs) (hl : lv_has ls 7 [(4, .int (nI (7 * i))), (0, .ref b), (1, .ref (lay 0)), (2, .ref m0), (3, .ref o)]) (kk : ∀ (u' : OU) (Y' : RY) (H1 : Heap) (locs1 : List Loc) (ls1 : Array Slot), LI ea u' Y' → Y'.1 0 = m0 → lwG D cy lay o u' Y' s H1 locs1 → lv_has ls1 7 [(4, .int (nI (7 * i))), (0, .ref b), (1, .ref (lay 0)), (2, .ref m0), (3, .ref o)] → W p l e room_1 s m #[Value.ref b] below meth c H1 locs1 (K + 400) (S + 6000) Q (F0 m 1345 ls1 [])) : W p l e room_1 s m #[Value.ref b] below meth c H locs K S Q (F0 m 1331 ls []) := by
  subst hm
  obtain ⟨T, I⟩ := I
  have I : LIT ea T u Y := I
  refine lv_aload_n hC.1 hC.2.1 dL_law_1331 rfl (lv_at hl 2 rfl) ?_
  obtain ⟨V0, hw1, hw2⟩ := sp_digest I
  refine lw_cl (As := []) (rest := []) hC hT G (c_N_X7_digest l D cy lay (post := fun v τ => v = V0 ∧ Scr u.1 τ) hw1 _) (cwV 0 hC.2.2.2.2 (gM_w gL_law_X7_digest) rfl rfl rfl hdV_X7_digest ⟨Nat.le_of_ble_eq_true rfl, Nat.le_of_ble_eq_true rfl⟩) rfl hl.1 rfl (Nat.le_of_ble_eq_true rfl) dL_law_1332 ⟨by show _ ≤ 601024; omega, by show _ ≤ 7293034; omega⟩ (fun r1 σ1 H locs h1 G => ?_)
  refine lv_aload_n hC.1 hC.2.1 dL_law_1335 rfl (lv_at hl 3 rfl) ?_
  refine lw_rl (As := []) (rest := [.long r1]) hC hT G (c_X11_digest l D cy Y.1 Y.2.1 (post := fun r τ => r = V0 ∧ rOk (tR u.1) Y.2.1 τ) hw2 _) (cwV 0 hC.2.2.2.2 (gM_w gL_law_X11_digest) rfl rfl rfl hdV_X11_digest ⟨Nat.le_of_ble_eq_true rfl, Nat.le_of_ble_eq_true rfl⟩) rfl hl.1 rfl (Nat.le_of_ble_eq_true rfl) dL_law_1336 ⟨by show _ ≤ 601024; omega, by show _ ≤ 7293034; omega⟩ (fun r2 σ2 H locs h2 G => ?_)
  refine W.lcmp hC.1 hC.2.1 dL_law_1339 ?_
  refine lv_if_eq (tgt := 1345) hC.1 hC.2.1 dL_law_1340 (by decide) (fun _ => ?_) (fun c3 => absurd ((lg_cmp_eq _ _).mpr (h1.1.trans h2.1.symm)) c3)
  refine W.widen (k := K + 400) (n := S + 6000) (by omega) (by omega) ?_
  exact kk (σ1, u.2) (Y.1, Y.2.1, σ2) _ _ _ (LIT.same (u := u) (u' := (σ1, u.2)) I h1.2 h2.2) rfl G hl
