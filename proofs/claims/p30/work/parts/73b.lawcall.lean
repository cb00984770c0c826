/-! THE LAW, CALL BY CALL (0) -/
set_option maxHeartbeats 4000000 in
set_option maxRecDepth 100000 in
/-- player -/
theorem lc_player {p : Program} {l : Launch} {e : Env} {s : State} {m : MethodId} {below : List Frame} {meth : Method} {c : Code} {Q : State → Prop} {D : va_G} {cy : Nat → ClassId} {lay : Nat → Nat} {o b L i K S m0 ea mi ta : Nat} {ad ac am : Nat → Nat} {xs : Nat → Int32} {u : OU} {Y : RY} {H : Heap} {locs : List Loc} {ls : Array Slot} (hl0 : l.stackTraces = false) (hC : CallFix p m c cL_law 7 s #[Value.ref b] (wsL_law ++ lkL) RL) (hr : meth.sig.returnType = some .boolean) (hT : lwT D cy ea mi ta ad ac am s) (hL : L ≤ 3584) (hX : va_X b L xs s s.heap) (hb : b < s.heap.size) (hi : 7 * i + 7 ≤ L) (hK : K + 400 ≤ 601024) (hS : S + 6000 ≤ 7293034) (hm : Y.1 0 = m0) (I : LI ea u Y) (G : lwG D cy lay o u Y s H locs) (hl : lv_has ls 7 [(4, .int (nI (7 * i))), (0, .ref b), (1, .ref (lay 0)), (2, .ref m0), (3, .ref o)]) (kk : ∀ (u' : OU) (Y' : RY) (H1 : Heap) (locs1 : List Loc) (ls1 : Array Slot), LI ea u' Y' → Y'.1 0 = m0 → lwG D cy lay o u' Y' s H1 locs1 → lv_has ls1 7 [(4, .int (nI (7 * i))), (0, .ref b), (1, .ref (lay 0)), (2, .ref m0), (3, .ref o)] → W p l e room_1 s m #[Value.ref b] below meth c H1 locs1 (K + 400) (S + 6000) Q (F0 m 1345 ls1 [])) : W p l e room_1 s m #[Value.ref b] below meth c H locs K S Q (F0 m 176 ls []) := by
  subst hm
  obtain ⟨T, I⟩ := I
  have I : LIT ea T u Y := I
  obtain ⟨x1, ex1⟩ : ∃ x : Int32, xs (Int32.toNatClampNeg (nI (7 * i) + 1)) = x := ⟨_, rfl⟩
  obtain ⟨x2, ex2⟩ : ∃ x : Int32, xs (Int32.toNatClampNeg (nI (7 * i) + 2)) = x := ⟨_, rfl⟩
  obtain ⟨x3, ex3⟩ : ∃ x : Int32, xs (Int32.toNatClampNeg (nI (7 * i) + 3)) = x := ⟨_, rfl⟩
  obtain ⟨x4, ex4⟩ : ∃ x : Int32, xs (Int32.toNatClampNeg (nI (7 * i) + 4)) = x := ⟨_, rfl⟩
  refine lv_aload_n hC.1 hC.2.1 dL_law_176 rfl (lv_at hl 2 rfl) ?_
  refine lv_aload_n hC.1 hC.2.1 dL_law_177 rfl (lv_at hl 1 rfl) ?_
  refine lv_iload hC.1 hC.2.1 dL_law_178 (lv_at hl 0 rfl) ?_
  refine lv_iconst (v := 1) hC.1 hC.2.1 dL_law_180 (by decide) ?_
  refine lv_iadd hC.1 hC.2.1 dL_law_181 ?_
  refine va_sld hC.1 hC.2.1 hX hb (Nat.not_le.mpr hb) G.2.2.2.2.2 (sx hi hL (j := 1) (by decide) rfl) dL_law_182 ?_
  rw [ex1]
  refine lv_aload_n hC.1 hC.2.1 dL_law_183 rfl (lv_at hl 1 rfl) ?_
  refine lv_iload hC.1 hC.2.1 dL_law_184 (lv_at hl 0 rfl) ?_
  refine lv_iconst (v := 2) hC.1 hC.2.1 dL_law_186 (by decide) ?_
  refine lv_iadd hC.1 hC.2.1 dL_law_187 ?_
  refine va_sld hC.1 hC.2.1 hX hb (Nat.not_le.mpr hb) G.2.2.2.2.2 (sx hi hL (j := 2) (by decide) rfl) dL_law_188 ?_
  rw [ex2]
  refine lv_aload_n hC.1 hC.2.1 dL_law_189 rfl (lv_at hl 1 rfl) ?_
  refine lv_iload hC.1 hC.2.1 dL_law_190 (lv_at hl 0 rfl) ?_
  refine lv_iconst (v := 3) hC.1 hC.2.1 dL_law_192 (by decide) ?_
  refine lv_iadd hC.1 hC.2.1 dL_law_193 ?_
  refine va_sld hC.1 hC.2.1 hX hb (Nat.not_le.mpr hb) G.2.2.2.2.2 (sx hi hL (j := 3) (by decide) rfl) dL_law_194 ?_
  rw [ex3]
  refine lv_aload_n hC.1 hC.2.1 dL_law_195 rfl (lv_at hl 1 rfl) ?_
  refine lv_iload hC.1 hC.2.1 dL_law_196 (lv_at hl 0 rfl) ?_
  refine lv_iconst (v := 4) hC.1 hC.2.1 dL_law_198 (by decide) ?_
  refine lv_iadd hC.1 hC.2.1 dL_law_199 ?_
  refine va_sld hC.1 hC.2.1 hX hb (Nat.not_le.mpr hb) G.2.2.2.2.2 (sx hi hL (j := 4) (by decide) rfl) dL_law_200 ?_
  rw [ex4]
  refine lv_aload_n hC.1 hC.2.1 dL_law_201 rfl (lv_at hl 4 rfl) ?_
  obtain ⟨K0, V0, Z0, P0, B0, W0, T0, hw1, hw2⟩ := sp_player I x1 x2 x3 x4
  refine lw_w (As := [.ref (lay 0), .int x1, .int x2, .int x3, .int x4, .ref o]) (rest := []) hC hT G (c_L_player l hl0 D cy lay o (post := fun r u' => cQ K0 V0 Z0 P0 B0 W0 T0 r u') hw1 _) (vx_cwSW 6 hC.2.2.2.2 (gM_s gL_law_L_player) rfl rfl rfl hdS_L_player ⟨Nat.le_of_ble_eq_true rfl, Nat.le_of_ble_eq_true rfl⟩) rfl hl.1 rfl (Nat.le_of_ble_eq_true rfl) dL_law_202 ⟨by show _ ≤ 601024; omega, by show _ ≤ 7293034; omega⟩ (fun r1 u1 H locs h1 G => ?_)
  refine lv_istore (lv' := [(5, .int r1), (4, .int (nI (7 * i))), (0, .ref b), (1, .ref (lay 0)), (2, .ref (Y.1 0)), (3, .ref o)]) hC.1 hC.2.1 dL_law_205 hl (by decide) rfl (fun ls hl => ?_)
  refine lv_aload_n hC.1 hC.2.1 dL_law_207 rfl (lv_at hl 4 rfl) ?_
  refine lv_aload_n hC.1 hC.2.1 dL_law_208 rfl (lv_at hl 2 rfl) ?_
  refine lv_iload hC.1 hC.2.1 dL_law_209 (lv_at hl 1 rfl) ?_
  refine lv_iconst (v := 1) hC.1 hC.2.1 dL_law_211 (by decide) ?_
  refine lv_iadd hC.1 hC.2.1 dL_law_212 ?_
  refine va_sld hC.1 hC.2.1 hX hb (Nat.not_le.mpr hb) G.2.2.2.2.2 (sx hi hL (j := 1) (by decide) rfl) dL_law_213 ?_
  rw [ex1]
  refine lv_aload_n hC.1 hC.2.1 dL_law_214 rfl (lv_at hl 2 rfl) ?_
  refine lv_iload hC.1 hC.2.1 dL_law_215 (lv_at hl 1 rfl) ?_
  refine lv_iconst (v := 2) hC.1 hC.2.1 dL_law_217 (by decide) ?_
  refine lv_iadd hC.1 hC.2.1 dL_law_218 ?_
  refine va_sld hC.1 hC.2.1 hX hb (Nat.not_le.mpr hb) G.2.2.2.2.2 (sx hi hL (j := 2) (by decide) rfl) dL_law_219 ?_
  rw [ex2]
  refine lv_aload_n hC.1 hC.2.1 dL_law_220 rfl (lv_at hl 2 rfl) ?_
  refine lv_iload hC.1 hC.2.1 dL_law_221 (lv_at hl 1 rfl) ?_
  refine lv_iconst (v := 3) hC.1 hC.2.1 dL_law_223 (by decide) ?_
  refine lv_iadd hC.1 hC.2.1 dL_law_224 ?_
  refine va_sld hC.1 hC.2.1 hX hb (Nat.not_le.mpr hb) G.2.2.2.2.2 (sx hi hL (j := 3) (by decide) rfl) dL_law_225 ?_
  rw [ex3]
  refine lv_aload_n hC.1 hC.2.1 dL_law_226 rfl (lv_at hl 2 rfl) ?_
  refine lv_iload hC.1 hC.2.1 dL_law_227 (lv_at hl 1 rfl) ?_
  refine lv_iconst (v := 4) hC.1 hC.2.1 dL_law_229 (by decide) ?_
  refine lv_iadd hC.1 hC.2.1 dL_law_230 ?_
  refine va_sld hC.1 hC.2.1 hX hb (Nat.not_le.mpr hb) G.2.2.2.2.2 (sx hi hL (j := 4) (by decide) rfl) dL_law_231 ?_
  rw [ex4]
  refine lw_rn (As := [.int x1, .int x2, .int x3, .int x4]) (rest := []) (fun r Y' hq => hq.2) hC hT I.he G (c_X11_player l D cy Y.1 Y.2.1 mi rfl (post := fun r Y' => rfQ K0 V0 Z0 P0 B0 W0 ea r Y' ∧ Y'.2.1.2.1 = Y.2.1.2.1 ∧ Y'.2.1.2.2.2 = Y.2.1.2.2.2) hw2 _) (cwV 4 hC.2.2.2.2 (gM_w gL_law_X11_player) rfl rfl rfl hdV_X11_player ⟨Nat.le_of_ble_eq_true rfl, Nat.le_of_ble_eq_true rfl⟩) rfl hl.1 rfl (Nat.le_of_ble_eq_true rfl) dL_law_232 ⟨by show _ ≤ 601024; omega, by show _ ≤ 7293034; omega⟩ (fun r2 Y2 H locs h2 hz G => ?_)
  refine lv_istore (lv' := [(6, .int r2), (5, .int r1), (4, .int (nI (7 * i))), (0, .ref b), (1, .ref (lay 0)), (2, .ref (Y.1 0)), (3, .ref o)]) hC.1 hC.2.1 dL_law_235 hl (by decide) rfl (fun ls hl => ?_)
  obtain ⟨e1, e2, e3⟩ := qq (Y := Y2) h1 h2.1
  refine lv_goto (tgt := 1345) hC.1 hC.2.1 dL_law_237 (by decide) ?_
  refine W.widen (k := K + 400) (n := S + 6000) (by omega) (by omega) ?_
  exact kk u1 Y2 _ _ _ e3 hz G (lv_sub hl [2, 3, 4, 5, 6] rfl)
set_option maxHeartbeats 4000000 in
set_option maxRecDepth 100000 in
/-- learn -/
theorem lc_learn {p : Program} {l : Launch} {e : Env} {s : State} {m : MethodId} {below : List Frame} {meth : Method} {c : Code} {Q : State → Prop} {D : va_G} {cy : Nat → ClassId} {lay : Nat → Nat} {o b L i K S m0 ea mi ta : Nat} {ad ac am : Nat → Nat} {xs : Nat → Int32} {u : OU} {Y : RY} {H : Heap} {locs : List Loc} {ls : Array Slot} (hl0 : l.stackTraces = false) (hC : CallFix p m c cL_law 7 s #[Value.ref b] (wsL_law ++ lkL) RL) (hr : meth.sig.returnType = some .boolean) (hT : lwT D cy ea mi ta ad ac am s) (hL : L ≤ 3584) (hX : va_X b L xs s s.heap) (hb : b < s.heap.size) (hi : 7 * i + 7 ≤ L) (hK : K + 400 ≤ 601024) (hS : S + 6000 ≤ 7293034) (hm : Y.1 0 = m0) (I : LI ea u Y) (G : lwG D cy lay o u Y s H locs) (hl : lv_has ls 7 [(4, .int (nI (7 * i))), (0, .ref b), (1, .ref (lay 0)), (2, .ref m0), (3, .ref o)]) (kk : ∀ (u' : OU) (Y' : RY) (H1 : Heap) (locs1 : List Loc) (ls1 : Array Slot), LI ea u' Y' → Y'.1 0 = m0 → lwG D cy lay o u' Y' s H1 locs1 → lv_has ls1 7 [(4, .int (nI (7 * i))), (0, .ref b), (1, .ref (lay 0)), (2, .ref m0), (3, .ref o)] → W p l e room_1 s m #[Value.ref b] below meth c H1 locs1 (K + 400) (S + 6000) Q (F0 m 1345 ls1 [])) : W p l e room_1 s m #[Value.ref b] below meth c H locs K S Q (F0 m 240 ls []) := by
  subst hm
  obtain ⟨T, I⟩ := I
  have I : LIT ea T u Y := I
  obtain ⟨x1, ex1⟩ : ∃ x : Int32, xs (Int32.toNatClampNeg (nI (7 * i) + 1)) = x := ⟨_, rfl⟩
  obtain ⟨x2, ex2⟩ : ∃ x : Int32, xs (Int32.toNatClampNeg (nI (7 * i) + 2)) = x := ⟨_, rfl⟩
  refine lv_aload_n hC.1 hC.2.1 dL_law_240 rfl (lv_at hl 2 rfl) ?_
  refine lv_aload_n hC.1 hC.2.1 dL_law_241 rfl (lv_at hl 1 rfl) ?_
  refine lv_iload hC.1 hC.2.1 dL_law_242 (lv_at hl 0 rfl) ?_
  refine lv_iconst (v := 1) hC.1 hC.2.1 dL_law_244 (by decide) ?_
  refine lv_iadd hC.1 hC.2.1 dL_law_245 ?_
  refine va_sld hC.1 hC.2.1 hX hb (Nat.not_le.mpr hb) G.2.2.2.2.2 (sx hi hL (j := 1) (by decide) rfl) dL_law_246 ?_
  rw [ex1]
  refine lv_aload_n hC.1 hC.2.1 dL_law_247 rfl (lv_at hl 1 rfl) ?_
  refine lv_iload hC.1 hC.2.1 dL_law_248 (lv_at hl 0 rfl) ?_
  refine lv_iconst (v := 2) hC.1 hC.2.1 dL_law_250 (by decide) ?_
  refine lv_iadd hC.1 hC.2.1 dL_law_251 ?_
  refine va_sld hC.1 hC.2.1 hX hb (Nat.not_le.mpr hb) G.2.2.2.2.2 (sx hi hL (j := 2) (by decide) rfl) dL_law_252 ?_
  rw [ex2]
  refine lv_aload_n hC.1 hC.2.1 dL_law_253 rfl (lv_at hl 4 rfl) ?_
  obtain ⟨K0, V0, Z0, P0, B0, W0, T0, hw1, hw2⟩ := sp_learn I x1 x2
  refine lw_w (As := [.ref (lay 0), .int x1, .int x2, .ref o]) (rest := []) hC hT G (c_L_learn l hl0 D cy lay o (post := fun r u' => cQ K0 V0 Z0 P0 B0 W0 T0 r u') hw1 _) (vx_cwSW 4 hC.2.2.2.2 (gM_s gL_law_L_learn) rfl rfl rfl hdS_L_learn ⟨Nat.le_of_ble_eq_true rfl, Nat.le_of_ble_eq_true rfl⟩) rfl hl.1 rfl (Nat.le_of_ble_eq_true rfl) dL_law_254 ⟨by show _ ≤ 601024; omega, by show _ ≤ 7293034; omega⟩ (fun r1 u1 H locs h1 G => ?_)
  refine lv_istore (lv' := [(5, .int r1), (4, .int (nI (7 * i))), (0, .ref b), (1, .ref (lay 0)), (2, .ref (Y.1 0)), (3, .ref o)]) hC.1 hC.2.1 dL_law_257 hl (by decide) rfl (fun ls hl => ?_)
  refine lv_aload_n hC.1 hC.2.1 dL_law_259 rfl (lv_at hl 4 rfl) ?_
  refine lv_aload_n hC.1 hC.2.1 dL_law_260 rfl (lv_at hl 2 rfl) ?_
  refine lv_iload hC.1 hC.2.1 dL_law_261 (lv_at hl 1 rfl) ?_
  refine lv_iconst (v := 1) hC.1 hC.2.1 dL_law_263 (by decide) ?_
  refine lv_iadd hC.1 hC.2.1 dL_law_264 ?_
  refine va_sld hC.1 hC.2.1 hX hb (Nat.not_le.mpr hb) G.2.2.2.2.2 (sx hi hL (j := 1) (by decide) rfl) dL_law_265 ?_
  rw [ex1]
  refine lv_aload_n hC.1 hC.2.1 dL_law_266 rfl (lv_at hl 2 rfl) ?_
  refine lv_iload hC.1 hC.2.1 dL_law_267 (lv_at hl 1 rfl) ?_
  refine lv_iconst (v := 2) hC.1 hC.2.1 dL_law_269 (by decide) ?_
  refine lv_iadd hC.1 hC.2.1 dL_law_270 ?_
  refine va_sld hC.1 hC.2.1 hX hb (Nat.not_le.mpr hb) G.2.2.2.2.2 (sx hi hL (j := 2) (by decide) rfl) dL_law_271 ?_
  rw [ex2]
  refine lw_ri (As := [.int x1, .int x2]) (rest := []) hC hT G (c_X11_learn l D cy Y.1 Y.2.1 (post := fun r τ => rfQ K0 V0 Z0 P0 B0 W0 ea r (Y.1, Y.2.1, τ)) hw2 _) (cwV 2 hC.2.2.2.2 (gM_w gL_law_X11_learn) rfl rfl rfl hdV_X11_learn ⟨Nat.le_of_ble_eq_true rfl, Nat.le_of_ble_eq_true rfl⟩) rfl hl.1 rfl (Nat.le_of_ble_eq_true rfl) dL_law_272 ⟨by show _ ≤ 601024; omega, by show _ ≤ 7293034; omega⟩ (fun r2 σ2 H locs h2 G => ?_)
  refine lv_istore (lv' := [(6, .int r2), (5, .int r1), (4, .int (nI (7 * i))), (0, .ref b), (1, .ref (lay 0)), (2, .ref (Y.1 0)), (3, .ref o)]) hC.1 hC.2.1 dL_law_275 hl (by decide) rfl (fun ls hl => ?_)
  obtain ⟨e1, e2, e3⟩ := qq (Y := (Y.1, Y.2.1, σ2)) h1 h2
  refine lv_goto (tgt := 1345) hC.1 hC.2.1 dL_law_277 (by decide) ?_
  refine W.widen (k := K + 400) (n := S + 6000) (by omega) (by omega) ?_
  exact kk u1 (Y.1, Y.2.1, σ2) _ _ _ e3 rfl G (lv_sub hl [2, 3, 4, 5, 6] rfl)
set_option maxHeartbeats 4000000 in
set_option maxRecDepth 100000 in
/-- song -/
theorem lc_song {p : Program} {l : Launch} {e : Env} {s : State} {m : MethodId} {below : List Frame} {meth : Method} {c : Code} {Q : State → Prop} {D : va_G} {cy : Nat → ClassId} {lay : Nat → Nat} {o b L i K S m0 ea mi ta : Nat} {ad ac am : Nat → Nat} {xs : Nat → Int32} {u : OU} {Y : RY} {H : Heap} {locs : List Loc} {ls : Array Slot} (hl0 : l.stackTraces = false) (hC : CallFix p m c cL_law 7 s #[Value.ref b] (wsL_law ++ lkL) RL) (hr : meth.sig.returnType = some .boolean) (hT : lwT D cy ea mi ta ad ac am s) (hL : L ≤ 3584) (hX : va_X b L xs s s.heap) (hb : b < s.heap.size) (hi : 7 * i + 7 ≤ L) (hK : K + 400 ≤ 601024) (hS : S + 6000 ≤ 7293034) (hm : Y.1 0 = m0) (I : LI ea u Y) (G : lwG D cy lay o u Y s H locs) (hl : lv_has ls 7 [(4, .int (nI (7 * i))), (0, .ref b), (1, .ref (lay 0)), (2, .ref m0), (3, .ref o)]) (kk : ∀ (u' : OU) (Y' : RY) (H1 : Heap) (locs1 : List Loc) (ls1 : Array Slot), LI ea u' Y' → Y'.1 0 = m0 → lwG D cy lay o u' Y' s H1 locs1 → lv_has ls1 7 [(4, .int (nI (7 * i))), (0, .ref b), (1, .ref (lay 0)), (2, .ref m0), (3, .ref o)] → W p l e room_1 s m #[Value.ref b] below meth c H1 locs1 (K + 400) (S + 6000) Q (F0 m 1345 ls1 [])) : W p l e room_1 s m #[Value.ref b] below meth c H locs K S Q (F0 m 280 ls []) := by
  subst hm
  obtain ⟨T, I⟩ := I
  have I : LIT ea T u Y := I
  obtain ⟨x1, ex1⟩ : ∃ x : Int32, xs (Int32.toNatClampNeg (nI (7 * i) + 1)) = x := ⟨_, rfl⟩
  obtain ⟨x2, ex2⟩ : ∃ x : Int32, xs (Int32.toNatClampNeg (nI (7 * i) + 2)) = x := ⟨_, rfl⟩
  obtain ⟨x3, ex3⟩ : ∃ x : Int32, xs (Int32.toNatClampNeg (nI (7 * i) + 3)) = x := ⟨_, rfl⟩
  obtain ⟨x4, ex4⟩ : ∃ x : Int32, xs (Int32.toNatClampNeg (nI (7 * i) + 4)) = x := ⟨_, rfl⟩
  refine lv_aload_n hC.1 hC.2.1 dL_law_280 rfl (lv_at hl 2 rfl) ?_
  refine lv_aload_n hC.1 hC.2.1 dL_law_281 rfl (lv_at hl 1 rfl) ?_
  refine lv_iload hC.1 hC.2.1 dL_law_282 (lv_at hl 0 rfl) ?_
  refine lv_iconst (v := 1) hC.1 hC.2.1 dL_law_284 (by decide) ?_
  refine lv_iadd hC.1 hC.2.1 dL_law_285 ?_
  refine va_sld hC.1 hC.2.1 hX hb (Nat.not_le.mpr hb) G.2.2.2.2.2 (sx hi hL (j := 1) (by decide) rfl) dL_law_286 ?_
  rw [ex1]
  refine lv_aload_n hC.1 hC.2.1 dL_law_287 rfl (lv_at hl 1 rfl) ?_
  refine lv_iload hC.1 hC.2.1 dL_law_288 (lv_at hl 0 rfl) ?_
  refine lv_iconst (v := 2) hC.1 hC.2.1 dL_law_290 (by decide) ?_
  refine lv_iadd hC.1 hC.2.1 dL_law_291 ?_
  refine va_sld hC.1 hC.2.1 hX hb (Nat.not_le.mpr hb) G.2.2.2.2.2 (sx hi hL (j := 2) (by decide) rfl) dL_law_292 ?_
  rw [ex2]
  refine lv_aload_n hC.1 hC.2.1 dL_law_293 rfl (lv_at hl 1 rfl) ?_
  refine lv_iload hC.1 hC.2.1 dL_law_294 (lv_at hl 0 rfl) ?_
  refine lv_iconst (v := 3) hC.1 hC.2.1 dL_law_296 (by decide) ?_
  refine lv_iadd hC.1 hC.2.1 dL_law_297 ?_
  refine va_sld hC.1 hC.2.1 hX hb (Nat.not_le.mpr hb) G.2.2.2.2.2 (sx hi hL (j := 3) (by decide) rfl) dL_law_298 ?_
  rw [ex3]
  refine lv_aload_n hC.1 hC.2.1 dL_law_299 rfl (lv_at hl 1 rfl) ?_
  refine lv_iload hC.1 hC.2.1 dL_law_300 (lv_at hl 0 rfl) ?_
  refine lv_iconst (v := 4) hC.1 hC.2.1 dL_law_302 (by decide) ?_
  refine lv_iadd hC.1 hC.2.1 dL_law_303 ?_
  refine va_sld hC.1 hC.2.1 hX hb (Nat.not_le.mpr hb) G.2.2.2.2.2 (sx hi hL (j := 4) (by decide) rfl) dL_law_304 ?_
  rw [ex4]
  refine lv_aload_n hC.1 hC.2.1 dL_law_305 rfl (lv_at hl 4 rfl) ?_
  obtain ⟨K0, V0, Z0, P0, B0, W0, T0, hw1, hw2⟩ := sp_song I x1 x2 x3 x4
  refine lw_w (As := [.ref (lay 0), .int x1, .int x2, .int x3, .int x4, .ref o]) (rest := []) hC hT G (c_L_song l hl0 D cy lay o (post := fun r u' => cQ K0 V0 Z0 P0 B0 W0 T0 r u') hw1 _) (vx_cwSW 6 hC.2.2.2.2 (gM_s gL_law_L_song) rfl rfl rfl hdS_L_song ⟨Nat.le_of_ble_eq_true rfl, Nat.le_of_ble_eq_true rfl⟩) rfl hl.1 rfl (Nat.le_of_ble_eq_true rfl) dL_law_306 ⟨by show _ ≤ 601024; omega, by show _ ≤ 7293034; omega⟩ (fun r1 u1 H locs h1 G => ?_)
  refine lv_istore (lv' := [(5, .int r1), (4, .int (nI (7 * i))), (0, .ref b), (1, .ref (lay 0)), (2, .ref (Y.1 0)), (3, .ref o)]) hC.1 hC.2.1 dL_law_309 hl (by decide) rfl (fun ls hl => ?_)
  refine lv_aload_n hC.1 hC.2.1 dL_law_311 rfl (lv_at hl 4 rfl) ?_
  refine lv_aload_n hC.1 hC.2.1 dL_law_312 rfl (lv_at hl 2 rfl) ?_
  refine lv_iload hC.1 hC.2.1 dL_law_313 (lv_at hl 1 rfl) ?_
  refine lv_iconst (v := 1) hC.1 hC.2.1 dL_law_315 (by decide) ?_
  refine lv_iadd hC.1 hC.2.1 dL_law_316 ?_
  refine va_sld hC.1 hC.2.1 hX hb (Nat.not_le.mpr hb) G.2.2.2.2.2 (sx hi hL (j := 1) (by decide) rfl) dL_law_317 ?_
  rw [ex1]
  refine lv_aload_n hC.1 hC.2.1 dL_law_318 rfl (lv_at hl 2 rfl) ?_
  refine lv_iload hC.1 hC.2.1 dL_law_319 (lv_at hl 1 rfl) ?_
  refine lv_iconst (v := 2) hC.1 hC.2.1 dL_law_321 (by decide) ?_
  refine lv_iadd hC.1 hC.2.1 dL_law_322 ?_
  refine va_sld hC.1 hC.2.1 hX hb (Nat.not_le.mpr hb) G.2.2.2.2.2 (sx hi hL (j := 2) (by decide) rfl) dL_law_323 ?_
  rw [ex2]
  refine lv_aload_n hC.1 hC.2.1 dL_law_324 rfl (lv_at hl 2 rfl) ?_
  refine lv_iload hC.1 hC.2.1 dL_law_325 (lv_at hl 1 rfl) ?_
  refine lv_iconst (v := 3) hC.1 hC.2.1 dL_law_327 (by decide) ?_
  refine lv_iadd hC.1 hC.2.1 dL_law_328 ?_
  refine va_sld hC.1 hC.2.1 hX hb (Nat.not_le.mpr hb) G.2.2.2.2.2 (sx hi hL (j := 3) (by decide) rfl) dL_law_329 ?_
  rw [ex3]
  refine lv_aload_n hC.1 hC.2.1 dL_law_330 rfl (lv_at hl 2 rfl) ?_
  refine lv_iload hC.1 hC.2.1 dL_law_331 (lv_at hl 1 rfl) ?_
  refine lv_iconst (v := 4) hC.1 hC.2.1 dL_law_333 (by decide) ?_
  refine lv_iadd hC.1 hC.2.1 dL_law_334 ?_
  refine va_sld hC.1 hC.2.1 hX hb (Nat.not_le.mpr hb) G.2.2.2.2.2 (sx hi hL (j := 4) (by decide) rfl) dL_law_335 ?_
  rw [ex4]
  refine lw_ri (As := [.int x1, .int x2, .int x3, .int x4]) (rest := []) hC hT G (c_X11_song l D cy Y.1 Y.2.1 (post := fun r τ => rfQ K0 V0 Z0 P0 B0 W0 ea r (Y.1, Y.2.1, τ)) hw2 _) (cwV 4 hC.2.2.2.2 (gM_w gL_law_X11_song) rfl rfl rfl hdV_X11_song ⟨Nat.le_of_ble_eq_true rfl, Nat.le_of_ble_eq_true rfl⟩) rfl hl.1 rfl (Nat.le_of_ble_eq_true rfl) dL_law_336 ⟨by show _ ≤ 601024; omega, by show _ ≤ 7293034; omega⟩ (fun r2 σ2 H locs h2 G => ?_)
  refine lv_istore (lv' := [(6, .int r2), (5, .int r1), (4, .int (nI (7 * i))), (0, .ref b), (1, .ref (lay 0)), (2, .ref (Y.1 0)), (3, .ref o)]) hC.1 hC.2.1 dL_law_339 hl (by decide) rfl (fun ls hl => ?_)
  obtain ⟨e1, e2, e3⟩ := qq (Y := (Y.1, Y.2.1, σ2)) h1 h2
  refine lv_goto (tgt := 1345) hC.1 hC.2.1 dL_law_341 (by decide) ?_
  refine W.widen (k := K + 400) (n := S + 6000) (by omega) (by omega) ?_
  exact kk u1 (Y.1, Y.2.1, σ2) _ _ _ e3 rfl G (lv_sub hl [2, 3, 4, 5, 6] rfl)
set_option maxHeartbeats 4000000 in
set_option maxRecDepth 100000 in
/-- feud -/
theorem lc_feud {p : Program} {l : Launch} {e : Env} {s : State} {m : MethodId} {below : List Frame} {meth : Method} {c : Code} {Q : State → Prop} {D : va_G} {cy : Nat → ClassId} {lay : Nat → Nat} {o b L i K S m0 ea mi ta : Nat} {ad ac am : Nat → Nat} {xs : Nat → Int32} {u : OU} {Y : RY} {H : Heap} {locs : List Loc} {ls : Array Slot} (hl0 : l.stackTraces = false) (hC : CallFix p m c cL_law 7 s #[Value.ref b] (wsL_law ++ lkL) RL) (hr : meth.sig.returnType = some .boolean) (hT : lwT D cy ea mi ta ad ac am s) (hL : L ≤ 3584) (hX : va_X b L xs s s.heap) (hb : b < s.heap.size) (hi : 7 * i + 7 ≤ L) (hK : K + 400 ≤ 601024) (hS : S + 6000 ≤ 7293034) (hm : Y.1 0 = m0) (I : LI ea u Y) (G : lwG D cy lay o u Y s H locs) (hl : lv_has ls 7 [(4, .int (nI (7 * i))), (0, .ref b), (1, .ref (lay 0)), (2, .ref m0), (3, .ref o)]) (kk : ∀ (u' : OU) (Y' : RY) (H1 : Heap) (locs1 : List Loc) (ls1 : Array Slot), LI ea u' Y' → Y'.1 0 = m0 → lwG D cy lay o u' Y' s H1 locs1 → lv_has ls1 7 [(4, .int (nI (7 * i))), (0, .ref b), (1, .ref (lay 0)), (2, .ref m0), (3, .ref o)] → W p l e room_1 s m #[Value.ref b] below meth c H1 locs1 (K + 400) (S + 6000) Q (F0 m 1345 ls1 [])) : W p l e room_1 s m #[Value.ref b] below meth c H locs K S Q (F0 m 344 ls []) := by
  subst hm
  obtain ⟨T, I⟩ := I
  have I : LIT ea T u Y := I
  obtain ⟨x1, ex1⟩ : ∃ x : Int32, xs (Int32.toNatClampNeg (nI (7 * i) + 1)) = x := ⟨_, rfl⟩
  obtain ⟨x2, ex2⟩ : ∃ x : Int32, xs (Int32.toNatClampNeg (nI (7 * i) + 2)) = x := ⟨_, rfl⟩
  obtain ⟨x3, ex3⟩ : ∃ x : Int32, xs (Int32.toNatClampNeg (nI (7 * i) + 3)) = x := ⟨_, rfl⟩
  refine lv_aload_n hC.1 hC.2.1 dL_law_344 rfl (lv_at hl 2 rfl) ?_
  refine lv_aload_n hC.1 hC.2.1 dL_law_345 rfl (lv_at hl 1 rfl) ?_
  refine lv_iload hC.1 hC.2.1 dL_law_346 (lv_at hl 0 rfl) ?_
  refine lv_iconst (v := 1) hC.1 hC.2.1 dL_law_348 (by decide) ?_
  refine lv_iadd hC.1 hC.2.1 dL_law_349 ?_
  refine va_sld hC.1 hC.2.1 hX hb (Nat.not_le.mpr hb) G.2.2.2.2.2 (sx hi hL (j := 1) (by decide) rfl) dL_law_350 ?_
  rw [ex1]
  refine lv_aload_n hC.1 hC.2.1 dL_law_351 rfl (lv_at hl 1 rfl) ?_
  refine lv_iload hC.1 hC.2.1 dL_law_352 (lv_at hl 0 rfl) ?_
  refine lv_iconst (v := 2) hC.1 hC.2.1 dL_law_354 (by decide) ?_
  refine lv_iadd hC.1 hC.2.1 dL_law_355 ?_
  refine va_sld hC.1 hC.2.1 hX hb (Nat.not_le.mpr hb) G.2.2.2.2.2 (sx hi hL (j := 2) (by decide) rfl) dL_law_356 ?_
  rw [ex2]
  refine lv_aload_n hC.1 hC.2.1 dL_law_357 rfl (lv_at hl 1 rfl) ?_
  refine lv_iload hC.1 hC.2.1 dL_law_358 (lv_at hl 0 rfl) ?_
  refine lv_iconst (v := 3) hC.1 hC.2.1 dL_law_360 (by decide) ?_
  refine lv_iadd hC.1 hC.2.1 dL_law_361 ?_
  refine va_sld hC.1 hC.2.1 hX hb (Nat.not_le.mpr hb) G.2.2.2.2.2 (sx hi hL (j := 3) (by decide) rfl) dL_law_362 ?_
  rw [ex3]
  have goz0 : ∀ z0 : Int32, z0 = (if x3 = 0 then (0 : Int32) else 1) → W p l e room_1 s m #[Value.ref b] below meth c H locs K S Q (F0 m 371 ls [.int z0, .int x2, .int x1, .ref (lay 0)]) := fun z0 hz0 => ?_
  · exact lv_if_eq (tgt := 370) hC.1 hC.2.1 dL_law_363 (by decide) (fun cz => lv_iconst (v := 0) hC.1 hC.2.1 dL_law_370 (by decide) (goz0 0 (by rw [if_pos cz]))) (fun cz => lv_iconst (v := 1) hC.1 hC.2.1 dL_law_366 (by decide) (lv_goto (tgt := 371) hC.1 hC.2.1 dL_law_367 (by decide) (goz0 1 (by rw [if_neg cz]))))
  refine lv_aload_n hC.1 hC.2.1 dL_law_371 rfl (lv_at hl 4 rfl) ?_
  obtain ⟨K0, V0, Z0, P0, B0, W0, T0, hw1, hw2⟩ := sp_feud I x1 x2 z0 (by rw [hz0]; split; exact Or.inl rfl; exact Or.inr rfl)
  refine lw_w (As := [.ref (lay 0), .int x1, .int x2, .int z0, .ref o]) (rest := []) hC hT G (c_L_feud l hl0 D cy lay o (post := fun r u' => cQ K0 V0 Z0 P0 B0 W0 T0 r u') hw1 _) (vx_cwSW 5 hC.2.2.2.2 (gM_s gL_law_L_feud) rfl rfl rfl hdS_L_feud ⟨Nat.le_of_ble_eq_true rfl, Nat.le_of_ble_eq_true rfl⟩) rfl hl.1 rfl (Nat.le_of_ble_eq_true rfl) dL_law_372 ⟨by show _ ≤ 601024; omega, by show _ ≤ 7293034; omega⟩ (fun r1 u1 H locs h1 G => ?_)
  refine lv_istore (lv' := [(5, .int r1), (4, .int (nI (7 * i))), (0, .ref b), (1, .ref (lay 0)), (2, .ref (Y.1 0)), (3, .ref o)]) hC.1 hC.2.1 dL_law_375 hl (by decide) rfl (fun ls hl => ?_)
  refine lv_aload_n hC.1 hC.2.1 dL_law_377 rfl (lv_at hl 4 rfl) ?_
  refine lv_aload_n hC.1 hC.2.1 dL_law_378 rfl (lv_at hl 2 rfl) ?_
  refine lv_iload hC.1 hC.2.1 dL_law_379 (lv_at hl 1 rfl) ?_
  refine lv_iconst (v := 1) hC.1 hC.2.1 dL_law_381 (by decide) ?_
  refine lv_iadd hC.1 hC.2.1 dL_law_382 ?_
  refine va_sld hC.1 hC.2.1 hX hb (Nat.not_le.mpr hb) G.2.2.2.2.2 (sx hi hL (j := 1) (by decide) rfl) dL_law_383 ?_
  rw [ex1]
  refine lv_aload_n hC.1 hC.2.1 dL_law_384 rfl (lv_at hl 2 rfl) ?_
  refine lv_iload hC.1 hC.2.1 dL_law_385 (lv_at hl 1 rfl) ?_
  refine lv_iconst (v := 2) hC.1 hC.2.1 dL_law_387 (by decide) ?_
  refine lv_iadd hC.1 hC.2.1 dL_law_388 ?_
  refine va_sld hC.1 hC.2.1 hX hb (Nat.not_le.mpr hb) G.2.2.2.2.2 (sx hi hL (j := 2) (by decide) rfl) dL_law_389 ?_
  rw [ex2]
  refine lv_aload_n hC.1 hC.2.1 dL_law_390 rfl (lv_at hl 2 rfl) ?_
  refine lv_iload hC.1 hC.2.1 dL_law_391 (lv_at hl 1 rfl) ?_
  refine lv_iconst (v := 3) hC.1 hC.2.1 dL_law_393 (by decide) ?_
  refine lv_iadd hC.1 hC.2.1 dL_law_394 ?_
  refine va_sld hC.1 hC.2.1 hX hb (Nat.not_le.mpr hb) G.2.2.2.2.2 (sx hi hL (j := 3) (by decide) rfl) dL_law_395 ?_
  rw [ex3]
  have goz1 : ∀ z1 : Int32, z1 = (if x3 = 0 then (0 : Int32) else 1) → W p l e room_1 s m #[Value.ref b] below meth c H locs (K + 3) (S + 18) Q (F0 m 404 ls [.int z1, .int x2, .int x1, .ref (Y.1 0)]) := fun z1 hz1 => ?_
  · exact lv_if_eq (tgt := 403) hC.1 hC.2.1 dL_law_396 (by decide) (fun cz => lv_iconst (v := 0) hC.1 hC.2.1 dL_law_403 (by decide) (goz1 0 (by rw [if_pos cz]))) (fun cz => lv_iconst (v := 1) hC.1 hC.2.1 dL_law_399 (by decide) (lv_goto (tgt := 404) hC.1 hC.2.1 dL_law_400 (by decide) (goz1 1 (by rw [if_neg cz]))))
  rw [show z1 = z0 from hz1.trans hz0.symm]
  refine lw_ri (As := [.int x1, .int x2, .int z0]) (rest := []) hC hT G (c_X11_feud l D cy Y.1 Y.2.1 (post := fun r τ => rfQ K0 V0 Z0 P0 B0 W0 ea r (Y.1, Y.2.1, τ) ∧ (r = 0 ∨ r = 1)) hw2 _) (cwV 3 hC.2.2.2.2 (gM_w gL_law_X11_feud) rfl rfl rfl hdV_X11_feud ⟨Nat.le_of_ble_eq_true rfl, Nat.le_of_ble_eq_true rfl⟩) rfl hl.1 rfl (Nat.le_of_ble_eq_true rfl) dL_law_404 ⟨by show _ ≤ 601024; omega, by show _ ≤ 7293034; omega⟩ (fun r2 σ2 H locs h2 G => ?_)
  refine lv_istore (lv' := [(6, .int r2), (5, .int r1), (4, .int (nI (7 * i))), (0, .ref b), (1, .ref (lay 0)), (2, .ref (Y.1 0)), (3, .ref o)]) hC.1 hC.2.1 dL_law_407 hl (by decide) rfl (fun ls hl => ?_)
  obtain ⟨e1, e2, e3⟩ := qq (Y := (Y.1, Y.2.1, σ2)) h1 h2.1
  refine lv_goto (tgt := 1345) hC.1 hC.2.1 dL_law_409 (by decide) ?_
  refine W.widen (k := K + 400) (n := S + 6000) (by omega) (by omega) ?_
  exact kk u1 (Y.1, Y.2.1, σ2) _ _ _ e3 rfl G (lv_sub hl [2, 3, 4, 5, 6] rfl)
set_option maxHeartbeats 4000000 in
set_option maxRecDepth 100000 in
/-- road -/
theorem lc_road {p : Program} {l : Launch} {e : Env} {s : State} {m : MethodId} {below : List Frame} {meth : Method} {c : Code} {Q : State → Prop} {D : va_G} {cy : Nat → ClassId} {lay : Nat → Nat} {o b L i K S m0 ea mi ta : Nat} {ad ac am : Nat → Nat} {xs : Nat → Int32} {u : OU} {Y : RY} {H : Heap} {locs : List Loc} {ls : Array Slot} (hl0 : l.stackTraces = false) (hC : CallFix p m c cL_law 7 s #[Value.ref b] (wsL_law ++ lkL) RL) (hr : meth.sig.returnType = some .boolean) (hT : lwT D cy ea mi ta ad ac am s) (hL : L ≤ 3584) (hX : va_X b L xs s s.heap) (hb : b < s.heap.size) (hi : 7 * i + 7 ≤ L) (hK : K + 400 ≤ 601024) (hS : S + 6000 ≤ 7293034) (hm : Y.1 0 = m0) (I : LI ea u Y) (G : lwG D cy lay o u Y s H locs) (hl : lv_has ls 7 [(4, .int (nI (7 * i))), (0, .ref b), (1, .ref (lay 0)), (2, .ref m0), (3, .ref o)]) (kk : ∀ (u' : OU) (Y' : RY) (H1 : Heap) (locs1 : List Loc) (ls1 : Array Slot), LI ea u' Y' → Y'.1 0 = m0 → lwG D cy lay o u' Y' s H1 locs1 → lv_has ls1 7 [(4, .int (nI (7 * i))), (0, .ref b), (1, .ref (lay 0)), (2, .ref m0), (3, .ref o)] → W p l e room_1 s m #[Value.ref b] below meth c H1 locs1 (K + 400) (S + 6000) Q (F0 m 1345 ls1 [])) : W p l e room_1 s m #[Value.ref b] below meth c H locs K S Q (F0 m 412 ls []) := by
  subst hm
  obtain ⟨T, I⟩ := I
  have I : LIT ea T u Y := I
  obtain ⟨x1, ex1⟩ : ∃ x : Int32, xs (Int32.toNatClampNeg (nI (7 * i) + 1)) = x := ⟨_, rfl⟩
  obtain ⟨x2, ex2⟩ : ∃ x : Int32, xs (Int32.toNatClampNeg (nI (7 * i) + 2)) = x := ⟨_, rfl⟩
  obtain ⟨x3, ex3⟩ : ∃ x : Int32, xs (Int32.toNatClampNeg (nI (7 * i) + 3)) = x := ⟨_, rfl⟩
  refine lv_aload_n hC.1 hC.2.1 dL_law_412 rfl (lv_at hl 2 rfl) ?_
  refine lv_aload_n hC.1 hC.2.1 dL_law_413 rfl (lv_at hl 1 rfl) ?_
  refine lv_iload hC.1 hC.2.1 dL_law_414 (lv_at hl 0 rfl) ?_
  refine lv_iconst (v := 1) hC.1 hC.2.1 dL_law_416 (by decide) ?_
  refine lv_iadd hC.1 hC.2.1 dL_law_417 ?_
  refine va_sld hC.1 hC.2.1 hX hb (Nat.not_le.mpr hb) G.2.2.2.2.2 (sx hi hL (j := 1) (by decide) rfl) dL_law_418 ?_
  rw [ex1]
  refine lv_aload_n hC.1 hC.2.1 dL_law_419 rfl (lv_at hl 1 rfl) ?_
  refine lv_iload hC.1 hC.2.1 dL_law_420 (lv_at hl 0 rfl) ?_
  refine lv_iconst (v := 2) hC.1 hC.2.1 dL_law_422 (by decide) ?_
  refine lv_iadd hC.1 hC.2.1 dL_law_423 ?_
  refine va_sld hC.1 hC.2.1 hX hb (Nat.not_le.mpr hb) G.2.2.2.2.2 (sx hi hL (j := 2) (by decide) rfl) dL_law_424 ?_
  rw [ex2]
  refine lv_aload_n hC.1 hC.2.1 dL_law_425 rfl (lv_at hl 1 rfl) ?_
  refine lv_iload hC.1 hC.2.1 dL_law_426 (lv_at hl 0 rfl) ?_
  refine lv_iconst (v := 3) hC.1 hC.2.1 dL_law_428 (by decide) ?_
  refine lv_iadd hC.1 hC.2.1 dL_law_429 ?_
  refine va_sld hC.1 hC.2.1 hX hb (Nat.not_le.mpr hb) G.2.2.2.2.2 (sx hi hL (j := 3) (by decide) rfl) dL_law_430 ?_
  rw [ex3]
  refine lv_aload_n hC.1 hC.2.1 dL_law_431 rfl (lv_at hl 4 rfl) ?_
  obtain ⟨K0, V0, Z0, P0, B0, W0, T0, hw1, hw2⟩ := sp_road I x1 x2 x3
  refine lw_w (As := [.ref (lay 0), .int x1, .int x2, .int x3, .ref o]) (rest := []) hC hT G (c_L_road l hl0 D cy lay o (post := fun r u' => cQ K0 V0 Z0 P0 B0 W0 T0 r u') hw1 _) (vx_cwSW 5 hC.2.2.2.2 (gM_s gL_law_L_road) rfl rfl rfl hdS_L_road ⟨Nat.le_of_ble_eq_true rfl, Nat.le_of_ble_eq_true rfl⟩) rfl hl.1 rfl (Nat.le_of_ble_eq_true rfl) dL_law_432 ⟨by show _ ≤ 601024; omega, by show _ ≤ 7293034; omega⟩ (fun r1 u1 H locs h1 G => ?_)
  refine lv_istore (lv' := [(5, .int r1), (4, .int (nI (7 * i))), (0, .ref b), (1, .ref (lay 0)), (2, .ref (Y.1 0)), (3, .ref o)]) hC.1 hC.2.1 dL_law_435 hl (by decide) rfl (fun ls hl => ?_)
  refine lv_aload_n hC.1 hC.2.1 dL_law_437 rfl (lv_at hl 4 rfl) ?_
  refine lv_aload_n hC.1 hC.2.1 dL_law_438 rfl (lv_at hl 2 rfl) ?_
  refine lv_iload hC.1 hC.2.1 dL_law_439 (lv_at hl 1 rfl) ?_
  refine lv_iconst (v := 1) hC.1 hC.2.1 dL_law_441 (by decide) ?_
  refine lv_iadd hC.1 hC.2.1 dL_law_442 ?_
  refine va_sld hC.1 hC.2.1 hX hb (Nat.not_le.mpr hb) G.2.2.2.2.2 (sx hi hL (j := 1) (by decide) rfl) dL_law_443 ?_
  rw [ex1]
  refine lv_aload_n hC.1 hC.2.1 dL_law_444 rfl (lv_at hl 2 rfl) ?_
  refine lv_iload hC.1 hC.2.1 dL_law_445 (lv_at hl 1 rfl) ?_
  refine lv_iconst (v := 2) hC.1 hC.2.1 dL_law_447 (by decide) ?_
  refine lv_iadd hC.1 hC.2.1 dL_law_448 ?_
  refine va_sld hC.1 hC.2.1 hX hb (Nat.not_le.mpr hb) G.2.2.2.2.2 (sx hi hL (j := 2) (by decide) rfl) dL_law_449 ?_
  rw [ex2]
  refine lv_aload_n hC.1 hC.2.1 dL_law_450 rfl (lv_at hl 2 rfl) ?_
  refine lv_iload hC.1 hC.2.1 dL_law_451 (lv_at hl 1 rfl) ?_
  refine lv_iconst (v := 3) hC.1 hC.2.1 dL_law_453 (by decide) ?_
  refine lv_iadd hC.1 hC.2.1 dL_law_454 ?_
  refine va_sld hC.1 hC.2.1 hX hb (Nat.not_le.mpr hb) G.2.2.2.2.2 (sx hi hL (j := 3) (by decide) rfl) dL_law_455 ?_
  rw [ex3]
  refine lw_ri (As := [.int x1, .int x2, .int x3]) (rest := []) hC hT G (c_X11_road l D cy Y.1 Y.2.1 (post := fun r τ => rfQ K0 V0 Z0 P0 B0 W0 ea r (Y.1, Y.2.1, τ)) hw2 _) (cwV 3 hC.2.2.2.2 (gM_w gL_law_X11_road) rfl rfl rfl hdV_X11_road ⟨Nat.le_of_ble_eq_true rfl, Nat.le_of_ble_eq_true rfl⟩) rfl hl.1 rfl (Nat.le_of_ble_eq_true rfl) dL_law_456 ⟨by show _ ≤ 601024; omega, by show _ ≤ 7293034; omega⟩ (fun r2 σ2 H locs h2 G => ?_)
  refine lv_istore (lv' := [(6, .int r2), (5, .int r1), (4, .int (nI (7 * i))), (0, .ref b), (1, .ref (lay 0)), (2, .ref (Y.1 0)), (3, .ref o)]) hC.1 hC.2.1 dL_law_459 hl (by decide) rfl (fun ls hl => ?_)
  obtain ⟨e1, e2, e3⟩ := qq (Y := (Y.1, Y.2.1, σ2)) h1 h2
  refine lv_goto (tgt := 1345) hC.1 hC.2.1 dL_law_461 (by decide) ?_
  refine W.widen (k := K + 400) (n := S + 6000) (by omega) (by omega) ?_
  exact kk u1 (Y.1, Y.2.1, σ2) _ _ _ e3 rfl G (lv_sub hl [2, 3, 4, 5, 6] rfl)
set_option maxHeartbeats 4000000 in
set_option maxRecDepth 100000 in
/-- band -/
theorem lc_band {p : Program} {l : Launch} {e : Env} {s : State} {m : MethodId} {below : List Frame} {meth : Method} {c : Code} {Q : State → Prop} {D : va_G} {cy : Nat → ClassId} {lay : Nat → Nat} {o b L i K S m0 ea mi ta : Nat} {ad ac am : Nat → Nat} {xs : Nat → Int32} {u : OU} {Y : RY} {H : Heap} {locs : List Loc} {ls : Array Slot} (hl0 : l.stackTraces = false) (hC : CallFix p m c cL_law 7 s #[Value.ref b] (wsL_law ++ lkL) RL) (hr : meth.sig.returnType = some .boolean) (hT : lwT D cy ea mi ta ad ac am s) (hL : L ≤ 3584) (hX : va_X b L xs s s.heap) (hb : b < s.heap.size) (hi : 7 * i + 7 ≤ L) (hK : K + 400 ≤ 601024) (hS : S + 6000 ≤ 7293034) (hm : Y.1 0 = m0) (I : LI ea u Y) (G : lwG D cy lay o u Y s H locs) (hl : lv_has ls 7 [(4, .int (nI (7 * i))), (0, .ref b), (1, .ref (lay 0)), (2, .ref m0), (3, .ref o)]) (kk : ∀ (u' : OU) (Y' : RY) (H1 : Heap) (locs1 : List Loc) (ls1 : Array Slot), LI ea u' Y' → Y'.1 0 = m0 → lwG D cy lay o u' Y' s H1 locs1 → lv_has ls1 7 [(4, .int (nI (7 * i))), (0, .ref b), (1, .ref (lay 0)), (2, .ref m0), (3, .ref o)] → W p l e room_1 s m #[Value.ref b] below meth c H1 locs1 (K + 400) (S + 6000) Q (F0 m 1345 ls1 [])) : W p l e room_1 s m #[Value.ref b] below meth c H locs K S Q (F0 m 464 ls []) := by
  subst hm
  obtain ⟨T, I⟩ := I
  have I : LIT ea T u Y := I
  obtain ⟨x1, ex1⟩ : ∃ x : Int32, xs (Int32.toNatClampNeg (nI (7 * i) + 1)) = x := ⟨_, rfl⟩
  refine lv_aload_n hC.1 hC.2.1 dL_law_464 rfl (lv_at hl 2 rfl) ?_
  refine lv_aload_n hC.1 hC.2.1 dL_law_465 rfl (lv_at hl 1 rfl) ?_
  refine lv_iload hC.1 hC.2.1 dL_law_466 (lv_at hl 0 rfl) ?_
  refine lv_iconst (v := 1) hC.1 hC.2.1 dL_law_468 (by decide) ?_
  refine lv_iadd hC.1 hC.2.1 dL_law_469 ?_
  refine va_sld hC.1 hC.2.1 hX hb (Nat.not_le.mpr hb) G.2.2.2.2.2 (sx hi hL (j := 1) (by decide) rfl) dL_law_470 ?_
  rw [ex1]
  refine lv_aload_n hC.1 hC.2.1 dL_law_471 rfl (lv_at hl 4 rfl) ?_
  obtain ⟨K0, V0, Z0, P0, B0, W0, T0, hw1, hw2⟩ := sp_band I x1
  refine lw_w (As := [.ref (lay 0), .int x1, .ref o]) (rest := []) hC hT G (c_L_band l hl0 D cy lay o (post := fun r u' => cQ K0 V0 Z0 P0 B0 W0 T0 r u') hw1 _) (vx_cwSW 3 hC.2.2.2.2 (gM_s gL_law_L_band) rfl rfl rfl hdS_L_band ⟨Nat.le_of_ble_eq_true rfl, Nat.le_of_ble_eq_true rfl⟩) rfl hl.1 rfl (Nat.le_of_ble_eq_true rfl) dL_law_472 ⟨by show _ ≤ 601024; omega, by show _ ≤ 7293034; omega⟩ (fun r1 u1 H locs h1 G => ?_)
  refine lv_istore (lv' := [(5, .int r1), (4, .int (nI (7 * i))), (0, .ref b), (1, .ref (lay 0)), (2, .ref (Y.1 0)), (3, .ref o)]) hC.1 hC.2.1 dL_law_475 hl (by decide) rfl (fun ls hl => ?_)
  refine lv_aload_n hC.1 hC.2.1 dL_law_477 rfl (lv_at hl 4 rfl) ?_
  refine lv_aload_n hC.1 hC.2.1 dL_law_478 rfl (lv_at hl 2 rfl) ?_
  refine lv_iload hC.1 hC.2.1 dL_law_479 (lv_at hl 1 rfl) ?_
  refine lv_iconst (v := 1) hC.1 hC.2.1 dL_law_481 (by decide) ?_
  refine lv_iadd hC.1 hC.2.1 dL_law_482 ?_
  refine va_sld hC.1 hC.2.1 hX hb (Nat.not_le.mpr hb) G.2.2.2.2.2 (sx hi hL (j := 1) (by decide) rfl) dL_law_483 ?_
  rw [ex1]
  refine lw_rb (As := [.int x1]) (rest := []) (fun r Y' hq => hq.2) hC hT I.he G (c_X11_band l D cy Y.1 Y.2.1 mi ta ad (post := fun r Y' => rfQ K0 V0 Z0 P0 B0 W0 ea r Y' ∧ Y'.2.1.2.2.2.1 = Y.2.1.2.2.2.1) hw2 _) (cwV 1 hC.2.2.2.2 (gM_w gL_law_X11_band) rfl rfl rfl hdV_X11_band ⟨Nat.le_of_ble_eq_true rfl, Nat.le_of_ble_eq_true rfl⟩) rfl hl.1 rfl (Nat.le_of_ble_eq_true rfl) dL_law_484 ⟨by show _ ≤ 601024; omega, by show _ ≤ 7293034; omega⟩ (fun r2 Y2 H locs h2 hz G => ?_)
  refine lv_istore (lv' := [(6, .int r2), (5, .int r1), (4, .int (nI (7 * i))), (0, .ref b), (1, .ref (lay 0)), (2, .ref (Y.1 0)), (3, .ref o)]) hC.1 hC.2.1 dL_law_487 hl (by decide) rfl (fun ls hl => ?_)
  obtain ⟨e1, e2, e3⟩ := qq (Y := Y2) h1 h2.1
  refine lv_goto (tgt := 1345) hC.1 hC.2.1 dL_law_489 (by decide) ?_
  refine W.widen (k := K + 400) (n := S + 6000) (by omega) (by omega) ?_
  exact kk u1 Y2 _ _ _ e3 hz G (lv_sub hl [2, 3, 4, 5, 6] rfl)
set_option maxHeartbeats 4000000 in
set_option maxRecDepth 100000 in
/-- ask -/
theorem lc_ask {p : Program} {l : Launch} {e : Env} {s : State} {m : MethodId} {below : List Frame} {meth : Method} {c : Code} {Q : State → Prop} {D : va_G} {cy : Nat → ClassId} {lay : Nat → Nat} {o b L i K S m0 ea mi ta : Nat} {ad ac am : Nat → Nat} {xs : Nat → Int32} {u : OU} {Y : RY} {H : Heap} {locs : List Loc} {ls : Array Slot} (hl0 : l.stackTraces = false) (hC : CallFix p m c cL_law 7 s #[Value.ref b] (wsL_law ++ lkL) RL) (hr : meth.sig.returnType = some .boolean) (hT : lwT D cy ea mi ta ad ac am s) (hL : L ≤ 3584) (hX : va_X b L xs s s.heap) (hb : b < s.heap.size) (hi : 7 * i + 7 ≤ L) (hK : K + 400 ≤ 601024) (hS : S + 6000 ≤ 7293034) (hm : Y.1 0 = m0) (I : LI ea u Y) (G : lwG D cy lay o u Y s H locs) (hl : lv_has ls 7 [(4, .int (nI (7 * i))), (0, .ref b), (1, .ref (lay 0)), (2, .ref m0), (3, .ref o)]) (kk : ∀ (u' : OU) (Y' : RY) (H1 : Heap) (locs1 : List Loc) (ls1 : Array Slot), LI ea u' Y' → Y'.1 0 = m0 → lwG D cy lay o u' Y' s H1 locs1 → lv_has ls1 7 [(4, .int (nI (7 * i))), (0, .ref b), (1, .ref (lay 0)), (2, .ref m0), (3, .ref o)] → W p l e room_1 s m #[Value.ref b] below meth c H1 locs1 (K + 400) (S + 6000) Q (F0 m 1345 ls1 [])) : W p l e room_1 s m #[Value.ref b] below meth c H locs K S Q (F0 m 492 ls []) := by
  subst hm
  obtain ⟨T, I⟩ := I
  have I : LIT ea T u Y := I
  obtain ⟨x1, ex1⟩ : ∃ x : Int32, xs (Int32.toNatClampNeg (nI (7 * i) + 1)) = x := ⟨_, rfl⟩
  obtain ⟨x2, ex2⟩ : ∃ x : Int32, xs (Int32.toNatClampNeg (nI (7 * i) + 2)) = x := ⟨_, rfl⟩
  obtain ⟨x3, ex3⟩ : ∃ x : Int32, xs (Int32.toNatClampNeg (nI (7 * i) + 3)) = x := ⟨_, rfl⟩
  obtain ⟨x4, ex4⟩ : ∃ x : Int32, xs (Int32.toNatClampNeg (nI (7 * i) + 4)) = x := ⟨_, rfl⟩
  obtain ⟨x5, ex5⟩ : ∃ x : Int32, xs (Int32.toNatClampNeg (nI (7 * i) + 5)) = x := ⟨_, rfl⟩
  obtain ⟨x6, ex6⟩ : ∃ x : Int32, xs (Int32.toNatClampNeg (nI (7 * i) + 6)) = x := ⟨_, rfl⟩
  refine lv_aload_n hC.1 hC.2.1 dL_law_492 rfl (lv_at hl 2 rfl) ?_
  refine lv_aload_n hC.1 hC.2.1 dL_law_493 rfl (lv_at hl 1 rfl) ?_
  refine lv_iload hC.1 hC.2.1 dL_law_494 (lv_at hl 0 rfl) ?_
  refine lv_iconst (v := 1) hC.1 hC.2.1 dL_law_496 (by decide) ?_
  refine lv_iadd hC.1 hC.2.1 dL_law_497 ?_
  refine va_sld hC.1 hC.2.1 hX hb (Nat.not_le.mpr hb) G.2.2.2.2.2 (sx hi hL (j := 1) (by decide) rfl) dL_law_498 ?_
  rw [ex1]
  refine lv_aload_n hC.1 hC.2.1 dL_law_499 rfl (lv_at hl 1 rfl) ?_
  refine lv_iload hC.1 hC.2.1 dL_law_500 (lv_at hl 0 rfl) ?_
  refine lv_iconst (v := 2) hC.1 hC.2.1 dL_law_502 (by decide) ?_
  refine lv_iadd hC.1 hC.2.1 dL_law_503 ?_
  refine va_sld hC.1 hC.2.1 hX hb (Nat.not_le.mpr hb) G.2.2.2.2.2 (sx hi hL (j := 2) (by decide) rfl) dL_law_504 ?_
  rw [ex2]
  refine lv_aload_n hC.1 hC.2.1 dL_law_505 rfl (lv_at hl 1 rfl) ?_
  refine lv_iload hC.1 hC.2.1 dL_law_506 (lv_at hl 0 rfl) ?_
  refine lv_iconst (v := 3) hC.1 hC.2.1 dL_law_508 (by decide) ?_
  refine lv_iadd hC.1 hC.2.1 dL_law_509 ?_
  refine va_sld hC.1 hC.2.1 hX hb (Nat.not_le.mpr hb) G.2.2.2.2.2 (sx hi hL (j := 3) (by decide) rfl) dL_law_510 ?_
  rw [ex3]
  refine lv_aload_n hC.1 hC.2.1 dL_law_511 rfl (lv_at hl 1 rfl) ?_
  refine lv_iload hC.1 hC.2.1 dL_law_512 (lv_at hl 0 rfl) ?_
  refine lv_iconst (v := 4) hC.1 hC.2.1 dL_law_514 (by decide) ?_
  refine lv_iadd hC.1 hC.2.1 dL_law_515 ?_
  refine va_sld hC.1 hC.2.1 hX hb (Nat.not_le.mpr hb) G.2.2.2.2.2 (sx hi hL (j := 4) (by decide) rfl) dL_law_516 ?_
  rw [ex4]
  refine lv_aload_n hC.1 hC.2.1 dL_law_517 rfl (lv_at hl 1 rfl) ?_
  refine lv_iload hC.1 hC.2.1 dL_law_518 (lv_at hl 0 rfl) ?_
  refine lv_iconst (v := 5) hC.1 hC.2.1 dL_law_520 (by decide) ?_
  refine lv_iadd hC.1 hC.2.1 dL_law_521 ?_
  refine va_sld hC.1 hC.2.1 hX hb (Nat.not_le.mpr hb) G.2.2.2.2.2 (sx hi hL (j := 5) (by decide) rfl) dL_law_522 ?_
  rw [ex5]
  refine lv_aload_n hC.1 hC.2.1 dL_law_523 rfl (lv_at hl 1 rfl) ?_
  refine lv_iload hC.1 hC.2.1 dL_law_524 (lv_at hl 0 rfl) ?_
  refine lv_bipush (v := 6) hC.1 hC.2.1 dL_law_526 (by decide) ?_
  refine lv_iadd hC.1 hC.2.1 dL_law_528 ?_
  refine va_sld hC.1 hC.2.1 hX hb (Nat.not_le.mpr hb) G.2.2.2.2.2 (sx hi hL (j := 6) (by decide) rfl) dL_law_529 ?_
  rw [ex6]
  refine lv_aload_n hC.1 hC.2.1 dL_law_530 rfl (lv_at hl 4 rfl) ?_
  obtain ⟨K0, V0, Z0, P0, B0, W0, T0, hw1, hw2⟩ := sp_ask I x1 x2 x3 x4 x5 x6
  refine lw_w (As := [.ref (lay 0), .int x1, .int x2, .int x3, .int x4, .int x5, .int x6, .ref o]) (rest := []) hC hT G (c_L_ask l hl0 D cy lay o (post := fun r u' => cQ K0 V0 Z0 P0 B0 W0 T0 r u') hw1 _) (vx_cwSW 8 hC.2.2.2.2 (gM_s gL_law_L_ask) rfl rfl rfl hdS_L_ask ⟨Nat.le_of_ble_eq_true rfl, Nat.le_of_ble_eq_true rfl⟩) rfl hl.1 rfl (Nat.le_of_ble_eq_true rfl) dL_law_531 ⟨by show _ ≤ 601024; omega, by show _ ≤ 7293034; omega⟩ (fun r1 u1 H locs h1 G => ?_)
  refine lv_istore (lv' := [(5, .int r1), (4, .int (nI (7 * i))), (0, .ref b), (1, .ref (lay 0)), (2, .ref (Y.1 0)), (3, .ref o)]) hC.1 hC.2.1 dL_law_534 hl (by decide) rfl (fun ls hl => ?_)
  refine lv_aload_n hC.1 hC.2.1 dL_law_536 rfl (lv_at hl 4 rfl) ?_
  refine lv_aload_n hC.1 hC.2.1 dL_law_537 rfl (lv_at hl 2 rfl) ?_
  refine lv_iload hC.1 hC.2.1 dL_law_538 (lv_at hl 1 rfl) ?_
  refine lv_iconst (v := 1) hC.1 hC.2.1 dL_law_540 (by decide) ?_
  refine lv_iadd hC.1 hC.2.1 dL_law_541 ?_
  refine va_sld hC.1 hC.2.1 hX hb (Nat.not_le.mpr hb) G.2.2.2.2.2 (sx hi hL (j := 1) (by decide) rfl) dL_law_542 ?_
  rw [ex1]
  refine lv_aload_n hC.1 hC.2.1 dL_law_543 rfl (lv_at hl 2 rfl) ?_
  refine lv_iload hC.1 hC.2.1 dL_law_544 (lv_at hl 1 rfl) ?_
  refine lv_iconst (v := 2) hC.1 hC.2.1 dL_law_546 (by decide) ?_
  refine lv_iadd hC.1 hC.2.1 dL_law_547 ?_
  refine va_sld hC.1 hC.2.1 hX hb (Nat.not_le.mpr hb) G.2.2.2.2.2 (sx hi hL (j := 2) (by decide) rfl) dL_law_548 ?_
  rw [ex2]
  refine lv_aload_n hC.1 hC.2.1 dL_law_549 rfl (lv_at hl 2 rfl) ?_
  refine lv_iload hC.1 hC.2.1 dL_law_550 (lv_at hl 1 rfl) ?_
  refine lv_iconst (v := 3) hC.1 hC.2.1 dL_law_552 (by decide) ?_
  refine lv_iadd hC.1 hC.2.1 dL_law_553 ?_
  refine va_sld hC.1 hC.2.1 hX hb (Nat.not_le.mpr hb) G.2.2.2.2.2 (sx hi hL (j := 3) (by decide) rfl) dL_law_554 ?_
  rw [ex3]
  refine lv_aload_n hC.1 hC.2.1 dL_law_555 rfl (lv_at hl 2 rfl) ?_
  refine lv_iload hC.1 hC.2.1 dL_law_556 (lv_at hl 1 rfl) ?_
  refine lv_iconst (v := 4) hC.1 hC.2.1 dL_law_558 (by decide) ?_
  refine lv_iadd hC.1 hC.2.1 dL_law_559 ?_
  refine va_sld hC.1 hC.2.1 hX hb (Nat.not_le.mpr hb) G.2.2.2.2.2 (sx hi hL (j := 4) (by decide) rfl) dL_law_560 ?_
  rw [ex4]
  refine lv_aload_n hC.1 hC.2.1 dL_law_561 rfl (lv_at hl 2 rfl) ?_
  refine lv_iload hC.1 hC.2.1 dL_law_562 (lv_at hl 1 rfl) ?_
  refine lv_iconst (v := 5) hC.1 hC.2.1 dL_law_564 (by decide) ?_
  refine lv_iadd hC.1 hC.2.1 dL_law_565 ?_
  refine va_sld hC.1 hC.2.1 hX hb (Nat.not_le.mpr hb) G.2.2.2.2.2 (sx hi hL (j := 5) (by decide) rfl) dL_law_566 ?_
  rw [ex5]
  refine lv_aload_n hC.1 hC.2.1 dL_law_567 rfl (lv_at hl 2 rfl) ?_
  refine lv_iload hC.1 hC.2.1 dL_law_568 (lv_at hl 1 rfl) ?_
  refine lv_bipush (v := 6) hC.1 hC.2.1 dL_law_570 (by decide) ?_
  refine lv_iadd hC.1 hC.2.1 dL_law_572 ?_
  refine va_sld hC.1 hC.2.1 hX hb (Nat.not_le.mpr hb) G.2.2.2.2.2 (sx hi hL (j := 6) (by decide) rfl) dL_law_573 ?_
  rw [ex6]
  refine lw_rn (As := [.int x1, .int x2, .int x3, .int x4, .int x5, .int x6]) (rest := []) (fun r Y' hq => hq.2) hC hT I.he G (c_X11_ask l D cy Y.1 Y.2.1 mi rfl (post := fun r Y' => rfQ K0 V0 Z0 P0 B0 W0 ea r Y' ∧ Y'.2.1.2.1 = Y.2.1.2.1 ∧ Y'.2.1.2.2.2 = Y.2.1.2.2.2) hw2 _) (cwV 6 hC.2.2.2.2 (gM_w gL_law_X11_ask) rfl rfl rfl hdV_X11_ask ⟨Nat.le_of_ble_eq_true rfl, Nat.le_of_ble_eq_true rfl⟩) rfl hl.1 rfl (Nat.le_of_ble_eq_true rfl) dL_law_574 ⟨by show _ ≤ 601024; omega, by show _ ≤ 7293034; omega⟩ (fun r2 Y2 H locs h2 hz G => ?_)
  refine lv_istore (lv' := [(6, .int r2), (5, .int r1), (4, .int (nI (7 * i))), (0, .ref b), (1, .ref (lay 0)), (2, .ref (Y.1 0)), (3, .ref o)]) hC.1 hC.2.1 dL_law_577 hl (by decide) rfl (fun ls hl => ?_)
  obtain ⟨e1, e2, e3⟩ := qq (Y := Y2) h1 h2.1
  refine lv_goto (tgt := 1345) hC.1 hC.2.1 dL_law_579 (by decide) ?_
  refine W.widen (k := K + 400) (n := S + 6000) (by omega) (by omega) ?_
  exact kk u1 Y2 _ _ _ e3 hz G (lv_sub hl [2, 3, 4, 5, 6] rfl)
set_option maxHeartbeats 4000000 in
set_option maxRecDepth 100000 in
/-- fix -/
theorem lc_fix {p : Program} {l : Launch} {e : Env} {s : State} {m : MethodId} {below : List Frame} {meth : Method} {c : Code} {Q : State → Prop} {D : va_G} {cy : Nat → ClassId} {lay : Nat → Nat} {o b L i K S m0 ea mi ta : Nat} {ad ac am : Nat → Nat} {xs : Nat → Int32} {u : OU} {Y : RY} {H : Heap} {locs : List Loc} {ls : Array Slot} (hl0 : l.stackTraces = false) (hC : CallFix p m c cL_law 7 s #[Value.ref b] (wsL_law ++ lkL) RL) (hr : meth.sig.returnType = some .boolean) (hT : lwT D cy ea mi ta ad ac am s) (hL : L ≤ 3584) (hX : va_X b L xs s s.heap) (hb : b < s.heap.size) (hi : 7 * i + 7 ≤ L) (hK : K + 400 ≤ 601024) (hS : S + 6000 ≤ 7293034) (hm : Y.1 0 = m0) (I : LI ea u Y) (G : lwG D cy lay o u Y s H locs) (hl : lv_has ls 7 [(4, .int (nI (7 * i))), (0, .ref b), (1, .ref (lay 0)), (2, .ref m0), (3, .ref o)]) (kk : ∀ (u' : OU) (Y' : RY) (H1 : Heap) (locs1 : List Loc) (ls1 : Array Slot), LI ea u' Y' → Y'.1 0 = m0 → lwG D cy lay o u' Y' s H1 locs1 → lv_has ls1 7 [(4, .int (nI (7 * i))), (0, .ref b), (1, .ref (lay 0)), (2, .ref m0), (3, .ref o)] → W p l e room_1 s m #[Value.ref b] below meth c H1 locs1 (K + 400) (S + 6000) Q (F0 m 1345 ls1 [])) : W p l e room_1 s m #[Value.ref b] below meth c H locs K S Q (F0 m 582 ls []) := by
  subst hm
  obtain ⟨T, I⟩ := I
  have I : LIT ea T u Y := I
  obtain ⟨x1, ex1⟩ : ∃ x : Int32, xs (Int32.toNatClampNeg (nI (7 * i) + 1)) = x := ⟨_, rfl⟩
  refine lv_aload_n hC.1 hC.2.1 dL_law_582 rfl (lv_at hl 2 rfl) ?_
  refine lv_aload_n hC.1 hC.2.1 dL_law_583 rfl (lv_at hl 1 rfl) ?_
  refine lv_iload hC.1 hC.2.1 dL_law_584 (lv_at hl 0 rfl) ?_
  refine lv_iconst (v := 1) hC.1 hC.2.1 dL_law_586 (by decide) ?_
  refine lv_iadd hC.1 hC.2.1 dL_law_587 ?_
  refine va_sld hC.1 hC.2.1 hX hb (Nat.not_le.mpr hb) G.2.2.2.2.2 (sx hi hL (j := 1) (by decide) rfl) dL_law_588 ?_
  rw [ex1]
  refine lv_aload_n hC.1 hC.2.1 dL_law_589 rfl (lv_at hl 4 rfl) ?_
  obtain ⟨K0, V0, Z0, P0, B0, W0, T0, hw1, hw2⟩ := sp_fix I x1
  refine lw_w (As := [.ref (lay 0), .int x1, .ref o]) (rest := []) hC hT G (c_L_fix l hl0 D cy lay o (post := fun r u' => cQ K0 V0 Z0 P0 B0 W0 T0 r u') hw1 _) (vx_cwSW 3 hC.2.2.2.2 (gM_s gL_law_L_fix) rfl rfl rfl hdS_L_fix ⟨Nat.le_of_ble_eq_true rfl, Nat.le_of_ble_eq_true rfl⟩) rfl hl.1 rfl (Nat.le_of_ble_eq_true rfl) dL_law_590 ⟨by show _ ≤ 601024; omega, by show _ ≤ 7293034; omega⟩ (fun r1 u1 H locs h1 G => ?_)
  refine lv_istore (lv' := [(5, .int r1), (4, .int (nI (7 * i))), (0, .ref b), (1, .ref (lay 0)), (2, .ref (Y.1 0)), (3, .ref o)]) hC.1 hC.2.1 dL_law_593 hl (by decide) rfl (fun ls hl => ?_)
  refine lv_aload_n hC.1 hC.2.1 dL_law_595 rfl (lv_at hl 4 rfl) ?_
  refine lv_aload_n hC.1 hC.2.1 dL_law_596 rfl (lv_at hl 2 rfl) ?_
  refine lv_iload hC.1 hC.2.1 dL_law_597 (lv_at hl 1 rfl) ?_
  refine lv_iconst (v := 1) hC.1 hC.2.1 dL_law_599 (by decide) ?_
  refine lv_iadd hC.1 hC.2.1 dL_law_600 ?_
  refine va_sld hC.1 hC.2.1 hX hb (Nat.not_le.mpr hb) G.2.2.2.2.2 (sx hi hL (j := 1) (by decide) rfl) dL_law_601 ?_
  rw [ex1]
  refine lw_ri (As := [.int x1]) (rest := []) hC hT G (c_X11_fix l D cy Y.1 Y.2.1 (post := fun r τ => rfQ K0 V0 Z0 P0 B0 W0 ea r (Y.1, Y.2.1, τ)) hw2 _) (cwV 1 hC.2.2.2.2 (gM_w gL_law_X11_fix) rfl rfl rfl hdV_X11_fix ⟨Nat.le_of_ble_eq_true rfl, Nat.le_of_ble_eq_true rfl⟩) rfl hl.1 rfl (Nat.le_of_ble_eq_true rfl) dL_law_602 ⟨by show _ ≤ 601024; omega, by show _ ≤ 7293034; omega⟩ (fun r2 σ2 H locs h2 G => ?_)
  refine lv_istore (lv' := [(6, .int r2), (5, .int r1), (4, .int (nI (7 * i))), (0, .ref b), (1, .ref (lay 0)), (2, .ref (Y.1 0)), (3, .ref o)]) hC.1 hC.2.1 dL_law_605 hl (by decide) rfl (fun ls hl => ?_)
  obtain ⟨e1, e2, e3⟩ := qq (Y := (Y.1, Y.2.1, σ2)) h1 h2
  refine lv_goto (tgt := 1345) hC.1 hC.2.1 dL_law_607 (by decide) ?_
  refine W.widen (k := K + 400) (n := S + 6000) (by omega) (by omega) ?_
  exact kk u1 (Y.1, Y.2.1, σ2) _ _ _ e3 rfl G (lv_sub hl [2, 3, 4, 5, 6] rfl)
