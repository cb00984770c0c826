def u_L_agency_407 (post : MS → Prop) : Nat → MS → Int32 → Prop
  | 0, _, _ => False
  | n + 1, σ, v4 => ((4 ≤ v4 → post σ) ∧ (¬ 4 ≤ v4 → (¬ (11 + v4) < (0 : Int32) ∧ ∀ r20 : Int32, w_L_asked (fun σ21 => u_L_agency_407 post n σ21 (v4 + 1)) σ r20)))
set_option maxHeartbeats 4000000 in
set_option maxRecDepth 100000 in
theorem l_L_agency_407 {p : Program} {l : Launch} {e : Env} {s : State} {m : MethodId} {below : List Frame} {meth : Method} {c : Code} {D : va_G} {cy : Nat → ClassId} {lay : Nat → Nat} {b L : Nat} {xs : Nat → Int32} {args : Array Value} {post : MS → Prop} (hl0 : l.stackTraces = false) (hC : CallFix p m c cL_agency 6 s args wsL_agency RL) (hr : meth.sig.returnType = some (.object "FirstdanceAgency")) (hlocks : meth.locks = false) (hT : lgT D cy s) (hL : L ≤ 260) (hX : va_X b L xs s s.heap) (hb : b < s.heap.size) : ∀ (n : Nat), ∀ (q : Nat) (σ : MS) (v4 : Int32), q + n * 3 + 0 ≤ 103 → u_L_agency_407 post n σ v4 → ∀ (H : Heap) (locs : List Loc) (ls : Array Slot), lgG D cy lay σ [] s.heap H locs → lv_has ls 6 [(0, .ref b), (1, .ref (lay 0)), (4, .int v4)] → W p l e rm_L_agency s m args below meth c H locs (q) (24 * q) (MQ below (agenQ D cy post s.heap.size) args s 103 2472 (lgA s.heap.size)) (F0 m 407 ls []) := by
  intro n
  induction n with
  | zero =>
    intro q σ v4 hq h
    exact h.elim
  | succ n ih =>
    intro q σ v4 hq h H locs ls G hl
    rw [u_L_agency_407] at h
    refine lv_iload hC.1 hC.2.1 dL_agency_407 (lv_at hl 2 rfl) ?_
    refine lv_iconst (v := 4) hC.1 hC.2.1 dL_agency_409 (by decide) ?_
    refine lv_icmp_ge (tgt := 432) hC.1 hC.2.1 dL_agency_410 (by decide) (fun c18 => ?_) (fun c18 => ?_)
    · replace h := h.1 c18
      refine lv_aload_n hC.1 hC.2.1 dL_agency_432 rfl (lv_at hl 1 rfl) ?_
      refine W.widen (k := 103) (n := 2472) (by omega) (by omega) ?_
      exact lg_aret hC hr hlocks G h dL_agency_433
    · replace h := h.2 c18
      refine lv_aload_n hC.1 hC.2.1 dL_agency_413 rfl (lv_at hl 1 rfl) ?_
      refine lv_aload_n hC.1 hC.2.1 dL_agency_414 rfl (lv_at hl 0 rfl) ?_
      refine lv_bipush (v := 11) hC.1 hC.2.1 dL_agency_415 (by decide) ?_
      refine lv_iload hC.1 hC.2.1 dL_agency_417 (lv_at hl 2 rfl) ?_
      refine lv_iadd hC.1 hC.2.1 dL_agency_419 ?_
      obtain ⟨hk19, h⟩ := h
      refine lg_cell (k := (11 + v4)) (rest := [.ref (lay 0)]) hL hk19 hC hX hb G (va_cwS 2 hC.2.2.2.2 gL_agency_L_cell rfl rfl rfl hdS_L_cell ⟨Nat.le_of_ble_eq_true rfl, Nat.le_of_ble_eq_true rfl⟩) hl.1 (Nat.le_of_ble_eq_true rfl) dL_agency_420 ⟨by show _ ≤ 103; omega, by show _ ≤ 2472; omega⟩ (fun r20 H locs G => ?_)
      replace h := h r20
      refine lg_v G (ag_runSW (As := [.ref (lay 0), .int r20]) (rest := []) hC (hT.ag (fun _ hk => lg_lay G hk)) (lg_ag G) (c_L_asked l hl0 D cy lay h _) (vx_cwSW 2 hC.2.2.2.2 gL_agency_L_asked rfl rfl rfl hdS_L_asked ⟨Nat.le_of_ble_eq_true rfl, Nat.le_of_ble_eq_true rfl⟩) rfl hl.1 rfl (Nat.le_of_ble_eq_true rfl) dL_agency_423 ⟨by show _ ≤ 103; omega, by show _ ≤ 2472; omega⟩) (fun σ21 H locs h G => ?_)
      (try dsimp only at h)
      refine lv_iinc (v := v4 + 1) (lv' := [(4, .int (v4 + 1)), (0, .ref b), (1, .ref (lay 0))]) hC.1 hC.2.1 dL_agency_426 hl (k := 2) rfl rfl (by decide) rfl (fun ls hl => ?_)
      refine lv_goto (tgt := 407) hC.1 hC.2.1 dL_agency_429 (by decide) ?_
      refine W.widen (k := (q + 3)) (n := 24 * (q + 3)) (by omega) (by omega) ?_
      exact ih (q + 3) _ _ (by omega) h _ _ _ G (lv_sub hl [1, 2, 0] rfl)
def u_L_agency_321 (post : MS → Prop) : Nat → MS → Int32 → Prop
  | 0, _, _ => False
  | n + 1, σ, v4 => ((4 ≤ v4 → (∃ k, k ≤ 5 ∧ u_L_agency_407 post k σ 0)) ∧ (¬ 4 ≤ v4 → (¬ 10 < (0 : Int32) ∧ ∀ r24 : Int32, w_L_below (fun r26 σ25 => (¬ 10 < (0 : Int32) ∧ ∀ r28 : Int32, w_L_below (fun r30 σ29 => (¬ 10 < (0 : Int32) ∧ ∀ r32 : Int32, w_L_below (fun r34 σ33 => (¬ 10 < (0 : Int32) ∧ ∀ r36 : Int32, w_L_below (fun r38 σ37 => w_N_X7_song (fun r40 σ39 => u_L_agency_321 post n σ39 (v4 + 1)) σ37 r26 r30 r34 (2 + r38)) σ33 (r36 >>> ((2 * v4) &&& 31)) 8)) σ29 (r32 >>> ((5 * v4) &&& 31)) 10)) σ25 (r28 >>> ((3 * v4) &&& 31)) 12)) σ (r24 >>> ((4 * v4) &&& 31)) 16)))
set_option maxHeartbeats 4000000 in
set_option maxRecDepth 100000 in
theorem l_L_agency_321 {p : Program} {l : Launch} {e : Env} {s : State} {m : MethodId} {below : List Frame} {meth : Method} {c : Code} {D : va_G} {cy : Nat → ClassId} {lay : Nat → Nat} {b L : Nat} {xs : Nat → Int32} {args : Array Value} {post : MS → Prop} (hl0 : l.stackTraces = false) (hC : CallFix p m c cL_agency 6 s args wsL_agency RL) (hr : meth.sig.returnType = some (.object "FirstdanceAgency")) (hlocks : meth.locks = false) (hT : lgT D cy s) (hL : L ≤ 260) (hX : va_X b L xs s s.heap) (hb : b < s.heap.size) : ∀ (n : Nat), ∀ (q : Nat) (σ : MS) (v4 : Int32), q + n * 0 + 15 ≤ 103 → u_L_agency_321 post n σ v4 → ∀ (H : Heap) (locs : List Loc) (ls : Array Slot), lgG D cy lay σ [] s.heap H locs → lv_has ls 6 [(0, .ref b), (1, .ref (lay 0)), (4, .int v4)] → W p l e rm_L_agency s m args below meth c H locs (q) (24 * q) (MQ below (agenQ D cy post s.heap.size) args s 103 2472 (lgA s.heap.size)) (F0 m 321 ls []) := by
  intro n
  induction n with
  | zero =>
    intro q σ v4 hq h
    exact h.elim
  | succ n ih =>
    intro q σ v4 hq h H locs ls G hl
    rw [u_L_agency_321] at h
    refine lv_iload hC.1 hC.2.1 dL_agency_321 (lv_at hl 2 rfl) ?_
    refine lv_iconst (v := 4) hC.1 hC.2.1 dL_agency_323 (by decide) ?_
    refine lv_icmp_ge (tgt := 404) hC.1 hC.2.1 dL_agency_324 (by decide) (fun c17 => ?_) (fun c17 => ?_)
    · replace h := h.1 c17
      refine lv_iconst (v := 0) hC.1 hC.2.1 dL_agency_404 (by decide) ?_
      refine lv_istore (lv' := [(4, .int 0), (0, .ref b), (1, .ref (lay 0))]) hC.1 hC.2.1 dL_agency_405 hl (by decide) rfl (fun ls hl => ?_)
      refine W.widen (k := q) (n := 24 * q) (by omega) (by omega) ?_
      obtain ⟨n1, hk1, h⟩ := h
      exact l_L_agency_407 hl0 hC hr hlocks hT hL hX hb n1 q _ _ (by omega) h _ _ _ G (lv_sub hl [1, 2, 0] rfl)
    · replace h := h.2 c17
      refine lv_aload_n hC.1 hC.2.1 dL_agency_327 rfl (lv_at hl 1 rfl) ?_
      refine lv_aload_n hC.1 hC.2.1 dL_agency_328 rfl (lv_at hl 0 rfl) ?_
      refine lv_bipush (v := 10) hC.1 hC.2.1 dL_agency_329 (by decide) ?_
      obtain ⟨hk23, h⟩ := h
      refine lg_cell (k := 10) (rest := [.ref (lay 0)]) hL hk23 hC hX hb G (va_cwS 2 hC.2.2.2.2 gL_agency_L_cell rfl rfl rfl hdS_L_cell ⟨Nat.le_of_ble_eq_true rfl, Nat.le_of_ble_eq_true rfl⟩) hl.1 (Nat.le_of_ble_eq_true rfl) dL_agency_331 ⟨by show _ ≤ 103; omega, by show _ ≤ 2472; omega⟩ (fun r24 H locs G => ?_)
      replace h := h r24
      refine lv_iconst (v := 4) hC.1 hC.2.1 dL_agency_334 (by decide) ?_
      refine lv_iload hC.1 hC.2.1 dL_agency_335 (lv_at hl 2 rfl) ?_
      refine lv_imul hC.1 hC.2.1 dL_agency_337 ?_
      refine lv_ishr hC.1 hC.2.1 dL_agency_338 ?_
      refine lv_bipush (v := 16) hC.1 hC.2.1 dL_agency_339 (by decide) ?_
      refine lg_i G (ag_runS (As := [.int (r24 >>> ((4 * v4) &&& 31)), .int 16]) (rest := [.ref (lay 0)]) hC (hT.ag (fun _ hk => lg_lay G hk)) (lg_ag G) (c_L_below l D cy lay h _) (va_cwS 2 hC.2.2.2.2 gL_agency_L_below rfl rfl rfl hdS_L_below ⟨Nat.le_of_ble_eq_true rfl, Nat.le_of_ble_eq_true rfl⟩) rfl hl.1 rfl (Nat.le_of_ble_eq_true rfl) dL_agency_341 ⟨by show _ ≤ 103; omega, by show _ ≤ 2472; omega⟩) (fun r26 σ25 H locs h G => ?_)
      (try dsimp only at h)
      refine lv_aload_n hC.1 hC.2.1 dL_agency_344 rfl (lv_at hl 0 rfl) ?_
      refine lv_bipush (v := 10) hC.1 hC.2.1 dL_agency_345 (by decide) ?_
      obtain ⟨hk27, h⟩ := h
      refine lg_cell (k := 10) (rest := [.int r26, .ref (lay 0)]) hL hk27 hC hX hb G (va_cwS 2 hC.2.2.2.2 gL_agency_L_cell rfl rfl rfl hdS_L_cell ⟨Nat.le_of_ble_eq_true rfl, Nat.le_of_ble_eq_true rfl⟩) hl.1 (Nat.le_of_ble_eq_true rfl) dL_agency_347 ⟨by show _ ≤ 103; omega, by show _ ≤ 2472; omega⟩ (fun r28 H locs G => ?_)
      replace h := h r28
      refine lv_iconst (v := 3) hC.1 hC.2.1 dL_agency_350 (by decide) ?_
      refine lv_iload hC.1 hC.2.1 dL_agency_351 (lv_at hl 2 rfl) ?_
      refine lv_imul hC.1 hC.2.1 dL_agency_353 ?_
      refine lv_ishr hC.1 hC.2.1 dL_agency_354 ?_
      refine lv_bipush (v := 12) hC.1 hC.2.1 dL_agency_355 (by decide) ?_
      refine lg_i G (ag_runS (As := [.int (r28 >>> ((3 * v4) &&& 31)), .int 12]) (rest := [.int r26, .ref (lay 0)]) hC (hT.ag (fun _ hk => lg_lay G hk)) (lg_ag G) (c_L_below l D cy lay h _) (va_cwS 2 hC.2.2.2.2 gL_agency_L_below rfl rfl rfl hdS_L_below ⟨Nat.le_of_ble_eq_true rfl, Nat.le_of_ble_eq_true rfl⟩) rfl hl.1 rfl (Nat.le_of_ble_eq_true rfl) dL_agency_357 ⟨by show _ ≤ 103; omega, by show _ ≤ 2472; omega⟩) (fun r30 σ29 H locs h G => ?_)
      (try dsimp only at h)
      refine lv_aload_n hC.1 hC.2.1 dL_agency_360 rfl (lv_at hl 0 rfl) ?_
      refine lv_bipush (v := 10) hC.1 hC.2.1 dL_agency_361 (by decide) ?_
      obtain ⟨hk31, h⟩ := h
      refine lg_cell (k := 10) (rest := [.int r30, .int r26, .ref (lay 0)]) hL hk31 hC hX hb G (va_cwS 2 hC.2.2.2.2 gL_agency_L_cell rfl rfl rfl hdS_L_cell ⟨Nat.le_of_ble_eq_true rfl, Nat.le_of_ble_eq_true rfl⟩) hl.1 (Nat.le_of_ble_eq_true rfl) dL_agency_363 ⟨by show _ ≤ 103; omega, by show _ ≤ 2472; omega⟩ (fun r32 H locs G => ?_)
      replace h := h r32
      refine lv_iconst (v := 5) hC.1 hC.2.1 dL_agency_366 (by decide) ?_
      refine lv_iload hC.1 hC.2.1 dL_agency_367 (lv_at hl 2 rfl) ?_
      refine lv_imul hC.1 hC.2.1 dL_agency_369 ?_
      refine lv_ishr hC.1 hC.2.1 dL_agency_370 ?_
      refine lv_bipush (v := 10) hC.1 hC.2.1 dL_agency_371 (by decide) ?_
      refine lg_i G (ag_runS (As := [.int (r32 >>> ((5 * v4) &&& 31)), .int 10]) (rest := [.int r30, .int r26, .ref (lay 0)]) hC (hT.ag (fun _ hk => lg_lay G hk)) (lg_ag G) (c_L_below l D cy lay h _) (va_cwS 2 hC.2.2.2.2 gL_agency_L_below rfl rfl rfl hdS_L_below ⟨Nat.le_of_ble_eq_true rfl, Nat.le_of_ble_eq_true rfl⟩) rfl hl.1 rfl (Nat.le_of_ble_eq_true rfl) dL_agency_373 ⟨by show _ ≤ 103; omega, by show _ ≤ 2472; omega⟩) (fun r34 σ33 H locs h G => ?_)
      (try dsimp only at h)
      refine lv_iconst (v := 2) hC.1 hC.2.1 dL_agency_376 (by decide) ?_
      refine lv_aload_n hC.1 hC.2.1 dL_agency_377 rfl (lv_at hl 0 rfl) ?_
      refine lv_bipush (v := 10) hC.1 hC.2.1 dL_agency_378 (by decide) ?_
      obtain ⟨hk35, h⟩ := h
      refine lg_cell (k := 10) (rest := [.int 2, .int r34, .int r30, .int r26, .ref (lay 0)]) hL hk35 hC hX hb G (va_cwS 2 hC.2.2.2.2 gL_agency_L_cell rfl rfl rfl hdS_L_cell ⟨Nat.le_of_ble_eq_true rfl, Nat.le_of_ble_eq_true rfl⟩) hl.1 (Nat.le_of_ble_eq_true rfl) dL_agency_380 ⟨by show _ ≤ 103; omega, by show _ ≤ 2472; omega⟩ (fun r36 H locs G => ?_)
      replace h := h r36
      refine lv_iconst (v := 2) hC.1 hC.2.1 dL_agency_383 (by decide) ?_
      refine lv_iload hC.1 hC.2.1 dL_agency_384 (lv_at hl 2 rfl) ?_
      refine lv_imul hC.1 hC.2.1 dL_agency_386 ?_
      refine lv_ishr hC.1 hC.2.1 dL_agency_387 ?_
      refine lv_bipush (v := 8) hC.1 hC.2.1 dL_agency_388 (by decide) ?_
      refine lg_i G (ag_runS (As := [.int (r36 >>> ((2 * v4) &&& 31)), .int 8]) (rest := [.int 2, .int r34, .int r30, .int r26, .ref (lay 0)]) hC (hT.ag (fun _ hk => lg_lay G hk)) (lg_ag G) (c_L_below l D cy lay h _) (va_cwS 2 hC.2.2.2.2 gL_agency_L_below rfl rfl rfl hdS_L_below ⟨Nat.le_of_ble_eq_true rfl, Nat.le_of_ble_eq_true rfl⟩) rfl hl.1 rfl (Nat.le_of_ble_eq_true rfl) dL_agency_390 ⟨by show _ ≤ 103; omega, by show _ ≤ 2472; omega⟩) (fun r38 σ37 H locs h G => ?_)
      (try dsimp only at h)
      refine lv_iadd hC.1 hC.2.1 dL_agency_393 ?_
      refine lg_i G (ag_runV (As := [.int r26, .int r30, .int r34, .int (2 + r38)]) (rest := []) hC (hT.ag (fun _ hk => lg_lay G hk)) (lg_ag G) (c_N_X7_song l D cy lay h _) (cwV 4 hC.2.2.2.2 gL_agency_X7_song rfl rfl rfl hdV_X7_song ⟨Nat.le_of_ble_eq_true rfl, Nat.le_of_ble_eq_true rfl⟩) (ag_recv (hT.ag (fun _ hk => lg_lay G hk)) (lg_ag G) (by decide) e_ag k_X7) rfl hl.1 rfl (Nat.le_of_ble_eq_true rfl) dL_agency_394 ⟨by show _ ≤ 103; omega, by show _ ≤ 2472; omega⟩) (fun r40 σ39 H locs h G => ?_)
      (try dsimp only at h)
      refine lv_pop hC.1 hC.2.1 dL_agency_397 rfl ?_
      refine lv_iinc (v := v4 + 1) (lv' := [(4, .int (v4 + 1)), (0, .ref b), (1, .ref (lay 0))]) hC.1 hC.2.1 dL_agency_398 hl (k := 2) rfl rfl (by decide) rfl (fun ls hl => ?_)
      refine lv_goto (tgt := 321) hC.1 hC.2.1 dL_agency_401 (by decide) ?_
      refine W.widen (k := q) (n := 24 * q) (by omega) (by omega) ?_
      exact ih q _ _ (by omega) h _ _ _ G (lv_sub hl [1, 2, 0] rfl)
def u_L_agency_283 (post : MS → Prop) : Nat → MS → (Nat → Int32) → Int32 → Prop
  | 0, _, _, _ => False
  | n + 1, σ, τ0, v4 => ((3 ≤ v4 → (∃ k, u_L_agency_321 post k σ 0)) ∧ (¬ 3 ≤ v4 → (¬ 9 < (0 : Int32) ∧ ∀ r42 : Int32, w_L_below (fun r44 σ43 => (vp_in r44 8 ∧ w_N_X7_band (fun r47 σ46 => u_L_agency_283 post n σ46 (τ0) (v4 + 1)) σ43 ((τ0) (Int32.toNatClampNeg r44)))) σ (r42 >>> ((3 * v4) &&& 31)) 8)))
set_option maxHeartbeats 4000000 in
set_option maxRecDepth 100000 in
theorem l_L_agency_283 {p : Program} {l : Launch} {e : Env} {s : State} {m : MethodId} {below : List Frame} {meth : Method} {c : Code} {D : va_G} {cy : Nat → ClassId} {lay : Nat → Nat} {b L : Nat} {xs : Nat → Int32} {args : Array Value} {post : MS → Prop} {e0 : Nat} (hl0 : l.stackTraces = false) (hC : CallFix p m c cL_agency 6 s args wsL_agency RL) (hr : meth.sig.returnType = some (.object "FirstdanceAgency")) (hlocks : meth.locks = false) (hT : lgT D cy s) (hL : L ≤ 260) (hX : va_X b L xs s s.heap) (hb : b < s.heap.size) : ∀ (n : Nat), ∀ (q : Nat) (σ : MS) (τ0 : Nat → Int32) (v4 : Int32), q + n * 0 + 15 ≤ 103 → u_L_agency_283 post n σ τ0 v4 → ∀ (H : Heap) (locs : List Loc) (ls : Array Slot), lgG D cy lay σ [(e0, .inl (cy 0, 8, .inl (τ0)))] s.heap H locs → lv_has ls 6 [(0, .ref b), (1, .ref (lay 0)), (3, .ref e0), (4, .int v4)] → W p l e rm_L_agency s m args below meth c H locs (q) (24 * q) (MQ below (agenQ D cy post s.heap.size) args s 103 2472 (lgA s.heap.size)) (F0 m 283 ls []) := by
  intro n
  induction n with
  | zero =>
    intro q σ τ0 v4 hq h
    exact h.elim
  | succ n ih =>
    intro q σ τ0 v4 hq h H locs ls G hl
    rw [u_L_agency_283] at h
    refine lv_iload hC.1 hC.2.1 dL_agency_283 (lv_at hl 3 rfl) ?_
    refine lv_iconst (v := 3) hC.1 hC.2.1 dL_agency_285 (by decide) ?_
    refine lv_icmp_ge (tgt := 318) hC.1 hC.2.1 dL_agency_286 (by decide) (fun c16 => ?_) (fun c16 => ?_)
    · replace h := h.1 c16
      refine lv_iconst (v := 0) hC.1 hC.2.1 dL_agency_318 (by decide) ?_
      refine lv_istore (lv' := [(4, .int 0), (0, .ref b), (1, .ref (lay 0)), (3, .ref e0)]) hC.1 hC.2.1 dL_agency_319 hl (by decide) rfl (fun ls hl => ?_)
      refine W.widen (k := q) (n := 24 * q) (by omega) (by omega) ?_
      obtain ⟨n1, h⟩ := h
      exact l_L_agency_321 hl0 hC hr hlocks hT hL hX hb n1 q _ _ (by omega) h _ _ _ (lg_nil G) (lv_sub hl [1, 2, 0] rfl)
    · replace h := h.2 c16
      refine lv_aload_n hC.1 hC.2.1 dL_agency_289 rfl (lv_at hl 1 rfl) ?_
      refine lv_aload_n hC.1 hC.2.1 dL_agency_290 rfl (lv_at hl 2 rfl) ?_
      refine lv_aload_n hC.1 hC.2.1 dL_agency_291 rfl (lv_at hl 0 rfl) ?_
      refine lv_bipush (v := 9) hC.1 hC.2.1 dL_agency_292 (by decide) ?_
      obtain ⟨hk41, h⟩ := h
      refine lg_cell (k := 9) (rest := [.ref e0, .ref (lay 0)]) hL hk41 hC hX hb G (va_cwS 2 hC.2.2.2.2 gL_agency_L_cell rfl rfl rfl hdS_L_cell ⟨Nat.le_of_ble_eq_true rfl, Nat.le_of_ble_eq_true rfl⟩) hl.1 (Nat.le_of_ble_eq_true rfl) dL_agency_294 ⟨by show _ ≤ 103; omega, by show _ ≤ 2472; omega⟩ (fun r42 H locs G => ?_)
      replace h := h r42
      refine lv_iconst (v := 3) hC.1 hC.2.1 dL_agency_297 (by decide) ?_
      refine lv_iload hC.1 hC.2.1 dL_agency_298 (lv_at hl 3 rfl) ?_
      refine lv_imul hC.1 hC.2.1 dL_agency_300 ?_
      refine lv_ishr hC.1 hC.2.1 dL_agency_301 ?_
      refine lv_aload_n hC.1 hC.2.1 dL_agency_302 rfl (lv_at hl 2 rfl) ?_
      refine lg_alen hC hT.1 G 0 (v := 8) rfl (by decide) dL_agency_303 ?_
      refine lg_i G (ag_runS (As := [.int (r42 >>> ((3 * v4) &&& 31)), .int 8]) (rest := [.ref e0, .ref (lay 0)]) hC (hT.ag (fun _ hk => lg_lay G hk)) (lg_ag G) (c_L_below l D cy lay h _) (va_cwS 2 hC.2.2.2.2 gL_agency_L_below rfl rfl rfl hdS_L_below ⟨Nat.le_of_ble_eq_true rfl, Nat.le_of_ble_eq_true rfl⟩) rfl hl.1 rfl (Nat.le_of_ble_eq_true rfl) dL_agency_304 ⟨by show _ ≤ 103; omega, by show _ ≤ 2472; omega⟩) (fun r44 σ43 H locs h G => ?_)
      (try dsimp only at h)
      obtain ⟨hn45, h⟩ := h
      refine lg_iald hC hT.1 G 0 rfl hn45 dL_agency_307 ?_
      refine lg_i G (ag_runV (As := [.int ((τ0) (Int32.toNatClampNeg r44))]) (rest := []) hC (hT.ag (fun _ hk => lg_lay G hk)) (lg_ag G) (c_N_X7_band l D cy lay h _) (cwV 1 hC.2.2.2.2 gL_agency_X7_band rfl rfl rfl hdV_X7_band ⟨Nat.le_of_ble_eq_true rfl, Nat.le_of_ble_eq_true rfl⟩) (ag_recv (hT.ag (fun _ hk => lg_lay G hk)) (lg_ag G) (by decide) e_ag k_X7) rfl hl.1 rfl (Nat.le_of_ble_eq_true rfl) dL_agency_308 ⟨by show _ ≤ 103; omega, by show _ ≤ 2472; omega⟩) (fun r47 σ46 H locs h G => ?_)
      (try dsimp only at h)
      refine lv_pop hC.1 hC.2.1 dL_agency_311 rfl ?_
      refine lv_iinc (v := v4 + 1) (lv' := [(4, .int (v4 + 1)), (0, .ref b), (1, .ref (lay 0)), (3, .ref e0)]) hC.1 hC.2.1 dL_agency_312 hl (k := 3) rfl rfl (by decide) rfl (fun ls hl => ?_)
      refine lv_goto (tgt := 283) hC.1 hC.2.1 dL_agency_315 (by decide) ?_
      refine W.widen (k := q) (n := 24 * q) (by omega) (by omega) ?_
      exact ih q _ _ _ (by omega) h _ _ _ G (lv_sub hl [1, 2, 3, 0] rfl)
def u_L_agency_170 (post : MS → Prop) : Nat → MS → Int32 → Int32 → Prop
  | 0, _, _, _ => False
  | n + 1, σ, v2, v3 => ((3 ≤ v3 → (∃ k, u_L_agency_283 post k σ (upd (upd (upd (upd (upd (upd (upd (upd (fun _ => 0) (Int32.toNatClampNeg 0) 1) (Int32.toNatClampNeg 1) 2) (Int32.toNatClampNeg 2) 4) (Int32.toNatClampNeg 3) 5) (Int32.toNatClampNeg 4) 3) (Int32.toNatClampNeg 5) 10) (Int32.toNatClampNeg 6) 13) (Int32.toNatClampNeg 7) 12) 0)) ∧ (¬ 3 ≤ v3 → (¬ 8 < (0 : Int32) ∧ ∀ r49 : Int32, w_L_below (fun r51 σ50 => (¬ 8 < (0 : Int32) ∧ ∀ r53 : Int32, w_L_below (fun r55 σ54 => ((r51 = r55 → u_L_agency_170 post n σ54 v2 (v3 + 1)) ∧ (¬ r51 = r55 → ((2 ≤ v3 → u_L_agency_170 post n σ54 v2 (v3 + 1)) ∧ (¬ 2 ≤ v3 → w_N_X7_feud (fun r59 σ58 => u_L_agency_170 post n σ58 v2 (v3 + 1)) σ54 r51 r55 1))))) σ50 (r53 >>> (((3 * v3) + 9) &&& 31)) v2)) σ (r49 >>> ((3 * v3) &&& 31)) v2)))
set_option maxHeartbeats 4000000 in
set_option maxRecDepth 100000 in
theorem l_L_agency_170 {p : Program} {l : Launch} {e : Env} {s : State} {m : MethodId} {below : List Frame} {meth : Method} {c : Code} {D : va_G} {cy : Nat → ClassId} {lay : Nat → Nat} {b L : Nat} {xs : Nat → Int32} {args : Array Value} {post : MS → Prop} (hl0 : l.stackTraces = false) (hC : CallFix p m c cL_agency 6 s args wsL_agency RL) (hr : meth.sig.returnType = some (.object "FirstdanceAgency")) (hlocks : meth.locks = false) (hT : lgT D cy s) (hL : L ≤ 260) (hX : va_X b L xs s s.heap) (hb : b < s.heap.size) : ∀ (n : Nat), ∀ (q : Nat) (σ : MS) (v2 : Int32) (v3 : Int32), q + n * 0 + 16 ≤ 103 → u_L_agency_170 post n σ v2 v3 → ∀ (H : Heap) (locs : List Loc) (ls : Array Slot), lgG D cy lay σ [] s.heap H locs → lv_has ls 6 [(0, .ref b), (1, .ref (lay 0)), (2, .int v2), (3, .int v3)] → W p l e rm_L_agency s m args below meth c H locs (q) (24 * q) (MQ below (agenQ D cy post s.heap.size) args s 103 2472 (lgA s.heap.size)) (F0 m 170 ls []) := by
  intro n
  induction n with
  | zero =>
    intro q σ v2 v3 hq h
    exact h.elim
  | succ n ih =>
    intro q σ v2 v3 hq h H locs ls G hl
    rw [u_L_agency_170] at h
    refine lv_iload_n hC.1 hC.2.1 dL_agency_170 rfl (lv_at hl 3 rfl) ?_
    refine lv_iconst (v := 3) hC.1 hC.2.1 dL_agency_171 (by decide) ?_
    refine lv_icmp_ge (tgt := 238) hC.1 hC.2.1 dL_agency_172 (by decide) (fun c7 => ?_) (fun c7 => ?_)
    · replace h := h.1 c7
      refine lv_bipush (v := 8) hC.1 hC.2.1 dL_agency_238 (by decide) ?_
      refine lg_newi (N := 8) hC hT.1 G (wm 5 rfl) (by decide) (by decide) (Nat.le_of_ble_eq_true rfl) (by show _ ≤ 103; omega) (by show _ ≤ 2472; omega) dL_agency_240 (fun e0 H G => ?_)
      simp only [List.nil_append, List.cons_append] at G
      refine lv_dup hC.1 hC.2.1 dL_agency_242 rfl ?_
      refine lv_iconst (v := 0) hC.1 hC.2.1 dL_agency_243 (by decide) ?_
      refine lv_iconst (v := 1) hC.1 hC.2.1 dL_agency_244 (by decide) ?_
      refine lg_iast hC hT.1 G 0 rfl (vp_in_nI (n := 0) (by decide) (by decide)) dL_agency_245 (fun H locs G => ?_)
      replace G : lgG D cy lay σ [(e0, .inl (cy 0, 8, .inl (upd (fun _ => 0) (Int32.toNatClampNeg 0) 1)))] s.heap H locs := G
      refine lv_dup hC.1 hC.2.1 dL_agency_246 rfl ?_
      refine lv_iconst (v := 1) hC.1 hC.2.1 dL_agency_247 (by decide) ?_
      refine lv_iconst (v := 2) hC.1 hC.2.1 dL_agency_248 (by decide) ?_
      refine lg_iast hC hT.1 G 0 rfl (vp_in_nI (n := 1) (by decide) (by decide)) dL_agency_249 (fun H locs G => ?_)
      replace G : lgG D cy lay σ [(e0, .inl (cy 0, 8, .inl (upd (upd (fun _ => 0) (Int32.toNatClampNeg 0) 1) (Int32.toNatClampNeg 1) 2)))] s.heap H locs := G
      refine lv_dup hC.1 hC.2.1 dL_agency_250 rfl ?_
      refine lv_iconst (v := 2) hC.1 hC.2.1 dL_agency_251 (by decide) ?_
      refine lv_iconst (v := 4) hC.1 hC.2.1 dL_agency_252 (by decide) ?_
      refine lg_iast hC hT.1 G 0 rfl (vp_in_nI (n := 2) (by decide) (by decide)) dL_agency_253 (fun H locs G => ?_)
      replace G : lgG D cy lay σ [(e0, .inl (cy 0, 8, .inl (upd (upd (upd (fun _ => 0) (Int32.toNatClampNeg 0) 1) (Int32.toNatClampNeg 1) 2) (Int32.toNatClampNeg 2) 4)))] s.heap H locs := G
      refine lv_dup hC.1 hC.2.1 dL_agency_254 rfl ?_
      refine lv_iconst (v := 3) hC.1 hC.2.1 dL_agency_255 (by decide) ?_
      refine lv_iconst (v := 5) hC.1 hC.2.1 dL_agency_256 (by decide) ?_
      refine lg_iast hC hT.1 G 0 rfl (vp_in_nI (n := 3) (by decide) (by decide)) dL_agency_257 (fun H locs G => ?_)
      replace G : lgG D cy lay σ [(e0, .inl (cy 0, 8, .inl (upd (upd (upd (upd (fun _ => 0) (Int32.toNatClampNeg 0) 1) (Int32.toNatClampNeg 1) 2) (Int32.toNatClampNeg 2) 4) (Int32.toNatClampNeg 3) 5)))] s.heap H locs := G
      refine lv_dup hC.1 hC.2.1 dL_agency_258 rfl ?_
      refine lv_iconst (v := 4) hC.1 hC.2.1 dL_agency_259 (by decide) ?_
      refine lv_iconst (v := 3) hC.1 hC.2.1 dL_agency_260 (by decide) ?_
      refine lg_iast hC hT.1 G 0 rfl (vp_in_nI (n := 4) (by decide) (by decide)) dL_agency_261 (fun H locs G => ?_)
      replace G : lgG D cy lay σ [(e0, .inl (cy 0, 8, .inl (upd (upd (upd (upd (upd (fun _ => 0) (Int32.toNatClampNeg 0) 1) (Int32.toNatClampNeg 1) 2) (Int32.toNatClampNeg 2) 4) (Int32.toNatClampNeg 3) 5) (Int32.toNatClampNeg 4) 3)))] s.heap H locs := G
      refine lv_dup hC.1 hC.2.1 dL_agency_262 rfl ?_
      refine lv_iconst (v := 5) hC.1 hC.2.1 dL_agency_263 (by decide) ?_
      refine lv_bipush (v := 10) hC.1 hC.2.1 dL_agency_264 (by decide) ?_
      refine lg_iast hC hT.1 G 0 rfl (vp_in_nI (n := 5) (by decide) (by decide)) dL_agency_266 (fun H locs G => ?_)
      replace G : lgG D cy lay σ [(e0, .inl (cy 0, 8, .inl (upd (upd (upd (upd (upd (upd (fun _ => 0) (Int32.toNatClampNeg 0) 1) (Int32.toNatClampNeg 1) 2) (Int32.toNatClampNeg 2) 4) (Int32.toNatClampNeg 3) 5) (Int32.toNatClampNeg 4) 3) (Int32.toNatClampNeg 5) 10)))] s.heap H locs := G
      refine lv_dup hC.1 hC.2.1 dL_agency_267 rfl ?_
      refine lv_bipush (v := 6) hC.1 hC.2.1 dL_agency_268 (by decide) ?_
      refine lv_bipush (v := 13) hC.1 hC.2.1 dL_agency_270 (by decide) ?_
      refine lg_iast hC hT.1 G 0 rfl (vp_in_nI (n := 6) (by decide) (by decide)) dL_agency_272 (fun H locs G => ?_)
      replace G : lgG D cy lay σ [(e0, .inl (cy 0, 8, .inl (upd (upd (upd (upd (upd (upd (upd (fun _ => 0) (Int32.toNatClampNeg 0) 1) (Int32.toNatClampNeg 1) 2) (Int32.toNatClampNeg 2) 4) (Int32.toNatClampNeg 3) 5) (Int32.toNatClampNeg 4) 3) (Int32.toNatClampNeg 5) 10) (Int32.toNatClampNeg 6) 13)))] s.heap H locs := G
      refine lv_dup hC.1 hC.2.1 dL_agency_273 rfl ?_
      refine lv_bipush (v := 7) hC.1 hC.2.1 dL_agency_274 (by decide) ?_
      refine lv_bipush (v := 12) hC.1 hC.2.1 dL_agency_276 (by decide) ?_
      refine lg_iast hC hT.1 G 0 rfl (vp_in_nI (n := 7) (by decide) (by decide)) dL_agency_278 (fun H locs G => ?_)
      replace G : lgG D cy lay σ [(e0, .inl (cy 0, 8, .inl (upd (upd (upd (upd (upd (upd (upd (upd (fun _ => 0) (Int32.toNatClampNeg 0) 1) (Int32.toNatClampNeg 1) 2) (Int32.toNatClampNeg 2) 4) (Int32.toNatClampNeg 3) 5) (Int32.toNatClampNeg 4) 3) (Int32.toNatClampNeg 5) 10) (Int32.toNatClampNeg 6) 13) (Int32.toNatClampNeg 7) 12)))] s.heap H locs := G
      refine lv_astore_n (lv' := [(3, .ref e0), (0, .ref b), (1, .ref (lay 0)), (2, .int v2)]) hC.1 hC.2.1 dL_agency_279 rfl hl (by decide) rfl (fun ls hl => ?_)
      refine lv_iconst (v := 0) hC.1 hC.2.1 dL_agency_280 (by decide) ?_
      refine lv_istore (lv' := [(4, .int 0), (3, .ref e0), (0, .ref b), (1, .ref (lay 0)), (2, .int v2)]) hC.1 hC.2.1 dL_agency_281 hl (by decide) rfl (fun ls hl => ?_)
      refine W.widen (k := (q + 1)) (n := 24 * (q + 1)) (by omega) (by omega) ?_
      obtain ⟨n1, h⟩ := h
      exact l_L_agency_283 hl0 hC hr hlocks hT hL hX hb n1 (q + 1) _ _ _ (by omega) h _ _ _ G (lv_sub hl [2, 3, 1, 0] rfl)
    · replace h := h.2 c7
      refine lv_aload_n hC.1 hC.2.1 dL_agency_175 rfl (lv_at hl 0 rfl) ?_
      refine lv_bipush (v := 8) hC.1 hC.2.1 dL_agency_176 (by decide) ?_
      obtain ⟨hk48, h⟩ := h
      refine lg_cell (k := 8) (rest := []) hL hk48 hC hX hb G (va_cwS 2 hC.2.2.2.2 gL_agency_L_cell rfl rfl rfl hdS_L_cell ⟨Nat.le_of_ble_eq_true rfl, Nat.le_of_ble_eq_true rfl⟩) hl.1 (Nat.le_of_ble_eq_true rfl) dL_agency_178 ⟨by show _ ≤ 103; omega, by show _ ≤ 2472; omega⟩ (fun r49 H locs G => ?_)
      replace h := h r49
      refine lv_iconst (v := 3) hC.1 hC.2.1 dL_agency_181 (by decide) ?_
      refine lv_iload_n hC.1 hC.2.1 dL_agency_182 rfl (lv_at hl 3 rfl) ?_
      refine lv_imul hC.1 hC.2.1 dL_agency_183 ?_
      refine lv_ishr hC.1 hC.2.1 dL_agency_184 ?_
      refine lv_iload_n hC.1 hC.2.1 dL_agency_185 rfl (lv_at hl 2 rfl) ?_
      refine lg_i G (ag_runS (As := [.int (r49 >>> ((3 * v3) &&& 31)), .int v2]) (rest := []) hC (hT.ag (fun _ hk => lg_lay G hk)) (lg_ag G) (c_L_below l D cy lay h _) (va_cwS 2 hC.2.2.2.2 gL_agency_L_below rfl rfl rfl hdS_L_below ⟨Nat.le_of_ble_eq_true rfl, Nat.le_of_ble_eq_true rfl⟩) rfl hl.1 rfl (Nat.le_of_ble_eq_true rfl) dL_agency_186 ⟨by show _ ≤ 103; omega, by show _ ≤ 2472; omega⟩) (fun r51 σ50 H locs h G => ?_)
      (try dsimp only at h)
      refine lv_istore (lv' := [(4, .int r51), (0, .ref b), (1, .ref (lay 0)), (2, .int v2), (3, .int v3)]) hC.1 hC.2.1 dL_agency_189 hl (by decide) rfl (fun ls hl => ?_)
      refine lv_aload_n hC.1 hC.2.1 dL_agency_191 rfl (lv_at hl 1 rfl) ?_
      refine lv_bipush (v := 8) hC.1 hC.2.1 dL_agency_192 (by decide) ?_
      obtain ⟨hk52, h⟩ := h
      refine lg_cell (k := 8) (rest := []) hL hk52 hC hX hb G (va_cwS 2 hC.2.2.2.2 gL_agency_L_cell rfl rfl rfl hdS_L_cell ⟨Nat.le_of_ble_eq_true rfl, Nat.le_of_ble_eq_true rfl⟩) hl.1 (Nat.le_of_ble_eq_true rfl) dL_agency_194 ⟨by show _ ≤ 103; omega, by show _ ≤ 2472; omega⟩ (fun r53 H locs G => ?_)
      replace h := h r53
      refine lv_iconst (v := 3) hC.1 hC.2.1 dL_agency_197 (by decide) ?_
      refine lv_iload_n hC.1 hC.2.1 dL_agency_198 rfl (lv_at hl 4 rfl) ?_
      refine lv_imul hC.1 hC.2.1 dL_agency_199 ?_
      refine lv_bipush (v := 9) hC.1 hC.2.1 dL_agency_200 (by decide) ?_
      refine lv_iadd hC.1 hC.2.1 dL_agency_202 ?_
      refine lv_ishr hC.1 hC.2.1 dL_agency_203 ?_
      refine lv_iload_n hC.1 hC.2.1 dL_agency_204 rfl (lv_at hl 3 rfl) ?_
      refine lg_i G (ag_runS (As := [.int (r53 >>> (((3 * v3) + 9) &&& 31)), .int v2]) (rest := []) hC (hT.ag (fun _ hk => lg_lay G hk)) (lg_ag G) (c_L_below l D cy lay h _) (va_cwS 2 hC.2.2.2.2 gL_agency_L_below rfl rfl rfl hdS_L_below ⟨Nat.le_of_ble_eq_true rfl, Nat.le_of_ble_eq_true rfl⟩) rfl hl.1 rfl (Nat.le_of_ble_eq_true rfl) dL_agency_205 ⟨by show _ ≤ 103; omega, by show _ ≤ 2472; omega⟩) (fun r55 σ54 H locs h G => ?_)
      (try dsimp only at h)
      refine lv_istore (lv' := [(5, .int r55), (4, .int r51), (0, .ref b), (1, .ref (lay 0)), (2, .int v2), (3, .int v3)]) hC.1 hC.2.1 dL_agency_208 hl (by decide) rfl (fun ls hl => ?_)
      refine lv_iload hC.1 hC.2.1 dL_agency_210 (lv_at hl 1 rfl) ?_
      refine lv_iload hC.1 hC.2.1 dL_agency_212 (lv_at hl 0 rfl) ?_
      refine lv_icmp_eq (tgt := 232) hC.1 hC.2.1 dL_agency_214 (by decide) (fun c56 => ?_) (fun c56 => ?_)
      · replace h := h.1 c56
        refine lv_iinc (v := v3 + 1) (lv' := [(3, .int (v3 + 1)), (5, .int r55), (4, .int r51), (0, .ref b), (1, .ref (lay 0)), (2, .int v2)]) hC.1 hC.2.1 dL_agency_232 hl (k := 5) rfl rfl (by decide) rfl (fun ls hl => ?_)
        refine lv_goto (tgt := 170) hC.1 hC.2.1 dL_agency_235 (by decide) ?_
        refine W.widen (k := q) (n := 24 * q) (by omega) (by omega) ?_
        exact ih q _ _ _ (by omega) h _ _ _ G (lv_sub hl [3, 4, 5, 0] rfl)
      · replace h := h.2 c56
        refine lv_iload_n hC.1 hC.2.1 dL_agency_217 rfl (lv_at hl 5 rfl) ?_
        refine lv_iconst (v := 2) hC.1 hC.2.1 dL_agency_218 (by decide) ?_
        refine lv_icmp_ge (tgt := 232) hC.1 hC.2.1 dL_agency_219 (by decide) (fun c57 => ?_) (fun c57 => ?_)
        · replace h := h.1 c57
          refine lv_iinc (v := v3 + 1) (lv' := [(3, .int (v3 + 1)), (5, .int r55), (4, .int r51), (0, .ref b), (1, .ref (lay 0)), (2, .int v2)]) hC.1 hC.2.1 dL_agency_232 hl (k := 5) rfl rfl (by decide) rfl (fun ls hl => ?_)
          refine lv_goto (tgt := 170) hC.1 hC.2.1 dL_agency_235 (by decide) ?_
          refine W.widen (k := q) (n := 24 * q) (by omega) (by omega) ?_
          exact ih q _ _ _ (by omega) h _ _ _ G (lv_sub hl [3, 4, 5, 0] rfl)
        · replace h := h.2 c57
          refine lv_aload_n hC.1 hC.2.1 dL_agency_222 rfl (lv_at hl 3 rfl) ?_
          refine lv_iload hC.1 hC.2.1 dL_agency_223 (lv_at hl 1 rfl) ?_
          refine lv_iload hC.1 hC.2.1 dL_agency_225 (lv_at hl 0 rfl) ?_
          refine lv_iconst (v := 1) hC.1 hC.2.1 dL_agency_227 (by decide) ?_
          refine lg_i G (ag_runV (As := [.int r51, .int r55, .int 1]) (rest := []) hC (hT.ag (fun _ hk => lg_lay G hk)) (lg_ag G) (c_N_X7_feud l D cy lay h _) (cwV 3 hC.2.2.2.2 gL_agency_X7_feud rfl rfl rfl hdV_X7_feud ⟨Nat.le_of_ble_eq_true rfl, Nat.le_of_ble_eq_true rfl⟩) (ag_recv (hT.ag (fun _ hk => lg_lay G hk)) (lg_ag G) (by decide) e_ag k_X7) rfl hl.1 rfl (Nat.le_of_ble_eq_true rfl) dL_agency_228 ⟨by show _ ≤ 103; omega, by show _ ≤ 2472; omega⟩) (fun r59 σ58 H locs h G => ?_)
          (try dsimp only at h)
          refine lv_pop hC.1 hC.2.1 dL_agency_231 rfl ?_
          refine lv_iinc (v := v3 + 1) (lv' := [(3, .int (v3 + 1)), (5, .int r55), (4, .int r51), (0, .ref b), (1, .ref (lay 0)), (2, .int v2)]) hC.1 hC.2.1 dL_agency_232 hl (k := 5) rfl rfl (by decide) rfl (fun ls hl => ?_)
          refine lv_goto (tgt := 170) hC.1 hC.2.1 dL_agency_235 (by decide) ?_
          refine W.widen (k := q) (n := 24 * q) (by omega) (by omega) ?_
          exact ih q _ _ _ (by omega) h _ _ _ G (lv_sub hl [3, 4, 5, 0] rfl)
def u_L_agency_95 (post : MS → Prop) : Nat → MS → Int32 → Int32 → Prop
  | 0, _, _, _ => False
  | n + 1, σ, v2, v3 => ((v2 ≤ v3 → (∃ k, u_L_agency_170 post k σ v2 0)) ∧ (¬ v2 ≤ v3 → (¬ 4 < (0 : Int32) ∧ ∀ r61 : Int32, w_L_below (fun r63 σ62 => (¬ 5 < (0 : Int32) ∧ ∀ r65 : Int32, (¬ 6 < (0 : Int32) ∧ ∀ r67 : Int32, w_L_below (fun r69 σ68 => (¬ 7 < (0 : Int32) ∧ ∀ r71 : Int32, w_L_below (fun r73 σ72 => w_N_X7_player (fun r75 σ74 => u_L_agency_95 post n σ74 v2 (v3 + 1)) σ72 (1 + r63) ((r65 >>> (v3 &&& 31)) &&& 65535) r69 (1 + r73)) σ68 (r71 >>> ((3 * v3) &&& 31)) 60)) σ62 (r67 >>> ((2 * v3) &&& 31)) 3))) σ (r61 >>> ((3 * v3) &&& 31)) 7)))
set_option maxHeartbeats 4000000 in
set_option maxRecDepth 100000 in
theorem l_L_agency_95 {p : Program} {l : Launch} {e : Env} {s : State} {m : MethodId} {below : List Frame} {meth : Method} {c : Code} {D : va_G} {cy : Nat → ClassId} {lay : Nat → Nat} {b L : Nat} {xs : Nat → Int32} {args : Array Value} {post : MS → Prop} (hl0 : l.stackTraces = false) (hC : CallFix p m c cL_agency 6 s args wsL_agency RL) (hr : meth.sig.returnType = some (.object "FirstdanceAgency")) (hlocks : meth.locks = false) (hT : lgT D cy s) (hL : L ≤ 260) (hX : va_X b L xs s s.heap) (hb : b < s.heap.size) : ∀ (n : Nat), ∀ (q : Nat) (σ : MS) (v2 : Int32) (v3 : Int32), q + n * 0 + 16 ≤ 103 → u_L_agency_95 post n σ v2 v3 → ∀ (H : Heap) (locs : List Loc) (ls : Array Slot), lgG D cy lay σ [] s.heap H locs → lv_has ls 6 [(0, .ref b), (1, .ref (lay 0)), (2, .int v2), (3, .int v3)] → W p l e rm_L_agency s m args below meth c H locs (q) (24 * q) (MQ below (agenQ D cy post s.heap.size) args s 103 2472 (lgA s.heap.size)) (F0 m 95 ls []) := by
  intro n
  induction n with
  | zero =>
    intro q σ v2 v3 hq h
    exact h.elim
  | succ n ih =>
    intro q σ v2 v3 hq h H locs ls G hl
    rw [u_L_agency_95] at h
    refine lv_iload_n hC.1 hC.2.1 dL_agency_95 rfl (lv_at hl 3 rfl) ?_
    refine lv_iload_n hC.1 hC.2.1 dL_agency_96 rfl (lv_at hl 2 rfl) ?_
    refine lv_icmp_ge (tgt := 168) hC.1 hC.2.1 dL_agency_97 (by decide) (fun c6 => ?_) (fun c6 => ?_)
    · replace h := h.1 c6
      refine lv_iconst (v := 0) hC.1 hC.2.1 dL_agency_168 (by decide) ?_
      refine lv_istore_n (lv' := [(3, .int 0), (0, .ref b), (1, .ref (lay 0)), (2, .int v2)]) hC.1 hC.2.1 dL_agency_169 rfl hl (by decide) rfl (fun ls hl => ?_)
      refine W.widen (k := q) (n := 24 * q) (by omega) (by omega) ?_
      obtain ⟨n1, h⟩ := h
      exact l_L_agency_170 hl0 hC hr hlocks hT hL hX hb n1 q _ _ _ (by omega) h _ _ _ G (lv_sub hl [1, 2, 3, 0] rfl)
    · replace h := h.2 c6
      refine lv_aload_n hC.1 hC.2.1 dL_agency_100 rfl (lv_at hl 1 rfl) ?_
      refine lv_iconst (v := 1) hC.1 hC.2.1 dL_agency_101 (by decide) ?_
      refine lv_aload_n hC.1 hC.2.1 dL_agency_102 rfl (lv_at hl 0 rfl) ?_
      refine lv_iconst (v := 4) hC.1 hC.2.1 dL_agency_103 (by decide) ?_
      obtain ⟨hk60, h⟩ := h
      refine lg_cell (k := 4) (rest := [.int 1, .ref (lay 0)]) hL hk60 hC hX hb G (va_cwS 2 hC.2.2.2.2 gL_agency_L_cell rfl rfl rfl hdS_L_cell ⟨Nat.le_of_ble_eq_true rfl, Nat.le_of_ble_eq_true rfl⟩) hl.1 (Nat.le_of_ble_eq_true rfl) dL_agency_104 ⟨by show _ ≤ 103; omega, by show _ ≤ 2472; omega⟩ (fun r61 H locs G => ?_)
      replace h := h r61
      refine lv_iconst (v := 3) hC.1 hC.2.1 dL_agency_107 (by decide) ?_
      refine lv_iload_n hC.1 hC.2.1 dL_agency_108 rfl (lv_at hl 3 rfl) ?_
      refine lv_imul hC.1 hC.2.1 dL_agency_109 ?_
      refine lv_ishr hC.1 hC.2.1 dL_agency_110 ?_
      refine lv_bipush (v := 7) hC.1 hC.2.1 dL_agency_111 (by decide) ?_
      refine lg_i G (ag_runS (As := [.int (r61 >>> ((3 * v3) &&& 31)), .int 7]) (rest := [.int 1, .ref (lay 0)]) hC (hT.ag (fun _ hk => lg_lay G hk)) (lg_ag G) (c_L_below l D cy lay h _) (va_cwS 2 hC.2.2.2.2 gL_agency_L_below rfl rfl rfl hdS_L_below ⟨Nat.le_of_ble_eq_true rfl, Nat.le_of_ble_eq_true rfl⟩) rfl hl.1 rfl (Nat.le_of_ble_eq_true rfl) dL_agency_113 ⟨by show _ ≤ 103; omega, by show _ ≤ 2472; omega⟩) (fun r63 σ62 H locs h G => ?_)
      (try dsimp only at h)
      refine lv_iadd hC.1 hC.2.1 dL_agency_116 ?_
      refine lv_aload_n hC.1 hC.2.1 dL_agency_117 rfl (lv_at hl 0 rfl) ?_
      refine lv_iconst (v := 5) hC.1 hC.2.1 dL_agency_118 (by decide) ?_
      obtain ⟨hk64, h⟩ := h
      refine lg_cell (k := 5) (rest := [.int (1 + r63), .ref (lay 0)]) hL hk64 hC hX hb G (va_cwS 2 hC.2.2.2.2 gL_agency_L_cell rfl rfl rfl hdS_L_cell ⟨Nat.le_of_ble_eq_true rfl, Nat.le_of_ble_eq_true rfl⟩) hl.1 (Nat.le_of_ble_eq_true rfl) dL_agency_119 ⟨by show _ ≤ 103; omega, by show _ ≤ 2472; omega⟩ (fun r65 H locs G => ?_)
      replace h := h r65
      refine lv_iload_n hC.1 hC.2.1 dL_agency_122 rfl (lv_at hl 3 rfl) ?_
      refine lv_ishr hC.1 hC.2.1 dL_agency_123 ?_
      refine lv_ldc (v := 65535) hC.1 hC.2.1 hC.2.2.2.1 (hC.2.2.2.2 _ (wm 4 rfl)) dL_agency_124 ?_
      refine lv_iand hC.1 hC.2.1 dL_agency_126 ?_
      refine lv_aload_n hC.1 hC.2.1 dL_agency_127 rfl (lv_at hl 0 rfl) ?_
      refine lv_bipush (v := 6) hC.1 hC.2.1 dL_agency_128 (by decide) ?_
      obtain ⟨hk66, h⟩ := h
      refine lg_cell (k := 6) (rest := [.int ((r65 >>> (v3 &&& 31)) &&& 65535), .int (1 + r63), .ref (lay 0)]) hL hk66 hC hX hb G (va_cwS 2 hC.2.2.2.2 gL_agency_L_cell rfl rfl rfl hdS_L_cell ⟨Nat.le_of_ble_eq_true rfl, Nat.le_of_ble_eq_true rfl⟩) hl.1 (Nat.le_of_ble_eq_true rfl) dL_agency_130 ⟨by show _ ≤ 103; omega, by show _ ≤ 2472; omega⟩ (fun r67 H locs G => ?_)
      replace h := h r67
      refine lv_iconst (v := 2) hC.1 hC.2.1 dL_agency_133 (by decide) ?_
      refine lv_iload_n hC.1 hC.2.1 dL_agency_134 rfl (lv_at hl 3 rfl) ?_
      refine lv_imul hC.1 hC.2.1 dL_agency_135 ?_
      refine lv_ishr hC.1 hC.2.1 dL_agency_136 ?_
      refine lv_iconst (v := 3) hC.1 hC.2.1 dL_agency_137 (by decide) ?_
      refine lg_i G (ag_runS (As := [.int (r67 >>> ((2 * v3) &&& 31)), .int 3]) (rest := [.int ((r65 >>> (v3 &&& 31)) &&& 65535), .int (1 + r63), .ref (lay 0)]) hC (hT.ag (fun _ hk => lg_lay G hk)) (lg_ag G) (c_L_below l D cy lay h _) (va_cwS 2 hC.2.2.2.2 gL_agency_L_below rfl rfl rfl hdS_L_below ⟨Nat.le_of_ble_eq_true rfl, Nat.le_of_ble_eq_true rfl⟩) rfl hl.1 rfl (Nat.le_of_ble_eq_true rfl) dL_agency_138 ⟨by show _ ≤ 103; omega, by show _ ≤ 2472; omega⟩) (fun r69 σ68 H locs h G => ?_)
      (try dsimp only at h)
      refine lv_iconst (v := 1) hC.1 hC.2.1 dL_agency_141 (by decide) ?_
      refine lv_aload_n hC.1 hC.2.1 dL_agency_142 rfl (lv_at hl 0 rfl) ?_
      refine lv_bipush (v := 7) hC.1 hC.2.1 dL_agency_143 (by decide) ?_
      obtain ⟨hk70, h⟩ := h
      refine lg_cell (k := 7) (rest := [.int 1, .int r69, .int ((r65 >>> (v3 &&& 31)) &&& 65535), .int (1 + r63), .ref (lay 0)]) hL hk70 hC hX hb G (va_cwS 2 hC.2.2.2.2 gL_agency_L_cell rfl rfl rfl hdS_L_cell ⟨Nat.le_of_ble_eq_true rfl, Nat.le_of_ble_eq_true rfl⟩) hl.1 (Nat.le_of_ble_eq_true rfl) dL_agency_145 ⟨by show _ ≤ 103; omega, by show _ ≤ 2472; omega⟩ (fun r71 H locs G => ?_)
      replace h := h r71
      refine lv_iconst (v := 3) hC.1 hC.2.1 dL_agency_148 (by decide) ?_
      refine lv_iload_n hC.1 hC.2.1 dL_agency_149 rfl (lv_at hl 3 rfl) ?_
      refine lv_imul hC.1 hC.2.1 dL_agency_150 ?_
      refine lv_ishr hC.1 hC.2.1 dL_agency_151 ?_
      refine lv_bipush (v := 60) hC.1 hC.2.1 dL_agency_152 (by decide) ?_
      refine lg_i G (ag_runS (As := [.int (r71 >>> ((3 * v3) &&& 31)), .int 60]) (rest := [.int 1, .int r69, .int ((r65 >>> (v3 &&& 31)) &&& 65535), .int (1 + r63), .ref (lay 0)]) hC (hT.ag (fun _ hk => lg_lay G hk)) (lg_ag G) (c_L_below l D cy lay h _) (va_cwS 2 hC.2.2.2.2 gL_agency_L_below rfl rfl rfl hdS_L_below ⟨Nat.le_of_ble_eq_true rfl, Nat.le_of_ble_eq_true rfl⟩) rfl hl.1 rfl (Nat.le_of_ble_eq_true rfl) dL_agency_154 ⟨by show _ ≤ 103; omega, by show _ ≤ 2472; omega⟩) (fun r73 σ72 H locs h G => ?_)
      (try dsimp only at h)
      refine lv_iadd hC.1 hC.2.1 dL_agency_157 ?_
      refine lg_i G (ag_runV (As := [.int (1 + r63), .int ((r65 >>> (v3 &&& 31)) &&& 65535), .int r69, .int (1 + r73)]) (rest := []) hC (hT.ag (fun _ hk => lg_lay G hk)) (lg_ag G) (c_N_X7_player l D cy lay h _) (cwV 4 hC.2.2.2.2 gL_agency_X7_player rfl rfl rfl hdV_X7_player ⟨Nat.le_of_ble_eq_true rfl, Nat.le_of_ble_eq_true rfl⟩) (ag_recv (hT.ag (fun _ hk => lg_lay G hk)) (lg_ag G) (by decide) e_ag k_X7) rfl hl.1 rfl (Nat.le_of_ble_eq_true rfl) dL_agency_158 ⟨by show _ ≤ 103; omega, by show _ ≤ 2472; omega⟩) (fun r75 σ74 H locs h G => ?_)
      (try dsimp only at h)
      refine lv_pop hC.1 hC.2.1 dL_agency_161 rfl ?_
      refine lv_iinc (v := v3 + 1) (lv' := [(3, .int (v3 + 1)), (0, .ref b), (1, .ref (lay 0)), (2, .int v2)]) hC.1 hC.2.1 dL_agency_162 hl (k := 3) rfl rfl (by decide) rfl (fun ls hl => ?_)
      refine lv_goto (tgt := 95) hC.1 hC.2.1 dL_agency_165 (by decide) ?_
      refine W.widen (k := q) (n := 24 * q) (by omega) (by omega) ?_
      exact ih q _ _ _ (by omega) h _ _ _ G (lv_sub hl [1, 2, 3, 0] rfl)
def u_L_agency_10 (post : MS → Prop) : Nat → MS → Int32 → Prop
  | 0, _, _ => False
  | n + 1, σ, v2 => ((7 ≤ v2 → (¬ 3 < (0 : Int32) ∧ ∀ r3 : Int32, w_L_below (fun r5 σ4 => (∃ k, u_L_agency_95 post k σ4 (2 + r5) 0)) σ r3 5)) ∧ (¬ 7 ≤ v2 → (¬ 0 < (0 : Int32) ∧ ∀ r77 : Int32, w_L_below (fun r79 σ78 => (¬ 1 < (0 : Int32) ∧ ∀ r81 : Int32, w_L_below (fun r83 σ82 => ((r79 = r83 → u_L_agency_10 post n σ82 (v2 + 1)) ∧ (¬ r79 = r83 → (¬ 2 < (0 : Int32) ∧ ∀ r86 : Int32, w_L_below (fun r88 σ87 => w_N_X7_road (fun r90 σ89 => u_L_agency_10 post n σ89 (v2 + 1)) σ87 r79 r83 r88) σ82 (r86 >>> ((2 * v2) &&& 31)) 7)))) σ78 (r81 >>> ((2 * v2) &&& 31)) 6)) σ (r77 >>> ((2 * v2) &&& 31)) 6)))
set_option maxHeartbeats 4000000 in
set_option maxRecDepth 100000 in
theorem l_L_agency_10 {p : Program} {l : Launch} {e : Env} {s : State} {m : MethodId} {below : List Frame} {meth : Method} {c : Code} {D : va_G} {cy : Nat → ClassId} {lay : Nat → Nat} {b L : Nat} {xs : Nat → Int32} {args : Array Value} {post : MS → Prop} (hl0 : l.stackTraces = false) (hC : CallFix p m c cL_agency 6 s args wsL_agency RL) (hr : meth.sig.returnType = some (.object "FirstdanceAgency")) (hlocks : meth.locks = false) (hT : lgT D cy s) (hL : L ≤ 260) (hX : va_X b L xs s s.heap) (hb : b < s.heap.size) : ∀ (n : Nat), ∀ (q : Nat) (σ : MS) (v2 : Int32), q + n * 0 + 16 ≤ 103 → u_L_agency_10 post n σ v2 → ∀ (H : Heap) (locs : List Loc) (ls : Array Slot), lgG D cy lay σ [] s.heap H locs → lv_has ls 6 [(0, .ref b), (1, .ref (lay 0)), (2, .int v2)] → W p l e rm_L_agency s m args below meth c H locs (q) (24 * q) (MQ below (agenQ D cy post s.heap.size) args s 103 2472 (lgA s.heap.size)) (F0 m 10 ls []) := by
  intro n
  induction n with
  | zero =>
    intro q σ v2 hq h
    exact h.elim
  | succ n ih =>
    intro q σ v2 hq h H locs ls G hl
    rw [u_L_agency_10] at h
    refine lv_iload_n hC.1 hC.2.1 dL_agency_10 rfl (lv_at hl 2 rfl) ?_
    refine lv_bipush (v := 7) hC.1 hC.2.1 dL_agency_11 (by decide) ?_
    refine lv_icmp_ge (tgt := 81) hC.1 hC.2.1 dL_agency_13 (by decide) (fun c1 => ?_) (fun c1 => ?_)
    · replace h := h.1 c1
      refine lv_iconst (v := 2) hC.1 hC.2.1 dL_agency_81 (by decide) ?_
      refine lv_aload_n hC.1 hC.2.1 dL_agency_82 rfl (lv_at hl 0 rfl) ?_
      refine lv_iconst (v := 3) hC.1 hC.2.1 dL_agency_83 (by decide) ?_
      obtain ⟨hk2, h⟩ := h
      refine lg_cell (k := 3) (rest := [.int 2]) hL hk2 hC hX hb G (va_cwS 2 hC.2.2.2.2 gL_agency_L_cell rfl rfl rfl hdS_L_cell ⟨Nat.le_of_ble_eq_true rfl, Nat.le_of_ble_eq_true rfl⟩) hl.1 (Nat.le_of_ble_eq_true rfl) dL_agency_84 ⟨by show _ ≤ 103; omega, by show _ ≤ 2472; omega⟩ (fun r3 H locs G => ?_)
      replace h := h r3
      refine lv_iconst (v := 5) hC.1 hC.2.1 dL_agency_87 (by decide) ?_
      refine lg_i G (ag_runS (As := [.int r3, .int 5]) (rest := [.int 2]) hC (hT.ag (fun _ hk => lg_lay G hk)) (lg_ag G) (c_L_below l D cy lay h _) (va_cwS 2 hC.2.2.2.2 gL_agency_L_below rfl rfl rfl hdS_L_below ⟨Nat.le_of_ble_eq_true rfl, Nat.le_of_ble_eq_true rfl⟩) rfl hl.1 rfl (Nat.le_of_ble_eq_true rfl) dL_agency_88 ⟨by show _ ≤ 103; omega, by show _ ≤ 2472; omega⟩) (fun r5 σ4 H locs h G => ?_)
      (try dsimp only at h)
      refine lv_iadd hC.1 hC.2.1 dL_agency_91 ?_
      refine lv_istore_n (lv' := [(2, .int (2 + r5)), (0, .ref b), (1, .ref (lay 0))]) hC.1 hC.2.1 dL_agency_92 rfl hl (by decide) rfl (fun ls hl => ?_)
      refine lv_iconst (v := 0) hC.1 hC.2.1 dL_agency_93 (by decide) ?_
      refine lv_istore_n (lv' := [(3, .int 0), (2, .int (2 + r5)), (0, .ref b), (1, .ref (lay 0))]) hC.1 hC.2.1 dL_agency_94 rfl hl (by decide) rfl (fun ls hl => ?_)
      refine W.widen (k := q) (n := 24 * q) (by omega) (by omega) ?_
      obtain ⟨n1, h⟩ := h
      exact l_L_agency_95 hl0 hC hr hlocks hT hL hX hb n1 q _ _ _ (by omega) h _ _ _ G (lv_sub hl [2, 3, 1, 0] rfl)
    · replace h := h.2 c1
      refine lv_aload_n hC.1 hC.2.1 dL_agency_16 rfl (lv_at hl 0 rfl) ?_
      refine lv_iconst (v := 0) hC.1 hC.2.1 dL_agency_17 (by decide) ?_
      obtain ⟨hk76, h⟩ := h
      refine lg_cell (k := 0) (rest := []) hL hk76 hC hX hb G (va_cwS 2 hC.2.2.2.2 gL_agency_L_cell rfl rfl rfl hdS_L_cell ⟨Nat.le_of_ble_eq_true rfl, Nat.le_of_ble_eq_true rfl⟩) hl.1 (Nat.le_of_ble_eq_true rfl) dL_agency_18 ⟨by show _ ≤ 103; omega, by show _ ≤ 2472; omega⟩ (fun r77 H locs G => ?_)
      replace h := h r77
      refine lv_iconst (v := 2) hC.1 hC.2.1 dL_agency_21 (by decide) ?_
      refine lv_iload_n hC.1 hC.2.1 dL_agency_22 rfl (lv_at hl 2 rfl) ?_
      refine lv_imul hC.1 hC.2.1 dL_agency_23 ?_
      refine lv_ishr hC.1 hC.2.1 dL_agency_24 ?_
      refine lv_bipush (v := 6) hC.1 hC.2.1 dL_agency_25 (by decide) ?_
      refine lg_i G (ag_runS (As := [.int (r77 >>> ((2 * v2) &&& 31)), .int 6]) (rest := []) hC (hT.ag (fun _ hk => lg_lay G hk)) (lg_ag G) (c_L_below l D cy lay h _) (va_cwS 2 hC.2.2.2.2 gL_agency_L_below rfl rfl rfl hdS_L_below ⟨Nat.le_of_ble_eq_true rfl, Nat.le_of_ble_eq_true rfl⟩) rfl hl.1 rfl (Nat.le_of_ble_eq_true rfl) dL_agency_27 ⟨by show _ ≤ 103; omega, by show _ ≤ 2472; omega⟩) (fun r79 σ78 H locs h G => ?_)
      (try dsimp only at h)
      refine lv_istore_n (lv' := [(3, .int r79), (0, .ref b), (1, .ref (lay 0)), (2, .int v2)]) hC.1 hC.2.1 dL_agency_30 rfl hl (by decide) rfl (fun ls hl => ?_)
      refine lv_aload_n hC.1 hC.2.1 dL_agency_31 rfl (lv_at hl 1 rfl) ?_
      refine lv_iconst (v := 1) hC.1 hC.2.1 dL_agency_32 (by decide) ?_
      obtain ⟨hk80, h⟩ := h
      refine lg_cell (k := 1) (rest := []) hL hk80 hC hX hb G (va_cwS 2 hC.2.2.2.2 gL_agency_L_cell rfl rfl rfl hdS_L_cell ⟨Nat.le_of_ble_eq_true rfl, Nat.le_of_ble_eq_true rfl⟩) hl.1 (Nat.le_of_ble_eq_true rfl) dL_agency_33 ⟨by show _ ≤ 103; omega, by show _ ≤ 2472; omega⟩ (fun r81 H locs G => ?_)
      replace h := h r81
      refine lv_iconst (v := 2) hC.1 hC.2.1 dL_agency_36 (by decide) ?_
      refine lv_iload_n hC.1 hC.2.1 dL_agency_37 rfl (lv_at hl 3 rfl) ?_
      refine lv_imul hC.1 hC.2.1 dL_agency_38 ?_
      refine lv_ishr hC.1 hC.2.1 dL_agency_39 ?_
      refine lv_bipush (v := 6) hC.1 hC.2.1 dL_agency_40 (by decide) ?_
      refine lg_i G (ag_runS (As := [.int (r81 >>> ((2 * v2) &&& 31)), .int 6]) (rest := []) hC (hT.ag (fun _ hk => lg_lay G hk)) (lg_ag G) (c_L_below l D cy lay h _) (va_cwS 2 hC.2.2.2.2 gL_agency_L_below rfl rfl rfl hdS_L_below ⟨Nat.le_of_ble_eq_true rfl, Nat.le_of_ble_eq_true rfl⟩) rfl hl.1 rfl (Nat.le_of_ble_eq_true rfl) dL_agency_42 ⟨by show _ ≤ 103; omega, by show _ ≤ 2472; omega⟩) (fun r83 σ82 H locs h G => ?_)
      (try dsimp only at h)
      refine lv_istore (lv' := [(4, .int r83), (3, .int r79), (0, .ref b), (1, .ref (lay 0)), (2, .int v2)]) hC.1 hC.2.1 dL_agency_45 hl (by decide) rfl (fun ls hl => ?_)
      refine lv_iload_n hC.1 hC.2.1 dL_agency_47 rfl (lv_at hl 1 rfl) ?_
      refine lv_iload hC.1 hC.2.1 dL_agency_48 (lv_at hl 0 rfl) ?_
      refine lv_icmp_eq (tgt := 75) hC.1 hC.2.1 dL_agency_50 (by decide) (fun c84 => ?_) (fun c84 => ?_)
      · replace h := h.1 c84
        refine lv_iinc (v := v2 + 1) (lv' := [(2, .int (v2 + 1)), (4, .int r83), (3, .int r79), (0, .ref b), (1, .ref (lay 0))]) hC.1 hC.2.1 dL_agency_75 hl (k := 4) rfl rfl (by decide) rfl (fun ls hl => ?_)
        refine lv_goto (tgt := 10) hC.1 hC.2.1 dL_agency_78 (by decide) ?_
        refine W.widen (k := q) (n := 24 * q) (by omega) (by omega) ?_
        exact ih q _ _ (by omega) h _ _ _ G (lv_sub hl [3, 4, 0] rfl)
      · replace h := h.2 c84
        refine lv_aload_n hC.1 hC.2.1 dL_agency_53 rfl (lv_at hl 3 rfl) ?_
        refine lv_iload_n hC.1 hC.2.1 dL_agency_54 rfl (lv_at hl 1 rfl) ?_
        refine lv_iload hC.1 hC.2.1 dL_agency_55 (lv_at hl 0 rfl) ?_
        refine lv_aload_n hC.1 hC.2.1 dL_agency_57 rfl (lv_at hl 2 rfl) ?_
        refine lv_iconst (v := 2) hC.1 hC.2.1 dL_agency_58 (by decide) ?_
        obtain ⟨hk85, h⟩ := h
        refine lg_cell (k := 2) (rest := [.int r83, .int r79, .ref (lay 0)]) hL hk85 hC hX hb G (va_cwS 2 hC.2.2.2.2 gL_agency_L_cell rfl rfl rfl hdS_L_cell ⟨Nat.le_of_ble_eq_true rfl, Nat.le_of_ble_eq_true rfl⟩) hl.1 (Nat.le_of_ble_eq_true rfl) dL_agency_59 ⟨by show _ ≤ 103; omega, by show _ ≤ 2472; omega⟩ (fun r86 H locs G => ?_)
        replace h := h r86
        refine lv_iconst (v := 2) hC.1 hC.2.1 dL_agency_62 (by decide) ?_
        refine lv_iload_n hC.1 hC.2.1 dL_agency_63 rfl (lv_at hl 4 rfl) ?_
        refine lv_imul hC.1 hC.2.1 dL_agency_64 ?_
        refine lv_ishr hC.1 hC.2.1 dL_agency_65 ?_
        refine lv_bipush (v := 7) hC.1 hC.2.1 dL_agency_66 (by decide) ?_
        refine lg_i G (ag_runS (As := [.int (r86 >>> ((2 * v2) &&& 31)), .int 7]) (rest := [.int r83, .int r79, .ref (lay 0)]) hC (hT.ag (fun _ hk => lg_lay G hk)) (lg_ag G) (c_L_below l D cy lay h _) (va_cwS 2 hC.2.2.2.2 gL_agency_L_below rfl rfl rfl hdS_L_below ⟨Nat.le_of_ble_eq_true rfl, Nat.le_of_ble_eq_true rfl⟩) rfl hl.1 rfl (Nat.le_of_ble_eq_true rfl) dL_agency_68 ⟨by show _ ≤ 103; omega, by show _ ≤ 2472; omega⟩) (fun r88 σ87 H locs h G => ?_)
        (try dsimp only at h)
        refine lg_i G (ag_runV (As := [.int r79, .int r83, .int r88]) (rest := []) hC (hT.ag (fun _ hk => lg_lay G hk)) (lg_ag G) (c_N_X7_road l D cy lay h _) (cwV 3 hC.2.2.2.2 gL_agency_X7_road rfl rfl rfl hdV_X7_road ⟨Nat.le_of_ble_eq_true rfl, Nat.le_of_ble_eq_true rfl⟩) (ag_recv (hT.ag (fun _ hk => lg_lay G hk)) (lg_ag G) (by decide) e_ag k_X7) rfl hl.1 rfl (Nat.le_of_ble_eq_true rfl) dL_agency_71 ⟨by show _ ≤ 103; omega, by show _ ≤ 2472; omega⟩) (fun r90 σ89 H locs h G => ?_)
        (try dsimp only at h)
        refine lv_pop hC.1 hC.2.1 dL_agency_74 rfl ?_
        refine lv_iinc (v := v2 + 1) (lv' := [(2, .int (v2 + 1)), (4, .int r83), (3, .int r79), (0, .ref b), (1, .ref (lay 0))]) hC.1 hC.2.1 dL_agency_75 hl (k := 4) rfl rfl (by decide) rfl (fun ls hl => ?_)
        refine lv_goto (tgt := 10) hC.1 hC.2.1 dL_agency_78 (by decide) ?_
        refine W.widen (k := q) (n := 24 * q) (by omega) (by omega) ?_
        exact ih q _ _ (by omega) h _ _ _ G (lv_sub hl [3, 4, 0] rfl)
def u_L_agency_8 (post : MS → Prop) (σ : MS) : Prop := (∃ k, u_L_agency_10 post k σ 0)
set_option maxHeartbeats 4000000 in
set_option maxRecDepth 100000 in
theorem l_L_agency_8 {p : Program} {l : Launch} {e : Env} {s : State} {m : MethodId} {below : List Frame} {meth : Method} {c : Code} {D : va_G} {cy : Nat → ClassId} {lay : Nat → Nat} {b L : Nat} {xs : Nat → Int32} {args : Array Value} {post : MS → Prop} (hl0 : l.stackTraces = false) (hC : CallFix p m c cL_agency 6 s args wsL_agency RL) (hr : meth.sig.returnType = some (.object "FirstdanceAgency")) (hlocks : meth.locks = false) (hT : lgT D cy s) (hL : L ≤ 260) (hX : va_X b L xs s s.heap) (hb : b < s.heap.size) : ∀ (q : Nat) (σ : MS), q + 16 ≤ 103 → u_L_agency_8 post σ → ∀ (H : Heap) (locs : List Loc) (ls : Array Slot), lgG D cy lay σ [] s.heap H locs → lv_has ls 6 [(0, .ref b), (1, .ref (lay 0))] → W p l e rm_L_agency s m args below meth c H locs (q) (24 * q) (MQ below (agenQ D cy post s.heap.size) args s 103 2472 (lgA s.heap.size)) (F0 m 8 ls []) := by
  intro q σ hq h H locs ls G hl
  unfold u_L_agency_8 at h
  refine lv_iconst (v := 0) hC.1 hC.2.1 dL_agency_8 (by decide) ?_
  refine lv_istore_n (lv' := [(2, .int 0), (0, .ref b), (1, .ref (lay 0))]) hC.1 hC.2.1 dL_agency_9 rfl hl (by decide) rfl (fun ls hl => ?_)
  refine W.widen (k := q) (n := 24 * q) (by omega) (by omega) ?_
  obtain ⟨n1, h⟩ := h
  exact l_L_agency_10 hl0 hC hr hlocks hT hL hX hb n1 q _ _ (by omega) h _ _ _ G (lv_sub hl [1, 2, 0] rfl)
