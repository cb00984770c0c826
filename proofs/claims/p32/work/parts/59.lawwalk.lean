def u_L_law_309 (K21 : MS → (Nat → Int32) → (Nat → Int32) → Int32 → Int32 → Prop) (K208 : MS → (Nat → Int32) → (Nat → Int32) → Int32 → Int32 → Int32 → Int32 → Prop) (σ : MS) (τ0 : Nat → Int32) (τ1 : Nat → Int32) (v4 : Int32) (v5 : Int32) (v8 : Int32) (v13 : Int32) (v14 : Int32) (v15 : Int32) : Prop := (vp_in v13 14 ∧ (vp_in v13 14 ∧ K208 σ (upd (τ0) (Int32.toNatClampNeg v13) v14) (upd (τ1) (Int32.toNatClampNeg v13) v15) v4 v5 v8 (v13 + 1)))
set_option maxHeartbeats 4000000 in
set_option maxRecDepth 100000 in
theorem l_L_law_309 {p : Program} {l : Launch} {e : Env} {s : State} {m : MethodId} {below : List Frame} {meth : Method} {c : Code} {D : va_G} {cy : Nat → ClassId} {lay : Nat → Nat} {b L : Nat} {xs : Nat → Int32} {e0 e1 : Nat} (K21 : MS → (Nat → Int32) → (Nat → Int32) → Int32 → Int32 → Prop) (K208 : MS → (Nat → Int32) → (Nat → Int32) → Int32 → Int32 → Int32 → Int32 → Prop) (XK : Nat) (hl0 : l.stackTraces = false) (hC : CallFix p m c cL_law 16 s #[Value.ref b] wsL_law RL) (hr : meth.sig.returnType = some .boolean) (hlocks : meth.locks = false) (hT : lgT D cy s) (hL : L ≤ 260) (hX : va_X b L xs s s.heap) (hb : b < s.heap.size) (hK21 : ∀ (q : Nat) (σ : MS) (τ0 : Nat → Int32) (τ1 : Nat → Int32) (v4 : Int32) (v5 : Int32), q + XK ≤ 188 → K21 σ τ0 τ1 v4 v5 → ∀ (H : Heap) (locs : List Loc) (ls : Array Slot), lgG D cy lay σ [(e0, .inl (cy 0, 14, .inl (τ0))), (e1, .inl (cy 0, 14, .inl (τ1)))] s.heap H locs → lv_has ls 16 [(0, .ref b), (1, .ref (lay 0)), (2, .ref e0), (3, .ref e1), (4, .int v4), (5, .int v5)] → W p l e room_1 s m #[Value.ref b] below meth c H locs (q) (24 * q) (lw_Z below #[Value.ref b] s) (F0 m 21 ls [])) (hK208 : ∀ (q : Nat) (σ : MS) (τ0 : Nat → Int32) (τ1 : Nat → Int32) (v4 : Int32) (v5 : Int32) (v8 : Int32) (v13 : Int32), q + XK ≤ 188 → K208 σ τ0 τ1 v4 v5 v8 v13 → ∀ (H : Heap) (locs : List Loc) (ls : Array Slot), lgG D cy lay σ [(e0, .inl (cy 0, 14, .inl (τ0))), (e1, .inl (cy 0, 14, .inl (τ1)))] s.heap H locs → lv_has ls 16 [(0, .ref b), (1, .ref (lay 0)), (2, .ref e0), (3, .ref e1), (4, .int v4), (5, .int v5), (8, .int v8), (13, .int v13)] → W p l e room_1 s m #[Value.ref b] below meth c H locs (q) (24 * q) (lw_Z below #[Value.ref b] s) (F0 m 208 ls [])) : ∀ (q : Nat) (σ : MS) (τ0 : Nat → Int32) (τ1 : Nat → Int32) (v4 : Int32) (v5 : Int32) (v8 : Int32) (v13 : Int32) (v14 : Int32) (v15 : Int32), q + 0 + XK ≤ 188 → u_L_law_309 K21 K208 σ τ0 τ1 v4 v5 v8 v13 v14 v15 → ∀ (H : Heap) (locs : List Loc) (ls : Array Slot), lgG D cy lay σ [(e0, .inl (cy 0, 14, .inl (τ0))), (e1, .inl (cy 0, 14, .inl (τ1)))] s.heap H locs → lv_has ls 16 [(0, .ref b), (1, .ref (lay 0)), (2, .ref e0), (3, .ref e1), (4, .int v4), (5, .int v5), (8, .int v8), (13, .int v13), (14, .int v14), (15, .int v15)] → W p l e room_1 s m #[Value.ref b] below meth c H locs (q) (24 * q) (lw_Z below #[Value.ref b] s) (F0 m 309 ls []) := by
  intro q σ τ0 τ1 v4 v5 v8 v13 v14 v15 hq h H locs ls G hl
  unfold u_L_law_309 at h
  refine lv_aload_n hC.1 hC.2.1 dL_law_309 rfl (lv_at hl 2 rfl) ?_
  refine lv_iload hC.1 hC.2.1 dL_law_310 (lv_at hl 7 rfl) ?_
  refine lv_iload hC.1 hC.2.1 dL_law_312 (lv_at hl 8 rfl) ?_
  obtain ⟨hn64, h⟩ := h
  refine lg_iast hC hT.1 G 0 rfl hn64 dL_law_314 (fun H locs G => ?_)
  replace G : lgG D cy lay σ [(e0, .inl (cy 0, 14, .inl (upd (τ0) (Int32.toNatClampNeg v13) v14))), (e1, .inl (cy 0, 14, .inl (τ1)))] s.heap H locs := G
  refine lv_aload_n hC.1 hC.2.1 dL_law_315 rfl (lv_at hl 3 rfl) ?_
  refine lv_iload hC.1 hC.2.1 dL_law_316 (lv_at hl 7 rfl) ?_
  refine lv_iload hC.1 hC.2.1 dL_law_318 (lv_at hl 9 rfl) ?_
  obtain ⟨hn65, h⟩ := h
  refine lg_iast hC hT.1 G 1 rfl hn65 dL_law_320 (fun H locs G => ?_)
  replace G : lgG D cy lay σ [(e0, .inl (cy 0, 14, .inl (upd (τ0) (Int32.toNatClampNeg v13) v14))), (e1, .inl (cy 0, 14, .inl (upd (τ1) (Int32.toNatClampNeg v13) v15)))] s.heap H locs := G
  refine lv_iinc (v := v13 + 1) (lv' := [(13, .int (v13 + 1)), (0, .ref b), (1, .ref (lay 0)), (2, .ref e0), (3, .ref e1), (4, .int v4), (5, .int v5), (8, .int v8), (14, .int v14), (15, .int v15)]) hC.1 hC.2.1 dL_law_321 hl (k := 7) rfl rfl (by decide) rfl (fun ls hl => ?_)
  refine lv_goto (tgt := 208) hC.1 hC.2.1 dL_law_324 (by decide) ?_
  refine W.widen (k := q) (n := 24 * q) (by omega) (by omega) ?_
  exact hK208 q _ _ _ _ _ _ _ (by omega) h _ _ _ G (lv_sub hl [1, 2, 3, 4, 5, 6, 7, 0] rfl)
def u_L_law_297 (K21 : MS → (Nat → Int32) → (Nat → Int32) → Int32 → Int32 → Prop) (K208 : MS → (Nat → Int32) → (Nat → Int32) → Int32 → Int32 → Int32 → Int32 → Prop) (σ : MS) (τ0 : Nat → Int32) (τ1 : Nat → Int32) (v4 : Int32) (v5 : Int32) (v8 : Int32) (v13 : Int32) (v14 : Int32) (v15 : Int32) : Prop := ((v14 = 0 → ((v15 = 0 → u_L_law_309 K21 K208 σ (τ0) (τ1) v4 v5 v8 v13 v14 v15) ∧ (¬ v15 = 0 → False))) ∧ (¬ v14 = 0 → u_L_law_309 K21 K208 σ (τ0) (τ1) v4 v5 v8 v13 v14 v15))
set_option maxHeartbeats 4000000 in
set_option maxRecDepth 100000 in
theorem l_L_law_297 {p : Program} {l : Launch} {e : Env} {s : State} {m : MethodId} {below : List Frame} {meth : Method} {c : Code} {D : va_G} {cy : Nat → ClassId} {lay : Nat → Nat} {b L : Nat} {xs : Nat → Int32} {e0 e1 : Nat} (K21 : MS → (Nat → Int32) → (Nat → Int32) → Int32 → Int32 → Prop) (K208 : MS → (Nat → Int32) → (Nat → Int32) → Int32 → Int32 → Int32 → Int32 → Prop) (XK : Nat) (hl0 : l.stackTraces = false) (hC : CallFix p m c cL_law 16 s #[Value.ref b] wsL_law RL) (hr : meth.sig.returnType = some .boolean) (hlocks : meth.locks = false) (hT : lgT D cy s) (hL : L ≤ 260) (hX : va_X b L xs s s.heap) (hb : b < s.heap.size) (hK21 : ∀ (q : Nat) (σ : MS) (τ0 : Nat → Int32) (τ1 : Nat → Int32) (v4 : Int32) (v5 : Int32), q + XK ≤ 188 → K21 σ τ0 τ1 v4 v5 → ∀ (H : Heap) (locs : List Loc) (ls : Array Slot), lgG D cy lay σ [(e0, .inl (cy 0, 14, .inl (τ0))), (e1, .inl (cy 0, 14, .inl (τ1)))] s.heap H locs → lv_has ls 16 [(0, .ref b), (1, .ref (lay 0)), (2, .ref e0), (3, .ref e1), (4, .int v4), (5, .int v5)] → W p l e room_1 s m #[Value.ref b] below meth c H locs (q) (24 * q) (lw_Z below #[Value.ref b] s) (F0 m 21 ls [])) (hK208 : ∀ (q : Nat) (σ : MS) (τ0 : Nat → Int32) (τ1 : Nat → Int32) (v4 : Int32) (v5 : Int32) (v8 : Int32) (v13 : Int32), q + XK ≤ 188 → K208 σ τ0 τ1 v4 v5 v8 v13 → ∀ (H : Heap) (locs : List Loc) (ls : Array Slot), lgG D cy lay σ [(e0, .inl (cy 0, 14, .inl (τ0))), (e1, .inl (cy 0, 14, .inl (τ1)))] s.heap H locs → lv_has ls 16 [(0, .ref b), (1, .ref (lay 0)), (2, .ref e0), (3, .ref e1), (4, .int v4), (5, .int v5), (8, .int v8), (13, .int v13)] → W p l e room_1 s m #[Value.ref b] below meth c H locs (q) (24 * q) (lw_Z below #[Value.ref b] s) (F0 m 208 ls [])) : ∀ (q : Nat) (σ : MS) (τ0 : Nat → Int32) (τ1 : Nat → Int32) (v4 : Int32) (v5 : Int32) (v8 : Int32) (v13 : Int32) (v14 : Int32) (v15 : Int32), q + 0 + XK ≤ 188 → u_L_law_297 K21 K208 σ τ0 τ1 v4 v5 v8 v13 v14 v15 → ∀ (H : Heap) (locs : List Loc) (ls : Array Slot), lgG D cy lay σ [(e0, .inl (cy 0, 14, .inl (τ0))), (e1, .inl (cy 0, 14, .inl (τ1)))] s.heap H locs → lv_has ls 16 [(0, .ref b), (1, .ref (lay 0)), (2, .ref e0), (3, .ref e1), (4, .int v4), (5, .int v5), (8, .int v8), (13, .int v13), (14, .int v14), (15, .int v15)] → W p l e room_1 s m #[Value.ref b] below meth c H locs (q) (24 * q) (lw_Z below #[Value.ref b] s) (F0 m 297 ls []) := by
  intro q σ τ0 τ1 v4 v5 v8 v13 v14 v15 hq h H locs ls G hl
  unfold u_L_law_297 at h
  refine lv_iload hC.1 hC.2.1 dL_law_297 (lv_at hl 8 rfl) ?_
  refine lv_if_ne (tgt := 309) hC.1 hC.2.1 dL_law_299 (by decide) (fun c63 => ?_) (fun c63 => ?_)
  · replace h := h.2 c63
    refine W.widen (k := q) (n := 24 * q) (by omega) (by omega) ?_
    exact l_L_law_309 K21 K208 XK hl0 hC hr hlocks hT hL hX hb hK21 hK208 q _ _ _ _ _ _ _ _ _ (by omega) h _ _ _ G (lv_sub hl [0, 1, 2, 3, 4, 5, 6, 7, 8, 9] rfl)
  · replace h := h.1 c63
    refine lv_iload hC.1 hC.2.1 dL_law_302 (lv_at hl 9 rfl) ?_
    refine lv_if_eq (tgt := 309) hC.1 hC.2.1 dL_law_304 (by decide) (fun c66 => ?_) (fun c66 => ?_)
    · replace h := h.1 c66
      refine W.widen (k := q) (n := 24 * q) (by omega) (by omega) ?_
      exact l_L_law_309 K21 K208 XK hl0 hC hr hlocks hT hL hX hb hK21 hK208 q _ _ _ _ _ _ _ _ _ (by omega) h _ _ _ G (lv_sub hl [0, 1, 2, 3, 4, 5, 6, 7, 8, 9] rfl)
    · replace h := h.2 c66
      refine lv_iconst (v := 0) hC.1 hC.2.1 dL_law_307 (by decide) ?_
      exact h.elim
def u_L_law_281 (K21 : MS → (Nat → Int32) → (Nat → Int32) → Int32 → Int32 → Prop) (K208 : MS → (Nat → Int32) → (Nat → Int32) → Int32 → Int32 → Int32 → Int32 → Prop) (σ : MS) (τ0 : Nat → Int32) (τ1 : Nat → Int32) (v4 : Int32) (v5 : Int32) (v8 : Int32) (v13 : Int32) (v14 : Int32) (v15 : Int32) : Prop := (vp_in v13 14 ∧ ((((τ1) (Int32.toNatClampNeg v13)) ≤ 0 → u_L_law_297 K21 K208 σ (τ0) (τ1) v4 v5 v8 v13 v14 v15) ∧ (¬ ((τ1) (Int32.toNatClampNeg v13)) ≤ 0 → (vp_in v13 14 ∧ ((v15 = ((τ1) (Int32.toNatClampNeg v13)) → u_L_law_297 K21 K208 σ (τ0) (τ1) v4 v5 v8 v13 v14 v15) ∧ (¬ v15 = ((τ1) (Int32.toNatClampNeg v13)) → False))))))
set_option maxHeartbeats 4000000 in
set_option maxRecDepth 100000 in
theorem l_L_law_281 {p : Program} {l : Launch} {e : Env} {s : State} {m : MethodId} {below : List Frame} {meth : Method} {c : Code} {D : va_G} {cy : Nat → ClassId} {lay : Nat → Nat} {b L : Nat} {xs : Nat → Int32} {e0 e1 : Nat} (K21 : MS → (Nat → Int32) → (Nat → Int32) → Int32 → Int32 → Prop) (K208 : MS → (Nat → Int32) → (Nat → Int32) → Int32 → Int32 → Int32 → Int32 → Prop) (XK : Nat) (hl0 : l.stackTraces = false) (hC : CallFix p m c cL_law 16 s #[Value.ref b] wsL_law RL) (hr : meth.sig.returnType = some .boolean) (hlocks : meth.locks = false) (hT : lgT D cy s) (hL : L ≤ 260) (hX : va_X b L xs s s.heap) (hb : b < s.heap.size) (hK21 : ∀ (q : Nat) (σ : MS) (τ0 : Nat → Int32) (τ1 : Nat → Int32) (v4 : Int32) (v5 : Int32), q + XK ≤ 188 → K21 σ τ0 τ1 v4 v5 → ∀ (H : Heap) (locs : List Loc) (ls : Array Slot), lgG D cy lay σ [(e0, .inl (cy 0, 14, .inl (τ0))), (e1, .inl (cy 0, 14, .inl (τ1)))] s.heap H locs → lv_has ls 16 [(0, .ref b), (1, .ref (lay 0)), (2, .ref e0), (3, .ref e1), (4, .int v4), (5, .int v5)] → W p l e room_1 s m #[Value.ref b] below meth c H locs (q) (24 * q) (lw_Z below #[Value.ref b] s) (F0 m 21 ls [])) (hK208 : ∀ (q : Nat) (σ : MS) (τ0 : Nat → Int32) (τ1 : Nat → Int32) (v4 : Int32) (v5 : Int32) (v8 : Int32) (v13 : Int32), q + XK ≤ 188 → K208 σ τ0 τ1 v4 v5 v8 v13 → ∀ (H : Heap) (locs : List Loc) (ls : Array Slot), lgG D cy lay σ [(e0, .inl (cy 0, 14, .inl (τ0))), (e1, .inl (cy 0, 14, .inl (τ1)))] s.heap H locs → lv_has ls 16 [(0, .ref b), (1, .ref (lay 0)), (2, .ref e0), (3, .ref e1), (4, .int v4), (5, .int v5), (8, .int v8), (13, .int v13)] → W p l e room_1 s m #[Value.ref b] below meth c H locs (q) (24 * q) (lw_Z below #[Value.ref b] s) (F0 m 208 ls [])) : ∀ (q : Nat) (σ : MS) (τ0 : Nat → Int32) (τ1 : Nat → Int32) (v4 : Int32) (v5 : Int32) (v8 : Int32) (v13 : Int32) (v14 : Int32) (v15 : Int32), q + 0 + XK ≤ 188 → u_L_law_281 K21 K208 σ τ0 τ1 v4 v5 v8 v13 v14 v15 → ∀ (H : Heap) (locs : List Loc) (ls : Array Slot), lgG D cy lay σ [(e0, .inl (cy 0, 14, .inl (τ0))), (e1, .inl (cy 0, 14, .inl (τ1)))] s.heap H locs → lv_has ls 16 [(0, .ref b), (1, .ref (lay 0)), (2, .ref e0), (3, .ref e1), (4, .int v4), (5, .int v5), (8, .int v8), (13, .int v13), (14, .int v14), (15, .int v15)] → W p l e room_1 s m #[Value.ref b] below meth c H locs (q) (24 * q) (lw_Z below #[Value.ref b] s) (F0 m 281 ls []) := by
  intro q σ τ0 τ1 v4 v5 v8 v13 v14 v15 hq h H locs ls G hl
  unfold u_L_law_281 at h
  refine lv_aload_n hC.1 hC.2.1 dL_law_281 rfl (lv_at hl 3 rfl) ?_
  refine lv_iload hC.1 hC.2.1 dL_law_282 (lv_at hl 7 rfl) ?_
  obtain ⟨hn61, h⟩ := h
  refine lg_iald hC hT.1 G 1 rfl hn61 dL_law_284 ?_
  refine lv_if_le (tgt := 297) hC.1 hC.2.1 dL_law_285 (by decide) (fun c62 => ?_) (fun c62 => ?_)
  · replace h := h.1 c62
    refine W.widen (k := q) (n := 24 * q) (by omega) (by omega) ?_
    exact l_L_law_297 K21 K208 XK hl0 hC hr hlocks hT hL hX hb hK21 hK208 q _ _ _ _ _ _ _ _ _ (by omega) h _ _ _ G (lv_sub hl [0, 1, 2, 3, 4, 5, 6, 7, 8, 9] rfl)
  · replace h := h.2 c62
    refine lv_iload hC.1 hC.2.1 dL_law_288 (lv_at hl 9 rfl) ?_
    refine lv_aload_n hC.1 hC.2.1 dL_law_290 rfl (lv_at hl 3 rfl) ?_
    refine lv_iload hC.1 hC.2.1 dL_law_291 (lv_at hl 7 rfl) ?_
    obtain ⟨hn67, h⟩ := h
    refine lg_iald hC hT.1 G 1 rfl hn67 dL_law_293 ?_
    refine lv_icmp_ne (tgt := 307) hC.1 hC.2.1 dL_law_294 (by decide) (fun c68 => ?_) (fun c68 => ?_)
    · replace h := h.2 c68
      refine lv_iconst (v := 0) hC.1 hC.2.1 dL_law_307 (by decide) ?_
      exact h.elim
    · replace h := h.1 c68
      refine W.widen (k := q) (n := 24 * q) (by omega) (by omega) ?_
      exact l_L_law_297 K21 K208 XK hl0 hC hr hlocks hT hL hX hb hK21 hK208 q _ _ _ _ _ _ _ _ _ (by omega) h _ _ _ G (lv_sub hl [0, 1, 2, 3, 4, 5, 6, 7, 8, 9] rfl)
def u_L_law_261 (K21 : MS → (Nat → Int32) → (Nat → Int32) → Int32 → Int32 → Prop) (K208 : MS → (Nat → Int32) → (Nat → Int32) → Int32 → Int32 → Int32 → Int32 → Prop) (σ : MS) (τ0 : Nat → Int32) (τ1 : Nat → Int32) (v4 : Int32) (v5 : Int32) (v8 : Int32) (v13 : Int32) (v14 : Int32) (v15 : Int32) : Prop := ((v14 = 2 → ((v8 ≤ v13 → u_L_law_281 K21 K208 σ (τ0) (τ1) v4 v5 v8 v13 v14 v15) ∧ (¬ v8 ≤ v13 → (vp_in v13 14 ∧ ((((τ0) (Int32.toNatClampNeg v13)) = 0 → False) ∧ (¬ ((τ0) (Int32.toNatClampNeg v13)) = 0 → u_L_law_281 K21 K208 σ (τ0) (τ1) v4 v5 v8 v13 v14 v15)))))) ∧ (¬ v14 = 2 → u_L_law_281 K21 K208 σ (τ0) (τ1) v4 v5 v8 v13 v14 v15))
set_option maxHeartbeats 4000000 in
set_option maxRecDepth 100000 in
theorem l_L_law_261 {p : Program} {l : Launch} {e : Env} {s : State} {m : MethodId} {below : List Frame} {meth : Method} {c : Code} {D : va_G} {cy : Nat → ClassId} {lay : Nat → Nat} {b L : Nat} {xs : Nat → Int32} {e0 e1 : Nat} (K21 : MS → (Nat → Int32) → (Nat → Int32) → Int32 → Int32 → Prop) (K208 : MS → (Nat → Int32) → (Nat → Int32) → Int32 → Int32 → Int32 → Int32 → Prop) (XK : Nat) (hl0 : l.stackTraces = false) (hC : CallFix p m c cL_law 16 s #[Value.ref b] wsL_law RL) (hr : meth.sig.returnType = some .boolean) (hlocks : meth.locks = false) (hT : lgT D cy s) (hL : L ≤ 260) (hX : va_X b L xs s s.heap) (hb : b < s.heap.size) (hK21 : ∀ (q : Nat) (σ : MS) (τ0 : Nat → Int32) (τ1 : Nat → Int32) (v4 : Int32) (v5 : Int32), q + XK ≤ 188 → K21 σ τ0 τ1 v4 v5 → ∀ (H : Heap) (locs : List Loc) (ls : Array Slot), lgG D cy lay σ [(e0, .inl (cy 0, 14, .inl (τ0))), (e1, .inl (cy 0, 14, .inl (τ1)))] s.heap H locs → lv_has ls 16 [(0, .ref b), (1, .ref (lay 0)), (2, .ref e0), (3, .ref e1), (4, .int v4), (5, .int v5)] → W p l e room_1 s m #[Value.ref b] below meth c H locs (q) (24 * q) (lw_Z below #[Value.ref b] s) (F0 m 21 ls [])) (hK208 : ∀ (q : Nat) (σ : MS) (τ0 : Nat → Int32) (τ1 : Nat → Int32) (v4 : Int32) (v5 : Int32) (v8 : Int32) (v13 : Int32), q + XK ≤ 188 → K208 σ τ0 τ1 v4 v5 v8 v13 → ∀ (H : Heap) (locs : List Loc) (ls : Array Slot), lgG D cy lay σ [(e0, .inl (cy 0, 14, .inl (τ0))), (e1, .inl (cy 0, 14, .inl (τ1)))] s.heap H locs → lv_has ls 16 [(0, .ref b), (1, .ref (lay 0)), (2, .ref e0), (3, .ref e1), (4, .int v4), (5, .int v5), (8, .int v8), (13, .int v13)] → W p l e room_1 s m #[Value.ref b] below meth c H locs (q) (24 * q) (lw_Z below #[Value.ref b] s) (F0 m 208 ls [])) : ∀ (q : Nat) (σ : MS) (τ0 : Nat → Int32) (τ1 : Nat → Int32) (v4 : Int32) (v5 : Int32) (v8 : Int32) (v13 : Int32) (v14 : Int32) (v15 : Int32), q + 0 + XK ≤ 188 → u_L_law_261 K21 K208 σ τ0 τ1 v4 v5 v8 v13 v14 v15 → ∀ (H : Heap) (locs : List Loc) (ls : Array Slot), lgG D cy lay σ [(e0, .inl (cy 0, 14, .inl (τ0))), (e1, .inl (cy 0, 14, .inl (τ1)))] s.heap H locs → lv_has ls 16 [(0, .ref b), (1, .ref (lay 0)), (2, .ref e0), (3, .ref e1), (4, .int v4), (5, .int v5), (8, .int v8), (13, .int v13), (14, .int v14), (15, .int v15)] → W p l e room_1 s m #[Value.ref b] below meth c H locs (q) (24 * q) (lw_Z below #[Value.ref b] s) (F0 m 261 ls []) := by
  intro q σ τ0 τ1 v4 v5 v8 v13 v14 v15 hq h H locs ls G hl
  unfold u_L_law_261 at h
  refine lv_iload hC.1 hC.2.1 dL_law_261 (lv_at hl 8 rfl) ?_
  refine lv_iconst (v := 2) hC.1 hC.2.1 dL_law_263 (by decide) ?_
  refine lv_icmp_ne (tgt := 281) hC.1 hC.2.1 dL_law_264 (by decide) (fun c60 => ?_) (fun c60 => ?_)
  · replace h := h.2 c60
    refine W.widen (k := q) (n := 24 * q) (by omega) (by omega) ?_
    exact l_L_law_281 K21 K208 XK hl0 hC hr hlocks hT hL hX hb hK21 hK208 q _ _ _ _ _ _ _ _ _ (by omega) h _ _ _ G (lv_sub hl [0, 1, 2, 3, 4, 5, 6, 7, 8, 9] rfl)
  · replace h := h.1 c60
    refine lv_iload hC.1 hC.2.1 dL_law_267 (lv_at hl 7 rfl) ?_
    refine lv_iload hC.1 hC.2.1 dL_law_269 (lv_at hl 6 rfl) ?_
    refine lv_icmp_ge (tgt := 281) hC.1 hC.2.1 dL_law_271 (by decide) (fun c69 => ?_) (fun c69 => ?_)
    · replace h := h.1 c69
      refine W.widen (k := q) (n := 24 * q) (by omega) (by omega) ?_
      exact l_L_law_281 K21 K208 XK hl0 hC hr hlocks hT hL hX hb hK21 hK208 q _ _ _ _ _ _ _ _ _ (by omega) h _ _ _ G (lv_sub hl [0, 1, 2, 3, 4, 5, 6, 7, 8, 9] rfl)
    · replace h := h.2 c69
      refine lv_aload_n hC.1 hC.2.1 dL_law_274 rfl (lv_at hl 2 rfl) ?_
      refine lv_iload hC.1 hC.2.1 dL_law_275 (lv_at hl 7 rfl) ?_
      obtain ⟨hn70, h⟩ := h
      refine lg_iald hC hT.1 G 0 rfl hn70 dL_law_277 ?_
      refine lv_if_eq (tgt := 307) hC.1 hC.2.1 dL_law_278 (by decide) (fun c71 => ?_) (fun c71 => ?_)
      · replace h := h.1 c71
        refine lv_iconst (v := 0) hC.1 hC.2.1 dL_law_307 (by decide) ?_
        exact h.elim
      · replace h := h.2 c71
        refine W.widen (k := q) (n := 24 * q) (by omega) (by omega) ?_
        exact l_L_law_281 K21 K208 XK hl0 hC hr hlocks hT hL hX hb hK21 hK208 q _ _ _ _ _ _ _ _ _ (by omega) h _ _ _ G (lv_sub hl [0, 1, 2, 3, 4, 5, 6, 7, 8, 9] rfl)
def u_L_law_208 (K21 : MS → (Nat → Int32) → (Nat → Int32) → Int32 → Int32 → Prop) : Nat → MS → (Nat → Int32) → (Nat → Int32) → Int32 → Int32 → Int32 → Int32 → Prop
  | 0, _, _, _, _, _, _, _ => False
  | n + 1, σ, τ0, τ1, v4, v5, v8, v13 => w_N_X7_desk (fun r47 σ46 => ((r47 ≤ v13 → w_L_isSo (fun r50 σ49 => ((r50 = 0 → False) ∧ (¬ r50 = 0 → K21 σ49 (τ0) (τ1) v4 (v5 + 1)))) σ46) ∧ (¬ r47 ≤ v13 → w_N_X7_ofWedding (fun r53 σ52 => w_N_X7_ofWedding (fun r55 σ54 => (vp_in v13 14 ∧ ((r53 < ((τ0) (Int32.toNatClampNeg v13)) → False) ∧ (¬ r53 < ((τ0) (Int32.toNatClampNeg v13)) → (vp_in v13 14 ∧ ((((τ0) (Int32.toNatClampNeg v13)) = 2 → ((r53 = 2 → u_L_law_261 K21 (fun σ w0 w1 w2 w3 w4 w5 => u_L_law_208 K21 n σ w0 w1 w2 w3 w4 w5) σ54 (τ0) (τ1) v4 v5 v8 v13 r53 r55) ∧ (¬ r53 = 2 → False))) ∧ (¬ ((τ0) (Int32.toNatClampNeg v13)) = 2 → u_L_law_261 K21 (fun σ w0 w1 w2 w3 w4 w5 => u_L_law_208 K21 n σ w0 w1 w2 w3 w4 w5) σ54 (τ0) (τ1) v4 v5 v8 v13 r53 r55))))))) σ52 v13 8) σ46 v13 6))) σ 3
set_option maxHeartbeats 4000000 in
set_option maxRecDepth 100000 in
theorem l_L_law_208 {p : Program} {l : Launch} {e : Env} {s : State} {m : MethodId} {below : List Frame} {meth : Method} {c : Code} {D : va_G} {cy : Nat → ClassId} {lay : Nat → Nat} {b L : Nat} {xs : Nat → Int32} {e0 e1 : Nat} (K21 : MS → (Nat → Int32) → (Nat → Int32) → Int32 → Int32 → Prop) (XK : Nat) (hl0 : l.stackTraces = false) (hC : CallFix p m c cL_law 16 s #[Value.ref b] wsL_law RL) (hr : meth.sig.returnType = some .boolean) (hlocks : meth.locks = false) (hT : lgT D cy s) (hL : L ≤ 260) (hX : va_X b L xs s s.heap) (hb : b < s.heap.size) (hK21 : ∀ (q : Nat) (σ : MS) (τ0 : Nat → Int32) (τ1 : Nat → Int32) (v4 : Int32) (v5 : Int32), q + XK ≤ 188 → K21 σ τ0 τ1 v4 v5 → ∀ (H : Heap) (locs : List Loc) (ls : Array Slot), lgG D cy lay σ [(e0, .inl (cy 0, 14, .inl (τ0))), (e1, .inl (cy 0, 14, .inl (τ1)))] s.heap H locs → lv_has ls 16 [(0, .ref b), (1, .ref (lay 0)), (2, .ref e0), (3, .ref e1), (4, .int v4), (5, .int v5)] → W p l e room_1 s m #[Value.ref b] below meth c H locs (q) (24 * q) (lw_Z below #[Value.ref b] s) (F0 m 21 ls [])) : ∀ (n : Nat), ∀ (q : Nat) (σ : MS) (τ0 : Nat → Int32) (τ1 : Nat → Int32) (v4 : Int32) (v5 : Int32) (v8 : Int32) (v13 : Int32), q + n * 0 + 0 + XK ≤ 188 → u_L_law_208 K21 n σ τ0 τ1 v4 v5 v8 v13 → ∀ (H : Heap) (locs : List Loc) (ls : Array Slot), lgG D cy lay σ [(e0, .inl (cy 0, 14, .inl (τ0))), (e1, .inl (cy 0, 14, .inl (τ1)))] s.heap H locs → lv_has ls 16 [(0, .ref b), (1, .ref (lay 0)), (2, .ref e0), (3, .ref e1), (4, .int v4), (5, .int v5), (8, .int v8), (13, .int v13)] → W p l e room_1 s m #[Value.ref b] below meth c H locs (q) (24 * q) (lw_Z below #[Value.ref b] s) (F0 m 208 ls []) := by
  intro n
  induction n with
  | zero =>
    intro q σ τ0 τ1 v4 v5 v8 v13 hq h
    exact h.elim
  | succ n ih =>
    intro q σ τ0 τ1 v4 v5 v8 v13 hq h H locs ls G hl
    rw [u_L_law_208] at h
    refine lv_iload hC.1 hC.2.1 dL_law_208 (lv_at hl 7 rfl) ?_
    refine lv_aload_n hC.1 hC.2.1 dL_law_210 rfl (lv_at hl 1 rfl) ?_
    refine lv_iconst (v := 3) hC.1 hC.2.1 dL_law_211 (by decide) ?_
    refine lg_i G (ag_runV (As := [.int 3]) (rest := [.int v13]) hC (hT.ag (fun _ hk => lg_lay G hk)) (lg_ag G) (c_N_X7_desk l D cy lay h _) (cwV 1 hC.2.2.2.2 gL_law_X7_desk rfl rfl rfl hdV_X7_desk ⟨Nat.le_of_ble_eq_true rfl, Nat.le_of_ble_eq_true rfl⟩) (ag_recv (hT.ag (fun _ hk => lg_lay G hk)) (lg_ag G) (by decide) e_ag k_X7) rfl hl.1 rfl (Nat.le_of_ble_eq_true rfl) dL_law_212 ⟨by show _ ≤ 600074; omega, by show _ ≤ 7301549; omega⟩) (fun r47 σ46 H locs h G => ?_)
    (try dsimp only at h)
    refine lv_icmp_ge (tgt := 327) hC.1 hC.2.1 dL_law_215 (by decide) (fun c48 => ?_) (fun c48 => ?_)
    · replace h := h.1 c48
      refine lv_aload_n hC.1 hC.2.1 dL_law_327 rfl (lv_at hl 1 rfl) ?_
      refine lg_i G (ag_runS (As := [.ref (lay 0)]) (rest := []) hC (hT.ag (fun _ hk => lg_lay G hk)) (lg_ag G) (c_L_isSo l D cy lay h _) (va_cwS 1 hC.2.2.2.2 gL_law_L_isSo rfl rfl rfl hdS_L_isSo ⟨Nat.le_of_ble_eq_true rfl, Nat.le_of_ble_eq_true rfl⟩) rfl hl.1 rfl (Nat.le_of_ble_eq_true rfl) dL_law_328 ⟨by show _ ≤ 600074; omega, by show _ ≤ 7301549; omega⟩) (fun r50 σ49 H locs h G => ?_)
      (try dsimp only at h)
      refine lv_if_ne (tgt := 336) hC.1 hC.2.1 dL_law_331 (by decide) (fun c51 => ?_) (fun c51 => ?_)
      · replace h := h.2 c51
        refine lv_iinc (v := v5 + 1) (lv' := [(5, .int (v5 + 1)), (0, .ref b), (1, .ref (lay 0)), (2, .ref e0), (3, .ref e1), (4, .int v4), (8, .int v8), (13, .int v13)]) hC.1 hC.2.1 dL_law_336 hl (k := 5) rfl rfl (by decide) rfl (fun ls hl => ?_)
        refine lv_goto (tgt := 21) hC.1 hC.2.1 dL_law_339 (by decide) ?_
        refine W.widen (k := q) (n := 24 * q) (by omega) (by omega) ?_
        exact hK21 q _ _ _ _ _ (by omega) h _ _ _ G (lv_sub hl [1, 2, 3, 4, 5, 0] rfl)
      · replace h := h.1 c51
        refine lv_iconst (v := 0) hC.1 hC.2.1 dL_law_334 (by decide) ?_
        exact h.elim
    · replace h := h.2 c48
      refine lv_aload_n hC.1 hC.2.1 dL_law_218 rfl (lv_at hl 1 rfl) ?_
      refine lv_iload hC.1 hC.2.1 dL_law_219 (lv_at hl 7 rfl) ?_
      refine lv_bipush (v := 6) hC.1 hC.2.1 dL_law_221 (by decide) ?_
      refine lg_i G (ag_runV (As := [.int v13, .int 6]) (rest := []) hC (hT.ag (fun _ hk => lg_lay G hk)) (lg_ag G) (c_N_X7_ofWedding l D cy lay h _) (cwV 2 hC.2.2.2.2 gL_law_X7_ofWedding rfl rfl rfl hdV_X7_ofWedding ⟨Nat.le_of_ble_eq_true rfl, Nat.le_of_ble_eq_true rfl⟩) (ag_recv (hT.ag (fun _ hk => lg_lay G hk)) (lg_ag G) (by decide) e_ag k_X7) rfl hl.1 rfl (Nat.le_of_ble_eq_true rfl) dL_law_223 ⟨by show _ ≤ 600074; omega, by show _ ≤ 7301549; omega⟩) (fun r53 σ52 H locs h G => ?_)
      (try dsimp only at h)
      refine lv_istore (lv' := [(14, .int r53), (0, .ref b), (1, .ref (lay 0)), (2, .ref e0), (3, .ref e1), (4, .int v4), (5, .int v5), (8, .int v8), (13, .int v13)]) hC.1 hC.2.1 dL_law_226 hl (by decide) rfl (fun ls hl => ?_)
      refine lv_aload_n hC.1 hC.2.1 dL_law_228 rfl (lv_at hl 2 rfl) ?_
      refine lv_iload hC.1 hC.2.1 dL_law_229 (lv_at hl 8 rfl) ?_
      refine lv_bipush (v := 8) hC.1 hC.2.1 dL_law_231 (by decide) ?_
      refine lg_i G (ag_runV (As := [.int v13, .int 8]) (rest := []) hC (hT.ag (fun _ hk => lg_lay G hk)) (lg_ag G) (c_N_X7_ofWedding l D cy lay h _) (cwV 2 hC.2.2.2.2 gL_law_X7_ofWedding rfl rfl rfl hdV_X7_ofWedding ⟨Nat.le_of_ble_eq_true rfl, Nat.le_of_ble_eq_true rfl⟩) (ag_recv (hT.ag (fun _ hk => lg_lay G hk)) (lg_ag G) (by decide) e_ag k_X7) rfl hl.1 rfl (Nat.le_of_ble_eq_true rfl) dL_law_233 ⟨by show _ ≤ 600074; omega, by show _ ≤ 7301549; omega⟩) (fun r55 σ54 H locs h G => ?_)
      (try dsimp only at h)
      refine lv_istore (lv' := [(15, .int r55), (14, .int r53), (0, .ref b), (1, .ref (lay 0)), (2, .ref e0), (3, .ref e1), (4, .int v4), (5, .int v5), (8, .int v8), (13, .int v13)]) hC.1 hC.2.1 dL_law_236 hl (by decide) rfl (fun ls hl => ?_)
      refine lv_iload hC.1 hC.2.1 dL_law_238 (lv_at hl 1 rfl) ?_
      refine lv_aload_n hC.1 hC.2.1 dL_law_240 rfl (lv_at hl 4 rfl) ?_
      refine lv_iload hC.1 hC.2.1 dL_law_241 (lv_at hl 9 rfl) ?_
      obtain ⟨hn56, h⟩ := h
      refine lg_iald hC hT.1 G 0 rfl hn56 dL_law_243 ?_
      refine lv_icmp_lt (tgt := 307) hC.1 hC.2.1 dL_law_244 (by decide) (fun c57 => ?_) (fun c57 => ?_)
      · replace h := h.1 c57
        refine lv_iconst (v := 0) hC.1 hC.2.1 dL_law_307 (by decide) ?_
        exact h.elim
      · replace h := h.2 c57
        refine lv_aload_n hC.1 hC.2.1 dL_law_247 rfl (lv_at hl 4 rfl) ?_
        refine lv_iload hC.1 hC.2.1 dL_law_248 (lv_at hl 9 rfl) ?_
        obtain ⟨hn58, h⟩ := h
        refine lg_iald hC hT.1 G 0 rfl hn58 dL_law_250 ?_
        refine lv_iconst (v := 2) hC.1 hC.2.1 dL_law_251 (by decide) ?_
        refine lv_icmp_ne (tgt := 261) hC.1 hC.2.1 dL_law_252 (by decide) (fun c59 => ?_) (fun c59 => ?_)
        · replace h := h.2 c59
          refine W.widen (k := q) (n := 24 * q) (by omega) (by omega) ?_
          exact l_L_law_261 K21 (fun σ w0 w1 w2 w3 w4 w5 => u_L_law_208 K21 n σ w0 w1 w2 w3 w4 w5) (n * 0 + 0 + XK) hl0 hC hr hlocks hT hL hX hb (fun q σ x0 x1 x2 x3 hq => hK21 q σ x0 x1 x2 x3 (by omega)) (fun q σ x0 x1 x2 x3 x4 x5 hq => ih q σ x0 x1 x2 x3 x4 x5 (by omega)) q _ _ _ _ _ _ _ _ _ (by omega) h _ _ _ G (lv_sub hl [2, 3, 4, 5, 6, 7, 8, 9, 1, 0] rfl)
        · replace h := h.1 c59
          refine lv_iload hC.1 hC.2.1 dL_law_255 (lv_at hl 1 rfl) ?_
          refine lv_iconst (v := 2) hC.1 hC.2.1 dL_law_257 (by decide) ?_
          refine lv_icmp_ne (tgt := 307) hC.1 hC.2.1 dL_law_258 (by decide) (fun c72 => ?_) (fun c72 => ?_)
          · replace h := h.2 c72
            refine lv_iconst (v := 0) hC.1 hC.2.1 dL_law_307 (by decide) ?_
            exact h.elim
          · replace h := h.1 c72
            refine W.widen (k := q) (n := 24 * q) (by omega) (by omega) ?_
            exact l_L_law_261 K21 (fun σ w0 w1 w2 w3 w4 w5 => u_L_law_208 K21 n σ w0 w1 w2 w3 w4 w5) (n * 0 + 0 + XK) hl0 hC hr hlocks hT hL hX hb (fun q σ x0 x1 x2 x3 hq => hK21 q σ x0 x1 x2 x3 (by omega)) (fun q σ x0 x1 x2 x3 x4 x5 hq => ih q σ x0 x1 x2 x3 x4 x5 (by omega)) q _ _ _ _ _ _ _ _ _ (by omega) h _ _ _ G (lv_sub hl [2, 3, 4, 5, 6, 7, 8, 9, 1, 0] rfl)
def u_L_law_134 (K21 : MS → (Nat → Int32) → (Nat → Int32) → Int32 → Int32 → Prop) : Nat → MS → (Nat → Int32) → (Nat → Int32) → Int32 → Int32 → Int32 → Int32 → Int32 → Prop
  | 0, _, _, _, _, _, _, _, _ => False
  | n + 1, σ, τ0, τ1, v4, v5, v8, v12, v13 => ((16 ≤ v13 → ((v12 < v4 → False) ∧ (¬ v12 < v4 → w_N_X7_desk (fun r36 σ35 => w_N_X7_desk (fun r38 σ37 => w_N_X7_desk (fun r40 σ39 => w_N_X7_desk (fun r42 σ41 => w_N_X7_desk (fun r44 σ43 => (((((r36 + r38) + r40) + r42) = r44 → (∃ k, u_L_law_208 K21 k σ43 (τ0) (τ1) v12 v5 v8 0)) ∧ (¬ (((r36 + r38) + r40) + r42) = r44 → False))) σ41 3) σ39 7) σ37 6) σ35 5) σ 4))) ∧ (¬ 16 ≤ v13 → w_N_X7_ofSong (fun r74 σ73 => u_L_law_134 K21 n σ73 (τ0) (τ1) v4 v5 v8 (v12 + r74) (v13 + 1)) σ v13 3))
set_option maxHeartbeats 4000000 in
set_option maxRecDepth 100000 in
theorem l_L_law_134 {p : Program} {l : Launch} {e : Env} {s : State} {m : MethodId} {below : List Frame} {meth : Method} {c : Code} {D : va_G} {cy : Nat → ClassId} {lay : Nat → Nat} {b L : Nat} {xs : Nat → Int32} {e0 e1 : Nat} (K21 : MS → (Nat → Int32) → (Nat → Int32) → Int32 → Int32 → Prop) (XK : Nat) (hl0 : l.stackTraces = false) (hC : CallFix p m c cL_law 16 s #[Value.ref b] wsL_law RL) (hr : meth.sig.returnType = some .boolean) (hlocks : meth.locks = false) (hT : lgT D cy s) (hL : L ≤ 260) (hX : va_X b L xs s s.heap) (hb : b < s.heap.size) (hK21 : ∀ (q : Nat) (σ : MS) (τ0 : Nat → Int32) (τ1 : Nat → Int32) (v4 : Int32) (v5 : Int32), q + XK ≤ 188 → K21 σ τ0 τ1 v4 v5 → ∀ (H : Heap) (locs : List Loc) (ls : Array Slot), lgG D cy lay σ [(e0, .inl (cy 0, 14, .inl (τ0))), (e1, .inl (cy 0, 14, .inl (τ1)))] s.heap H locs → lv_has ls 16 [(0, .ref b), (1, .ref (lay 0)), (2, .ref e0), (3, .ref e1), (4, .int v4), (5, .int v5)] → W p l e room_1 s m #[Value.ref b] below meth c H locs (q) (24 * q) (lw_Z below #[Value.ref b] s) (F0 m 21 ls [])) : ∀ (n : Nat), ∀ (q : Nat) (σ : MS) (τ0 : Nat → Int32) (τ1 : Nat → Int32) (v4 : Int32) (v5 : Int32) (v8 : Int32) (v12 : Int32) (v13 : Int32), q + n * 0 + 0 + XK ≤ 188 → u_L_law_134 K21 n σ τ0 τ1 v4 v5 v8 v12 v13 → ∀ (H : Heap) (locs : List Loc) (ls : Array Slot), lgG D cy lay σ [(e0, .inl (cy 0, 14, .inl (τ0))), (e1, .inl (cy 0, 14, .inl (τ1)))] s.heap H locs → lv_has ls 16 [(0, .ref b), (1, .ref (lay 0)), (2, .ref e0), (3, .ref e1), (4, .int v4), (5, .int v5), (8, .int v8), (12, .int v12), (13, .int v13)] → W p l e room_1 s m #[Value.ref b] below meth c H locs (q) (24 * q) (lw_Z below #[Value.ref b] s) (F0 m 134 ls []) := by
  intro n
  induction n with
  | zero =>
    intro q σ τ0 τ1 v4 v5 v8 v12 v13 hq h
    exact h.elim
  | succ n ih =>
    intro q σ τ0 τ1 v4 v5 v8 v12 v13 hq h H locs ls G hl
    rw [u_L_law_134] at h
    refine lv_iload hC.1 hC.2.1 dL_law_134 (lv_at hl 8 rfl) ?_
    refine lv_bipush (v := 16) hC.1 hC.2.1 dL_law_136 (by decide) ?_
    refine lv_icmp_ge (tgt := 159) hC.1 hC.2.1 dL_law_138 (by decide) (fun c33 => ?_) (fun c33 => ?_)
    · replace h := h.1 c33
      refine lv_iload hC.1 hC.2.1 dL_law_159 (lv_at hl 7 rfl) ?_
      refine lv_iload hC.1 hC.2.1 dL_law_161 (lv_at hl 4 rfl) ?_
      refine lv_icmp_lt (tgt := 199) hC.1 hC.2.1 dL_law_163 (by decide) (fun c34 => ?_) (fun c34 => ?_)
      · replace h := h.1 c34
        refine lv_iconst (v := 0) hC.1 hC.2.1 dL_law_199 (by decide) ?_
        exact h.elim
      · replace h := h.2 c34
        refine lv_aload_n hC.1 hC.2.1 dL_law_166 rfl (lv_at hl 1 rfl) ?_
        refine lv_iconst (v := 4) hC.1 hC.2.1 dL_law_167 (by decide) ?_
        refine lg_i G (ag_runV (As := [.int 4]) (rest := []) hC (hT.ag (fun _ hk => lg_lay G hk)) (lg_ag G) (c_N_X7_desk l D cy lay h _) (cwV 1 hC.2.2.2.2 gL_law_X7_desk rfl rfl rfl hdV_X7_desk ⟨Nat.le_of_ble_eq_true rfl, Nat.le_of_ble_eq_true rfl⟩) (ag_recv (hT.ag (fun _ hk => lg_lay G hk)) (lg_ag G) (by decide) e_ag k_X7) rfl hl.1 rfl (Nat.le_of_ble_eq_true rfl) dL_law_168 ⟨by show _ ≤ 600074; omega, by show _ ≤ 7301549; omega⟩) (fun r36 σ35 H locs h G => ?_)
        (try dsimp only at h)
        refine lv_aload_n hC.1 hC.2.1 dL_law_171 rfl (lv_at hl 1 rfl) ?_
        refine lv_iconst (v := 5) hC.1 hC.2.1 dL_law_172 (by decide) ?_
        refine lg_i G (ag_runV (As := [.int 5]) (rest := [.int r36]) hC (hT.ag (fun _ hk => lg_lay G hk)) (lg_ag G) (c_N_X7_desk l D cy lay h _) (cwV 1 hC.2.2.2.2 gL_law_X7_desk rfl rfl rfl hdV_X7_desk ⟨Nat.le_of_ble_eq_true rfl, Nat.le_of_ble_eq_true rfl⟩) (ag_recv (hT.ag (fun _ hk => lg_lay G hk)) (lg_ag G) (by decide) e_ag k_X7) rfl hl.1 rfl (Nat.le_of_ble_eq_true rfl) dL_law_173 ⟨by show _ ≤ 600074; omega, by show _ ≤ 7301549; omega⟩) (fun r38 σ37 H locs h G => ?_)
        (try dsimp only at h)
        refine lv_iadd hC.1 hC.2.1 dL_law_176 ?_
        refine lv_aload_n hC.1 hC.2.1 dL_law_177 rfl (lv_at hl 1 rfl) ?_
        refine lv_bipush (v := 6) hC.1 hC.2.1 dL_law_178 (by decide) ?_
        refine lg_i G (ag_runV (As := [.int 6]) (rest := [.int (r36 + r38)]) hC (hT.ag (fun _ hk => lg_lay G hk)) (lg_ag G) (c_N_X7_desk l D cy lay h _) (cwV 1 hC.2.2.2.2 gL_law_X7_desk rfl rfl rfl hdV_X7_desk ⟨Nat.le_of_ble_eq_true rfl, Nat.le_of_ble_eq_true rfl⟩) (ag_recv (hT.ag (fun _ hk => lg_lay G hk)) (lg_ag G) (by decide) e_ag k_X7) rfl hl.1 rfl (Nat.le_of_ble_eq_true rfl) dL_law_180 ⟨by show _ ≤ 600074; omega, by show _ ≤ 7301549; omega⟩) (fun r40 σ39 H locs h G => ?_)
        (try dsimp only at h)
        refine lv_iadd hC.1 hC.2.1 dL_law_183 ?_
        refine lv_aload_n hC.1 hC.2.1 dL_law_184 rfl (lv_at hl 1 rfl) ?_
        refine lv_bipush (v := 7) hC.1 hC.2.1 dL_law_185 (by decide) ?_
        refine lg_i G (ag_runV (As := [.int 7]) (rest := [.int ((r36 + r38) + r40)]) hC (hT.ag (fun _ hk => lg_lay G hk)) (lg_ag G) (c_N_X7_desk l D cy lay h _) (cwV 1 hC.2.2.2.2 gL_law_X7_desk rfl rfl rfl hdV_X7_desk ⟨Nat.le_of_ble_eq_true rfl, Nat.le_of_ble_eq_true rfl⟩) (ag_recv (hT.ag (fun _ hk => lg_lay G hk)) (lg_ag G) (by decide) e_ag k_X7) rfl hl.1 rfl (Nat.le_of_ble_eq_true rfl) dL_law_187 ⟨by show _ ≤ 600074; omega, by show _ ≤ 7301549; omega⟩) (fun r42 σ41 H locs h G => ?_)
        (try dsimp only at h)
        refine lv_iadd hC.1 hC.2.1 dL_law_190 ?_
        refine lv_aload_n hC.1 hC.2.1 dL_law_191 rfl (lv_at hl 1 rfl) ?_
        refine lv_iconst (v := 3) hC.1 hC.2.1 dL_law_192 (by decide) ?_
        refine lg_i G (ag_runV (As := [.int 3]) (rest := [.int (((r36 + r38) + r40) + r42)]) hC (hT.ag (fun _ hk => lg_lay G hk)) (lg_ag G) (c_N_X7_desk l D cy lay h _) (cwV 1 hC.2.2.2.2 gL_law_X7_desk rfl rfl rfl hdV_X7_desk ⟨Nat.le_of_ble_eq_true rfl, Nat.le_of_ble_eq_true rfl⟩) (ag_recv (hT.ag (fun _ hk => lg_lay G hk)) (lg_ag G) (by decide) e_ag k_X7) rfl hl.1 rfl (Nat.le_of_ble_eq_true rfl) dL_law_193 ⟨by show _ ≤ 600074; omega, by show _ ≤ 7301549; omega⟩) (fun r44 σ43 H locs h G => ?_)
        (try dsimp only at h)
        refine lv_icmp_eq (tgt := 201) hC.1 hC.2.1 dL_law_196 (by decide) (fun c45 => ?_) (fun c45 => ?_)
        · replace h := h.1 c45
          refine lv_iload hC.1 hC.2.1 dL_law_201 (lv_at hl 7 rfl) ?_
          refine lv_istore (lv' := [(4, .int v12), (0, .ref b), (1, .ref (lay 0)), (2, .ref e0), (3, .ref e1), (5, .int v5), (8, .int v8), (12, .int v12), (13, .int v13)]) hC.1 hC.2.1 dL_law_203 hl (by decide) rfl (fun ls hl => ?_)
          refine lv_iconst (v := 0) hC.1 hC.2.1 dL_law_205 (by decide) ?_
          refine lv_istore (lv' := [(13, .int 0), (4, .int v12), (0, .ref b), (1, .ref (lay 0)), (2, .ref e0), (3, .ref e1), (5, .int v5), (8, .int v8), (12, .int v12)]) hC.1 hC.2.1 dL_law_206 hl (by decide) rfl (fun ls hl => ?_)
          refine W.widen (k := q) (n := 24 * q) (by omega) (by omega) ?_
          obtain ⟨n1, h⟩ := h
          exact l_L_law_208 K21 XK hl0 hC hr hlocks hT hL hX hb hK21 n1 q _ _ _ _ _ _ _ (by omega) h _ _ _ G (lv_sub hl [2, 3, 4, 5, 1, 6, 7, 0] rfl)
        · replace h := h.2 c45
          refine lv_iconst (v := 0) hC.1 hC.2.1 dL_law_199 (by decide) ?_
          exact h.elim
    · replace h := h.2 c33
      refine lv_iload hC.1 hC.2.1 dL_law_141 (lv_at hl 7 rfl) ?_
      refine lv_aload_n hC.1 hC.2.1 dL_law_143 rfl (lv_at hl 1 rfl) ?_
      refine lv_iload hC.1 hC.2.1 dL_law_144 (lv_at hl 8 rfl) ?_
      refine lv_iconst (v := 3) hC.1 hC.2.1 dL_law_146 (by decide) ?_
      refine lg_i G (ag_runV (As := [.int v13, .int 3]) (rest := [.int v12]) hC (hT.ag (fun _ hk => lg_lay G hk)) (lg_ag G) (c_N_X7_ofSong l D cy lay h _) (cwV 2 hC.2.2.2.2 gL_law_X7_ofSong rfl rfl rfl hdV_X7_ofSong ⟨Nat.le_of_ble_eq_true rfl, Nat.le_of_ble_eq_true rfl⟩) (ag_recv (hT.ag (fun _ hk => lg_lay G hk)) (lg_ag G) (by decide) e_ag k_X7) rfl hl.1 rfl (Nat.le_of_ble_eq_true rfl) dL_law_147 ⟨by show _ ≤ 600074; omega, by show _ ≤ 7301549; omega⟩) (fun r74 σ73 H locs h G => ?_)
      (try dsimp only at h)
      refine lv_iadd hC.1 hC.2.1 dL_law_150 ?_
      refine lv_istore (lv' := [(12, .int (v12 + r74)), (0, .ref b), (1, .ref (lay 0)), (2, .ref e0), (3, .ref e1), (4, .int v4), (5, .int v5), (8, .int v8), (13, .int v13)]) hC.1 hC.2.1 dL_law_151 hl (by decide) rfl (fun ls hl => ?_)
      refine lv_iinc (v := v13 + 1) (lv' := [(13, .int (v13 + 1)), (12, .int (v12 + r74)), (0, .ref b), (1, .ref (lay 0)), (2, .ref e0), (3, .ref e1), (4, .int v4), (5, .int v5), (8, .int v8)]) hC.1 hC.2.1 dL_law_153 hl (k := 8) rfl rfl (by decide) rfl (fun ls hl => ?_)
      refine lv_goto (tgt := 134) hC.1 hC.2.1 dL_law_156 (by decide) ?_
      refine W.widen (k := q) (n := 24 * q) (by omega) (by omega) ?_
      exact ih q _ _ _ _ _ _ _ _ (by omega) h _ _ _ G (lv_sub hl [2, 3, 4, 5, 6, 7, 8, 1, 0] rfl)
def u_L_law_82 (K21 : MS → (Nat → Int32) → (Nat → Int32) → Int32 → Int32 → Prop) (σ : MS) (τ0 : Nat → Int32) (τ1 : Nat → Int32) (v4 : Int32) (v5 : Int32) (v7 : Int32) (v8 : Int32) : Prop := w_N_X7_desk (fun r22 σ21 => ((r22 < v7 → False) ∧ (¬ r22 < v7 → w_N_X7_desk (fun r25 σ24 => (((v7 + 2) < r25 → False) ∧ (¬ (v7 + 2) < r25 → w_N_X7_desk (fun r28 σ27 => ((r28 < v8 → False) ∧ (¬ r28 < v8 → w_N_X7_desk (fun r31 σ30 => ((r31 ≤ (v8 + 1) → (∃ k, u_L_law_134 K21 k σ30 (τ0) (τ1) v4 v5 v8 0 0)) ∧ (¬ r31 ≤ (v8 + 1) → False))) σ27 3))) σ24 3))) σ21 0))) σ 0
set_option maxHeartbeats 4000000 in
set_option maxRecDepth 100000 in
theorem l_L_law_82 {p : Program} {l : Launch} {e : Env} {s : State} {m : MethodId} {below : List Frame} {meth : Method} {c : Code} {D : va_G} {cy : Nat → ClassId} {lay : Nat → Nat} {b L : Nat} {xs : Nat → Int32} {e0 e1 : Nat} (K21 : MS → (Nat → Int32) → (Nat → Int32) → Int32 → Int32 → Prop) (XK : Nat) (hl0 : l.stackTraces = false) (hC : CallFix p m c cL_law 16 s #[Value.ref b] wsL_law RL) (hr : meth.sig.returnType = some .boolean) (hlocks : meth.locks = false) (hT : lgT D cy s) (hL : L ≤ 260) (hX : va_X b L xs s s.heap) (hb : b < s.heap.size) (hK21 : ∀ (q : Nat) (σ : MS) (τ0 : Nat → Int32) (τ1 : Nat → Int32) (v4 : Int32) (v5 : Int32), q + XK ≤ 188 → K21 σ τ0 τ1 v4 v5 → ∀ (H : Heap) (locs : List Loc) (ls : Array Slot), lgG D cy lay σ [(e0, .inl (cy 0, 14, .inl (τ0))), (e1, .inl (cy 0, 14, .inl (τ1)))] s.heap H locs → lv_has ls 16 [(0, .ref b), (1, .ref (lay 0)), (2, .ref e0), (3, .ref e1), (4, .int v4), (5, .int v5)] → W p l e room_1 s m #[Value.ref b] below meth c H locs (q) (24 * q) (lw_Z below #[Value.ref b] s) (F0 m 21 ls [])) : ∀ (q : Nat) (σ : MS) (τ0 : Nat → Int32) (τ1 : Nat → Int32) (v4 : Int32) (v5 : Int32) (v7 : Int32) (v8 : Int32), q + 0 + XK ≤ 188 → u_L_law_82 K21 σ τ0 τ1 v4 v5 v7 v8 → ∀ (H : Heap) (locs : List Loc) (ls : Array Slot), lgG D cy lay σ [(e0, .inl (cy 0, 14, .inl (τ0))), (e1, .inl (cy 0, 14, .inl (τ1)))] s.heap H locs → lv_has ls 16 [(0, .ref b), (1, .ref (lay 0)), (2, .ref e0), (3, .ref e1), (4, .int v4), (5, .int v5), (7, .int v7), (8, .int v8)] → W p l e room_1 s m #[Value.ref b] below meth c H locs (q) (24 * q) (lw_Z below #[Value.ref b] s) (F0 m 82 ls []) := by
  intro q σ τ0 τ1 v4 v5 v7 v8 hq h H locs ls G hl
  unfold u_L_law_82 at h
  refine lv_aload_n hC.1 hC.2.1 dL_law_82 rfl (lv_at hl 1 rfl) ?_
  refine lv_iconst (v := 0) hC.1 hC.2.1 dL_law_83 (by decide) ?_
  refine lg_i G (ag_runV (As := [.int 0]) (rest := []) hC (hT.ag (fun _ hk => lg_lay G hk)) (lg_ag G) (c_N_X7_desk l D cy lay h _) (cwV 1 hC.2.2.2.2 gL_law_X7_desk rfl rfl rfl hdV_X7_desk ⟨Nat.le_of_ble_eq_true rfl, Nat.le_of_ble_eq_true rfl⟩) (ag_recv (hT.ag (fun _ hk => lg_lay G hk)) (lg_ag G) (by decide) e_ag k_X7) rfl hl.1 rfl (Nat.le_of_ble_eq_true rfl) dL_law_84 ⟨by show _ ≤ 600074; omega, by show _ ≤ 7301549; omega⟩) (fun r22 σ21 H locs h G => ?_)
  (try dsimp only at h)
  refine lv_iload hC.1 hC.2.1 dL_law_87 (lv_at hl 6 rfl) ?_
  refine lv_icmp_lt (tgt := 126) hC.1 hC.2.1 dL_law_89 (by decide) (fun c23 => ?_) (fun c23 => ?_)
  · replace h := h.1 c23
    refine lv_iconst (v := 0) hC.1 hC.2.1 dL_law_126 (by decide) ?_
    exact h.elim
  · replace h := h.2 c23
    refine lv_aload_n hC.1 hC.2.1 dL_law_92 rfl (lv_at hl 1 rfl) ?_
    refine lv_iconst (v := 0) hC.1 hC.2.1 dL_law_93 (by decide) ?_
    refine lg_i G (ag_runV (As := [.int 0]) (rest := []) hC (hT.ag (fun _ hk => lg_lay G hk)) (lg_ag G) (c_N_X7_desk l D cy lay h _) (cwV 1 hC.2.2.2.2 gL_law_X7_desk rfl rfl rfl hdV_X7_desk ⟨Nat.le_of_ble_eq_true rfl, Nat.le_of_ble_eq_true rfl⟩) (ag_recv (hT.ag (fun _ hk => lg_lay G hk)) (lg_ag G) (by decide) e_ag k_X7) rfl hl.1 rfl (Nat.le_of_ble_eq_true rfl) dL_law_94 ⟨by show _ ≤ 600074; omega, by show _ ≤ 7301549; omega⟩) (fun r25 σ24 H locs h G => ?_)
    (try dsimp only at h)
    refine lv_iload hC.1 hC.2.1 dL_law_97 (lv_at hl 6 rfl) ?_
    refine lv_iconst (v := 2) hC.1 hC.2.1 dL_law_99 (by decide) ?_
    refine lv_iadd hC.1 hC.2.1 dL_law_100 ?_
    refine lv_icmp_gt (tgt := 126) hC.1 hC.2.1 dL_law_101 (by decide) (fun c26 => ?_) (fun c26 => ?_)
    · replace h := h.1 c26
      refine lv_iconst (v := 0) hC.1 hC.2.1 dL_law_126 (by decide) ?_
      exact h.elim
    · replace h := h.2 c26
      refine lv_aload_n hC.1 hC.2.1 dL_law_104 rfl (lv_at hl 1 rfl) ?_
      refine lv_iconst (v := 3) hC.1 hC.2.1 dL_law_105 (by decide) ?_
      refine lg_i G (ag_runV (As := [.int 3]) (rest := []) hC (hT.ag (fun _ hk => lg_lay G hk)) (lg_ag G) (c_N_X7_desk l D cy lay h _) (cwV 1 hC.2.2.2.2 gL_law_X7_desk rfl rfl rfl hdV_X7_desk ⟨Nat.le_of_ble_eq_true rfl, Nat.le_of_ble_eq_true rfl⟩) (ag_recv (hT.ag (fun _ hk => lg_lay G hk)) (lg_ag G) (by decide) e_ag k_X7) rfl hl.1 rfl (Nat.le_of_ble_eq_true rfl) dL_law_106 ⟨by show _ ≤ 600074; omega, by show _ ≤ 7301549; omega⟩) (fun r28 σ27 H locs h G => ?_)
      (try dsimp only at h)
      refine lv_iload hC.1 hC.2.1 dL_law_109 (lv_at hl 7 rfl) ?_
      refine lv_icmp_lt (tgt := 126) hC.1 hC.2.1 dL_law_111 (by decide) (fun c29 => ?_) (fun c29 => ?_)
      · replace h := h.1 c29
        refine lv_iconst (v := 0) hC.1 hC.2.1 dL_law_126 (by decide) ?_
        exact h.elim
      · replace h := h.2 c29
        refine lv_aload_n hC.1 hC.2.1 dL_law_114 rfl (lv_at hl 1 rfl) ?_
        refine lv_iconst (v := 3) hC.1 hC.2.1 dL_law_115 (by decide) ?_
        refine lg_i G (ag_runV (As := [.int 3]) (rest := []) hC (hT.ag (fun _ hk => lg_lay G hk)) (lg_ag G) (c_N_X7_desk l D cy lay h _) (cwV 1 hC.2.2.2.2 gL_law_X7_desk rfl rfl rfl hdV_X7_desk ⟨Nat.le_of_ble_eq_true rfl, Nat.le_of_ble_eq_true rfl⟩) (ag_recv (hT.ag (fun _ hk => lg_lay G hk)) (lg_ag G) (by decide) e_ag k_X7) rfl hl.1 rfl (Nat.le_of_ble_eq_true rfl) dL_law_116 ⟨by show _ ≤ 600074; omega, by show _ ≤ 7301549; omega⟩) (fun r31 σ30 H locs h G => ?_)
        (try dsimp only at h)
        refine lv_iload hC.1 hC.2.1 dL_law_119 (lv_at hl 7 rfl) ?_
        refine lv_iconst (v := 1) hC.1 hC.2.1 dL_law_121 (by decide) ?_
        refine lv_iadd hC.1 hC.2.1 dL_law_122 ?_
        refine lv_icmp_le (tgt := 128) hC.1 hC.2.1 dL_law_123 (by decide) (fun c32 => ?_) (fun c32 => ?_)
        · replace h := h.1 c32
          refine lv_iconst (v := 0) hC.1 hC.2.1 dL_law_128 (by decide) ?_
          refine lv_istore (lv' := [(12, .int 0), (0, .ref b), (1, .ref (lay 0)), (2, .ref e0), (3, .ref e1), (4, .int v4), (5, .int v5), (7, .int v7), (8, .int v8)]) hC.1 hC.2.1 dL_law_129 hl (by decide) rfl (fun ls hl => ?_)
          refine lv_iconst (v := 0) hC.1 hC.2.1 dL_law_131 (by decide) ?_
          refine lv_istore (lv' := [(13, .int 0), (12, .int 0), (0, .ref b), (1, .ref (lay 0)), (2, .ref e0), (3, .ref e1), (4, .int v4), (5, .int v5), (7, .int v7), (8, .int v8)]) hC.1 hC.2.1 dL_law_132 hl (by decide) rfl (fun ls hl => ?_)
          refine W.widen (k := q) (n := 24 * q) (by omega) (by omega) ?_
          obtain ⟨n1, h⟩ := h
          exact l_L_law_134 K21 XK hl0 hC hr hlocks hT hL hX hb hK21 n1 q _ _ _ _ _ _ _ _ (by omega) h _ _ _ G (lv_sub hl [2, 3, 4, 5, 6, 7, 9, 1, 0] rfl)
        · replace h := h.2 c32
          refine lv_iconst (v := 0) hC.1 hC.2.1 dL_law_126 (by decide) ?_
          exact h.elim
def u_L_law_21 : Nat → MS → (Nat → Int32) → (Nat → Int32) → Int32 → Int32 → Prop
  | 0, _, _, _, _, _ => False
  | n + 1, σ, τ0, τ1, v4, v5 => ((20 ≤ v5 → w_N_X7_digest (fun r3 σ2 => w_X7_isSound (fun r5 σ4 => ((r5 = 0 → False) ∧ (¬ r5 = 0 → w_N_X7_digest (fun r8 σ7 => (((lg_cmp r8 r3) = 0 → True) ∧ (¬ (lg_cmp r8 r3) = 0 → False))) σ4))) σ2) σ) ∧ (¬ 20 ≤ v5 → (¬ (15 + v5) < (0 : Int32) ∧ ∀ r11 : Int32, w_N_X7_desk (fun r13 σ12 => w_N_X7_desk (fun r15 σ14 => w_N_X7_digest (fun r17 σ16 => w_L_isDone (fun r19 σ18 => ((r19 = 0 → w_N_X7_digest (fun r76 σ75 => (((lg_cmp r76 r17) = 0 → u_L_law_82 (fun σ w0 w1 w2 w3 => u_L_law_21 n σ w0 w1 w2 w3) σ75 (τ0) (τ1) v4 v5 r13 r15) ∧ (¬ (lg_cmp r76 r17) = 0 → False))) σ18) ∧ (¬ r19 = 0 → u_L_law_82 (fun σ w0 w1 w2 w3 => u_L_law_21 n σ w0 w1 w2 w3) σ18 (τ0) (τ1) v4 v5 r13 r15))) σ16 r11) σ14) σ12 3) σ 0)))
set_option maxHeartbeats 4000000 in
set_option maxRecDepth 100000 in
theorem l_L_law_21 {p : Program} {l : Launch} {e : Env} {s : State} {m : MethodId} {below : List Frame} {meth : Method} {c : Code} {D : va_G} {cy : Nat → ClassId} {lay : Nat → Nat} {b L : Nat} {xs : Nat → Int32} {e0 e1 : Nat} (hl0 : l.stackTraces = false) (hC : CallFix p m c cL_law 16 s #[Value.ref b] wsL_law RL) (hr : meth.sig.returnType = some .boolean) (hlocks : meth.locks = false) (hT : lgT D cy s) (hL : L ≤ 260) (hX : va_X b L xs s s.heap) (hb : b < s.heap.size) : ∀ (n : Nat), ∀ (q : Nat) (σ : MS) (τ0 : Nat → Int32) (τ1 : Nat → Int32) (v4 : Int32) (v5 : Int32), q + n * 3 + 3 ≤ 188 → u_L_law_21 n σ τ0 τ1 v4 v5 → ∀ (H : Heap) (locs : List Loc) (ls : Array Slot), lgG D cy lay σ [(e0, .inl (cy 0, 14, .inl (τ0))), (e1, .inl (cy 0, 14, .inl (τ1)))] s.heap H locs → lv_has ls 16 [(0, .ref b), (1, .ref (lay 0)), (2, .ref e0), (3, .ref e1), (4, .int v4), (5, .int v5)] → W p l e room_1 s m #[Value.ref b] below meth c H locs (q) (24 * q) (lw_Z below #[Value.ref b] s) (F0 m 21 ls []) := by
  intro n
  induction n with
  | zero =>
    intro q σ τ0 τ1 v4 v5 hq h
    exact h.elim
  | succ n ih =>
    intro q σ τ0 τ1 v4 v5 hq h H locs ls G hl
    rw [u_L_law_21] at h
    refine lv_iload hC.1 hC.2.1 dL_law_21 (lv_at hl 5 rfl) ?_
    refine lv_bipush (v := 20) hC.1 hC.2.1 dL_law_23 (by decide) ?_
    refine lv_icmp_ge (tgt := 342) hC.1 hC.2.1 dL_law_25 (by decide) (fun c1 => ?_) (fun c1 => ?_)
    · replace h := h.1 c1
      refine lv_aload_n hC.1 hC.2.1 dL_law_342 rfl (lv_at hl 1 rfl) ?_
      refine lg_l G (ag_runV (As := []) (rest := []) hC (hT.ag (fun _ hk => lg_lay G hk)) (lg_ag G) (c_N_X7_digest l D cy lay h _) (cwV 0 hC.2.2.2.2 gL_law_X7_digest rfl rfl rfl hdV_X7_digest ⟨Nat.le_of_ble_eq_true rfl, Nat.le_of_ble_eq_true rfl⟩) (ag_recv (hT.ag (fun _ hk => lg_lay G hk)) (lg_ag G) (by decide) e_ag k_X7) rfl hl.1 rfl (Nat.le_of_ble_eq_true rfl) dL_law_343 ⟨by show _ ≤ 600074; omega, by show _ ≤ 7301549; omega⟩) (fun r3 σ2 H locs h G => ?_)
      (try dsimp only at h)
      refine lv_lstore (lv' := [(5, .long r3), (0, .ref b), (1, .ref (lay 0)), (2, .ref e0), (3, .ref e1), (4, .int v4)]) hC.1 hC.2.1 dL_law_346 hl (by decide) rfl (fun ls hl => ?_)
      refine lv_aload_n hC.1 hC.2.1 dL_law_348 rfl (lv_at hl 2 rfl) ?_
      refine lg_i G (ag_runV (As := []) (rest := []) hC (hT.ag (fun _ hk => lg_lay G hk)) (lg_ag G) (c_X7_isSound l D cy lay h _) (cwV 0 hC.2.2.2.2 gL_law_X7_isSound rfl rfl rfl hdV_X7_isSound ⟨Nat.le_of_ble_eq_true rfl, Nat.le_of_ble_eq_true rfl⟩) (ag_recv (hT.ag (fun _ hk => lg_lay G hk)) (lg_ag G) (by decide) e_ag k_X7) rfl hl.1 rfl (Nat.le_of_ble_eq_true rfl) dL_law_349 ⟨by show _ ≤ 600074; omega, by show _ ≤ 7301549; omega⟩) (fun r5 σ4 H locs h G => ?_)
      (try dsimp only at h)
      refine lv_if_eq (tgt := 369) hC.1 hC.2.1 dL_law_352 (by decide) (fun c6 => ?_) (fun c6 => ?_)
      · replace h := h.1 c6
        refine lv_iconst (v := 0) hC.1 hC.2.1 dL_law_369 (by decide) ?_
        exact h.elim
      · replace h := h.2 c6
        refine lv_aload_n hC.1 hC.2.1 dL_law_355 rfl (lv_at hl 2 rfl) ?_
        refine lg_l G (ag_runV (As := []) (rest := []) hC (hT.ag (fun _ hk => lg_lay G hk)) (lg_ag G) (c_N_X7_digest l D cy lay h _) (cwV 0 hC.2.2.2.2 gL_law_X7_digest rfl rfl rfl hdV_X7_digest ⟨Nat.le_of_ble_eq_true rfl, Nat.le_of_ble_eq_true rfl⟩) (ag_recv (hT.ag (fun _ hk => lg_lay G hk)) (lg_ag G) (by decide) e_ag k_X7) rfl hl.1 rfl (Nat.le_of_ble_eq_true rfl) dL_law_356 ⟨by show _ ≤ 600074; omega, by show _ ≤ 7301549; omega⟩) (fun r8 σ7 H locs h G => ?_)
        (try dsimp only at h)
        refine lv_lload hC.1 hC.2.1 dL_law_359 (lv_at hl 0 rfl) ?_
        refine W.lcmp hC.1 hC.2.1 dL_law_361 ?_
        refine lv_if_ne (tgt := 369) hC.1 hC.2.1 dL_law_362 (by decide) (fun c9 => ?_) (fun c9 => ?_)
        · replace h := h.2 c9
          refine lv_iconst (v := 0) hC.1 hC.2.1 dL_law_369 (by decide) ?_
          exact h.elim
        · replace h := h.1 c9
          refine lv_iconst (v := 1) hC.1 hC.2.1 dL_law_365 (by decide) ?_
          refine lv_goto (tgt := 370) hC.1 hC.2.1 dL_law_366 (by decide) ?_
          refine va_forget (fun z hz => G.2.2.2.2 z hz) ?_
          refine W.widen (k := 600074) (n := 7301549) (by omega) (by omega) ?_
          exact lw_ret hC.1 hC.2.1 hr hlocks dL_law_370
    · replace h := h.2 c1
      refine lv_aload_n hC.1 hC.2.1 dL_law_28 rfl (lv_at hl 0 rfl) ?_
      refine lv_bipush (v := 15) hC.1 hC.2.1 dL_law_29 (by decide) ?_
      refine lv_iload hC.1 hC.2.1 dL_law_31 (lv_at hl 5 rfl) ?_
      refine lv_iadd hC.1 hC.2.1 dL_law_33 ?_
      obtain ⟨hk10, h⟩ := h
      refine lg_cell (k := (15 + v5)) (rest := []) hL hk10 hC hX hb G (va_cwS 2 hC.2.2.2.2 gL_law_L_cell rfl rfl rfl hdS_L_cell ⟨Nat.le_of_ble_eq_true rfl, Nat.le_of_ble_eq_true rfl⟩) hl.1 (Nat.le_of_ble_eq_true rfl) dL_law_34 ⟨by show _ ≤ 600074; omega, by show _ ≤ 7301549; omega⟩ (fun r11 H locs G => ?_)
      replace h := h r11
      refine lv_istore (lv' := [(6, .int r11), (0, .ref b), (1, .ref (lay 0)), (2, .ref e0), (3, .ref e1), (4, .int v4), (5, .int v5)]) hC.1 hC.2.1 dL_law_37 hl (by decide) rfl (fun ls hl => ?_)
      refine lv_aload_n hC.1 hC.2.1 dL_law_39 rfl (lv_at hl 2 rfl) ?_
      refine lv_iconst (v := 0) hC.1 hC.2.1 dL_law_40 (by decide) ?_
      refine lg_i G (ag_runV (As := [.int 0]) (rest := []) hC (hT.ag (fun _ hk => lg_lay G hk)) (lg_ag G) (c_N_X7_desk l D cy lay h _) (cwV 1 hC.2.2.2.2 gL_law_X7_desk rfl rfl rfl hdV_X7_desk ⟨Nat.le_of_ble_eq_true rfl, Nat.le_of_ble_eq_true rfl⟩) (ag_recv (hT.ag (fun _ hk => lg_lay G hk)) (lg_ag G) (by decide) e_ag k_X7) rfl hl.1 rfl (Nat.le_of_ble_eq_true rfl) dL_law_41 ⟨by show _ ≤ 600074; omega, by show _ ≤ 7301549; omega⟩) (fun r13 σ12 H locs h G => ?_)
      (try dsimp only at h)
      refine lv_istore (lv' := [(7, .int r13), (6, .int r11), (0, .ref b), (1, .ref (lay 0)), (2, .ref e0), (3, .ref e1), (4, .int v4), (5, .int v5)]) hC.1 hC.2.1 dL_law_44 hl (by decide) rfl (fun ls hl => ?_)
      refine lv_aload_n hC.1 hC.2.1 dL_law_46 rfl (lv_at hl 3 rfl) ?_
      refine lv_iconst (v := 3) hC.1 hC.2.1 dL_law_47 (by decide) ?_
      refine lg_i G (ag_runV (As := [.int 3]) (rest := []) hC (hT.ag (fun _ hk => lg_lay G hk)) (lg_ag G) (c_N_X7_desk l D cy lay h _) (cwV 1 hC.2.2.2.2 gL_law_X7_desk rfl rfl rfl hdV_X7_desk ⟨Nat.le_of_ble_eq_true rfl, Nat.le_of_ble_eq_true rfl⟩) (ag_recv (hT.ag (fun _ hk => lg_lay G hk)) (lg_ag G) (by decide) e_ag k_X7) rfl hl.1 rfl (Nat.le_of_ble_eq_true rfl) dL_law_48 ⟨by show _ ≤ 600074; omega, by show _ ≤ 7301549; omega⟩) (fun r15 σ14 H locs h G => ?_)
      (try dsimp only at h)
      refine lv_istore (lv' := [(8, .int r15), (7, .int r13), (6, .int r11), (0, .ref b), (1, .ref (lay 0)), (2, .ref e0), (3, .ref e1), (4, .int v4), (5, .int v5)]) hC.1 hC.2.1 dL_law_51 hl (by decide) rfl (fun ls hl => ?_)
      refine lv_aload_n hC.1 hC.2.1 dL_law_53 rfl (lv_at hl 4 rfl) ?_
      refine lg_l G (ag_runV (As := []) (rest := []) hC (hT.ag (fun _ hk => lg_lay G hk)) (lg_ag G) (c_N_X7_digest l D cy lay h _) (cwV 0 hC.2.2.2.2 gL_law_X7_digest rfl rfl rfl hdV_X7_digest ⟨Nat.le_of_ble_eq_true rfl, Nat.le_of_ble_eq_true rfl⟩) (ag_recv (hT.ag (fun _ hk => lg_lay G hk)) (lg_ag G) (by decide) e_ag k_X7) rfl hl.1 rfl (Nat.le_of_ble_eq_true rfl) dL_law_54 ⟨by show _ ≤ 600074; omega, by show _ ≤ 7301549; omega⟩) (fun r17 σ16 H locs h G => ?_)
      (try dsimp only at h)
      refine lv_lstore (lv' := [(9, .long r17), (8, .int r15), (7, .int r13), (6, .int r11), (0, .ref b), (1, .ref (lay 0)), (2, .ref e0), (3, .ref e1), (4, .int v4), (5, .int v5)]) hC.1 hC.2.1 dL_law_57 hl (by decide) rfl (fun ls hl => ?_)
      refine lv_aload_n hC.1 hC.2.1 dL_law_59 rfl (lv_at hl 5 rfl) ?_
      refine lv_iload hC.1 hC.2.1 dL_law_60 (lv_at hl 3 rfl) ?_
      refine lg_i G (ag_runSW (As := [.ref (lay 0), .int r11]) (rest := []) hC (hT.ag (fun _ hk => lg_lay G hk)) (lg_ag G) (c_L_isDone l hl0 D cy lay h _) (vx_cwSW 2 hC.2.2.2.2 gL_law_L_isDone rfl rfl rfl hdS_L_isDone ⟨Nat.le_of_ble_eq_true rfl, Nat.le_of_ble_eq_true rfl⟩) rfl hl.1 rfl (Nat.le_of_ble_eq_true rfl) dL_law_62 ⟨by show _ ≤ 600074; omega, by show _ ≤ 7301549; omega⟩) (fun r19 σ18 H locs h G => ?_)
      (try dsimp only at h)
      refine lv_istore (lv' := [(11, .int r19), (9, .long r17), (8, .int r15), (7, .int r13), (6, .int r11), (0, .ref b), (1, .ref (lay 0)), (2, .ref e0), (3, .ref e1), (4, .int v4), (5, .int v5)]) hC.1 hC.2.1 dL_law_65 hl (by decide) rfl (fun ls hl => ?_)
      refine lv_iload hC.1 hC.2.1 dL_law_67 (lv_at hl 0 rfl) ?_
      refine lv_if_ne (tgt := 82) hC.1 hC.2.1 dL_law_69 (by decide) (fun c20 => ?_) (fun c20 => ?_)
      · replace h := h.2 c20
        refine W.widen (k := (q + 3)) (n := 24 * (q + 3)) (by omega) (by omega) ?_
        exact l_L_law_82 (fun σ w0 w1 w2 w3 => u_L_law_21 n σ w0 w1 w2 w3) (n * 3 + 3) hl0 hC hr hlocks hT hL hX hb (fun q σ x0 x1 x2 x3 hq => ih q σ x0 x1 x2 x3 (by omega)) (q + 3) _ _ _ _ _ _ _ (by omega) h _ _ _ G (lv_sub hl [5, 6, 7, 8, 9, 10, 3, 2] rfl)
      · replace h := h.1 c20
        refine lv_aload_n hC.1 hC.2.1 dL_law_72 rfl (lv_at hl 6 rfl) ?_
        refine lg_l G (ag_runV (As := []) (rest := []) hC (hT.ag (fun _ hk => lg_lay G hk)) (lg_ag G) (c_N_X7_digest l D cy lay h _) (cwV 0 hC.2.2.2.2 gL_law_X7_digest rfl rfl rfl hdV_X7_digest ⟨Nat.le_of_ble_eq_true rfl, Nat.le_of_ble_eq_true rfl⟩) (ag_recv (hT.ag (fun _ hk => lg_lay G hk)) (lg_ag G) (by decide) e_ag k_X7) rfl hl.1 rfl (Nat.le_of_ble_eq_true rfl) dL_law_73 ⟨by show _ ≤ 600074; omega, by show _ ≤ 7301549; omega⟩) (fun r76 σ75 H locs h G => ?_)
        (try dsimp only at h)
        refine lv_lload hC.1 hC.2.1 dL_law_76 (lv_at hl 1 rfl) ?_
        refine W.lcmp hC.1 hC.2.1 dL_law_78 ?_
        refine lv_if_ne (tgt := 126) hC.1 hC.2.1 dL_law_79 (by decide) (fun c77 => ?_) (fun c77 => ?_)
        · replace h := h.2 c77
          refine lv_iconst (v := 0) hC.1 hC.2.1 dL_law_126 (by decide) ?_
          exact h.elim
        · replace h := h.1 c77
          refine W.widen (k := (q + 3)) (n := 24 * (q + 3)) (by omega) (by omega) ?_
          exact l_L_law_82 (fun σ w0 w1 w2 w3 => u_L_law_21 n σ w0 w1 w2 w3) (n * 3 + 3) hl0 hC hr hlocks hT hL hX hb (fun q σ x0 x1 x2 x3 hq => ih q σ x0 x1 x2 x3 (by omega)) (q + 3) _ _ _ _ _ _ _ (by omega) h _ _ _ G (lv_sub hl [5, 6, 7, 8, 9, 10, 3, 2] rfl)
def u_L_law_4 (σ : MS) : Prop := (∃ k, k ≤ 21 ∧ u_L_law_21 k σ (fun _ => 0) (fun _ => 0) 0 0)
set_option maxHeartbeats 4000000 in
set_option maxRecDepth 100000 in
theorem l_L_law_4 {p : Program} {l : Launch} {e : Env} {s : State} {m : MethodId} {below : List Frame} {meth : Method} {c : Code} {D : va_G} {cy : Nat → ClassId} {lay : Nat → Nat} {b L : Nat} {xs : Nat → Int32} (hl0 : l.stackTraces = false) (hC : CallFix p m c cL_law 16 s #[Value.ref b] wsL_law RL) (hr : meth.sig.returnType = some .boolean) (hlocks : meth.locks = false) (hT : lgT D cy s) (hL : L ≤ 260) (hX : va_X b L xs s s.heap) (hb : b < s.heap.size) : ∀ (q : Nat) (σ : MS), q + 68 ≤ 188 → u_L_law_4 σ → ∀ (H : Heap) (locs : List Loc) (ls : Array Slot), lgG D cy lay σ [] s.heap H locs → lv_has ls 16 [(0, .ref b)] → W p l e room_1 s m #[Value.ref b] below meth c H locs (q) (24 * q) (lw_Z below #[Value.ref b] s) (F0 m 4 ls [.ref (lay 0)]) := by
  intro q σ hq h H locs ls G hl
  unfold u_L_law_4 at h
  refine lv_astore_n (lv' := [(1, .ref (lay 0)), (0, .ref b)]) hC.1 hC.2.1 dL_law_4 rfl hl (by decide) rfl (fun ls hl => ?_)
  refine lv_bipush (v := 14) hC.1 hC.2.1 dL_law_5 (by decide) ?_
  refine lg_newi (N := 14) hC hT.1 G (wm 0 rfl) (by decide) (by decide) (Nat.le_of_ble_eq_true rfl) (by show _ ≤ 600074; omega) (by show _ ≤ 7301549; omega) dL_law_7 (fun e0 H G => ?_)
  simp only [List.nil_append, List.cons_append] at G
  refine lv_astore_n (lv' := [(2, .ref e0), (1, .ref (lay 0)), (0, .ref b)]) hC.1 hC.2.1 dL_law_9 rfl hl (by decide) rfl (fun ls hl => ?_)
  refine lv_bipush (v := 14) hC.1 hC.2.1 dL_law_10 (by decide) ?_
  refine lg_newi (N := 14) hC hT.1 G (wm 0 rfl) (by decide) (by decide) (Nat.le_of_ble_eq_true rfl) (by show _ ≤ 600074; omega) (by show _ ≤ 7301549; omega) dL_law_12 (fun e1 H G => ?_)
  simp only [List.nil_append, List.cons_append] at G
  refine lv_astore_n (lv' := [(3, .ref e1), (2, .ref e0), (1, .ref (lay 0)), (0, .ref b)]) hC.1 hC.2.1 dL_law_14 rfl hl (by decide) rfl (fun ls hl => ?_)
  refine lv_iconst (v := 0) hC.1 hC.2.1 dL_law_15 (by decide) ?_
  refine lv_istore (lv' := [(4, .int 0), (3, .ref e1), (2, .ref e0), (1, .ref (lay 0)), (0, .ref b)]) hC.1 hC.2.1 dL_law_16 hl (by decide) rfl (fun ls hl => ?_)
  refine lv_iconst (v := 0) hC.1 hC.2.1 dL_law_18 (by decide) ?_
  refine lv_istore (lv' := [(5, .int 0), (4, .int 0), (3, .ref e1), (2, .ref e0), (1, .ref (lay 0)), (0, .ref b)]) hC.1 hC.2.1 dL_law_19 hl (by decide) rfl (fun ls hl => ?_)
  refine W.widen (k := (q + 2)) (n := 24 * (q + 2)) (by omega) (by omega) ?_
  obtain ⟨n1, hk1, h⟩ := h
  exact l_L_law_21 hl0 hC hr hlocks hT hL hX hb n1 (q + 2) _ _ _ _ _ (by omega) h _ _ _ G (lv_sub hl [5, 4, 3, 2, 1, 0] rfl)
