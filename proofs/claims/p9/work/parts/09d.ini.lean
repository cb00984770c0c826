abbrev rm_X7_init : Room := { frames := 2, cells := 86, slots := 2009, locals := 48 }
abbrev inPost (cy : Nat → ClassId) (lay : Nat → Nat) (X : Nat → Option va_E) : GY → Prop := fun Y => (Y.1 0 = lay 0 ∧ ∀ i, 87 ≤ i → Y.1 i = lay i) ∧ Y.2 = inX cy Y.1 X 10 16 6 14
theorem rdX_lo {cy : Nat → ClassId} {lay' : Nat → Nat} {X : Nat → Option va_E} {a b i : Nat} (h5 : i ≠ 5) (h : i < 15 ∨ 29 ≤ i) (_h : True) : rdX cy lay' X a b i = X i := by
  unfold rdX
  rw [if_neg h5, if_neg (by omega), if_neg (by omega), if_neg (by omega), if_neg (by omega)]
set_option maxHeartbeats 4000000 in
set_option maxRecDepth 100000 in
theorem l_X7_init_211 {p : Program} {l : Launch} {e : Env} {s : State} {m : MethodId} {args : Array Value} {below : List Frame} {meth : Method} {c : Code} {D : va_G} {cy : Nat → ClassId} {lay : Nat → Nat} {X : Nat → Option va_E} (hC : CallFix p m c cX7_init 2 s args wsX7_init RX7) (hr : meth.sig.returnType = none) (hlocks : meth.locks = false) (hT : gT D cy s) :
    ∀ (d a : Nat), a + d = 14 → ∀ (lay' : Nat → Nat) (H : Heap) (locs : List Loc) (ls : Array Slot), (lay' 0 = lay 0 ∧ ∀ i, 87 ≤ i → lay' i = lay i) → gG D lay' (inX cy lay' X 10 16 6 a) (gA lay X s.heap.size) s.heap H locs → lv_has ls 2 [(0, .ref (lay 0)), (1, .int (nI a))] → W p l e rm_X7_init s m args below meth c H locs (72 + 1 * a) (1841 + 12 * a) (MQ below (va_Qv (inPost cy lay X) (gO D (gA lay X s.heap.size)) (gA lay X s.heap.size)) args s 86 2009 (gA lay X s.heap.size)) (F0 m 211 ls []) := by
  intro d
  have hA : ∀ q, s.heap.size ≤ q → gA lay X s.heap.size q := fun _ h => Or.inr h
  induction d with
  | zero =>
    intro a ha lay' H locs ls hf G hl
    obtain rfl : a = 14 := by omega
    refine lv_iload_n hC.1 hC.2.1 dX7_init_211 rfl (lv_at hl 1 rfl) ?_
    refine lv_bipush (v := 14) hC.1 hC.2.1 dX7_init_212 (by decide) ?_
    refine lv_icmp_ge (tgt := 236) hC.1 hC.2.1 dX7_init_214 (by decide) (fun _ => ?_) (fun c1 => absurd (show (14 : Int32) ≤ nI 14 by decide) c1)
    exact g_vret (Y := (lay', inX cy lay' X 10 16 6 14)) hC hr hlocks G ⟨hf, rfl⟩ dX7_init_236
  | succ d ih =>
    intro a ha lay' H locs ls hf G hl
    have ha0 : a < 14 := by omega
    refine lv_iload_n hC.1 hC.2.1 dX7_init_211 rfl (lv_at hl 1 rfl) ?_
    refine lv_bipush (v := 14) hC.1 hC.2.1 dX7_init_212 (by decide) ?_
    refine lv_icmp_ge (tgt := 236) hC.1 hC.2.1 dX7_init_214 (by decide) (fun c1 => absurd c1 (nI_ge ha0 (by decide))) (fun _ => ?_)
    refine lv_aload_n hC.1 hC.2.1 dX7_init_217 rfl (lv_at hl 0 rfl) ?_
    rw [← hf.1]
    refine g_get (k := 0) (fs := Lag lay' (fun _ => 0)) hC hT.1 G (by decide) rfl k_X7 i_X7_init_X7 3 (by decide) (wm 11 rfl) rfl dX7_init_218 ?_
    refine lv_iload_n hC.1 hC.2.1 dX7_init_221 rfl (lv_at hl 1 rfl) ?_
    have hno : ∀ i, i < 87 → ¬ inDone 10 16 6 a i → inX cy lay' X 10 16 6 a i = none := fun i h1 h2 => inX_no h1 h2
    refine g_new (k := (73 + a)) (fs := [.int 0, .int 0, .int 0, .int 0, .int 0, .int 0, .int 0, .int 0, .int 0, .int 0, .int 0, .int 0]) hC hT.1 G hA (hno (73 + a) (by omega) (by unfold inDone; omega)) k_X6 i_X7_init_X6 (wm 10 rfl) (wm 40 rfl) (wm 41 rfl) df_X6 (show (72 + 1 * a) + 1 ≤ 86 by omega) (show (1841 + 12 * a) + 12 ≤ 2009 by omega) dX7_init_222 (fun q H G => ?_)
    have hlk : gU lay' (73 + a) q (73 + a) = q := gU_eq
    rw [hlk]
    refine lv_dup hC.1 hC.2.1 dX7_init_225 rfl ?_
    refine g_v G hA (g_runIN (host := RX7) (b := gU lay' (73 + a) q (73 + a)) (As := []) (rest := [.ref q, .int (nI a), .ref (lay' 4)]) hC hT G (c_X6_init l D cy _ _ (k := (73 + a)) (by omega) gU_eq _) ⟨va_cnB 0 hC.2.2.2.2 ggX7_init_X6_init rfl rfl rfl (hT.2.1 _ (wm 32 rfl)) (hC.2.2.2.2 (.initialized RX6) (wm 41 rfl)) hdI_X6 ⟨Nat.le_of_ble_eq_true rfl, Nat.le_of_ble_eq_true rfl⟩, rfl, hC.2.2.2.2 (.instanceMethod yX6_init) (wm 93 rfl)⟩ rfl hl.1 (by rw [hlk]; rfl) (Nat.le_of_ble_eq_true rfl) dX7_init_226 ⟨show (72 + 1 * a) + 1 + 0 ≤ 86 by omega, show (1841 + 12 * a) + 12 + 0 ≤ 2009 by omega⟩) (fun Y H locs hY G => ?_)
    subst hY
    dsimp only at G
    refine g_aastA (k := 4) (kv := (73 + a)) (n := 14) (f := rfs lay' 73 a) (gU_ne (by omega)) hlk hC hT G (by decide) (by omega) 5 11 ((gU_ne (by omega)).trans ((gU_ne (by omega)).trans rfl)) rfl gU_eq rfl (vp_in_nI ha0 (by decide)) dX7_init_229 (fun H locs G => ?_)
    refine lv_iinc (v := nI (a + 1)) (lv' := [(1, .int (nI (a + 1))), (0, .ref (lay 0))]) hC.1 hC.2.1 dX7_init_230 hl (k := 1) rfl (nI_1 a) (by decide) rfl (fun ls hl => ?_)
    refine lv_goto (tgt := 211) hC.1 hC.2.1 dX7_init_233 (by decide) ?_
    refine ih (a + 1) (by omega) (gU lay' (73 + a) q) H locs ls ⟨(gU_ne (by omega)).trans hf.1, fun i hi => (gU_ne (by omega)).trans (hf.2 i hi)⟩ (gG_eq (fun k hk => ?_) G) (lv_sub hl [1, 0] rfl)
    have hmv : inX cy (gU lay' (73 + a) q) X 10 16 6 a = inX cy lay' X 10 16 6 a := inX_mv fun r hr => by
      unfold inDone at hr
      exact (gU_ne (by omega)).trans rfl
    rw [inX_sd ha0, hmv, rfs_s (q := q) gU_eq, nI_clamp (by omega)]
    have hrf : rfs (gU lay' (73 + a) q) 73 a = rfs lay' 73 a := rfs_lay fun j hj => (gU_ne (by omega)).trans rfl
    rw [hrf]
    rw [gU_gU]
set_option maxHeartbeats 4000000 in
set_option maxRecDepth 100000 in
theorem l_X7_init_184 {p : Program} {l : Launch} {e : Env} {s : State} {m : MethodId} {args : Array Value} {below : List Frame} {meth : Method} {c : Code} {D : va_G} {cy : Nat → ClassId} {lay : Nat → Nat} {X : Nat → Option va_E} (hC : CallFix p m c cX7_init 2 s args wsX7_init RX7) (hr : meth.sig.returnType = none) (hlocks : meth.locks = false) (hT : gT D cy s) :
    ∀ (d a : Nat), a + d = 6 → ∀ (lay' : Nat → Nat) (H : Heap) (locs : List Loc) (ls : Array Slot), (lay' 0 = lay 0 ∧ ∀ i, 87 ≤ i → lay' i = lay i) → gG D lay' (inX cy lay' X 10 16 a 0) (gA lay X s.heap.size) s.heap H locs → lv_has ls 2 [(0, .ref (lay 0)), (1, .int (nI a))] → W p l e rm_X7_init s m args below meth c H locs (54 + 3 * a) (1757 + 14 * a) (MQ below (va_Qv (inPost cy lay X) (gO D (gA lay X s.heap.size)) (gA lay X s.heap.size)) args s 86 2009 (gA lay X s.heap.size)) (F0 m 184 ls []) := by
  intro d
  have hA : ∀ q, s.heap.size ≤ q → gA lay X s.heap.size q := fun _ h => Or.inr h
  induction d with
  | zero =>
    intro a ha lay' H locs ls hf G hl
    obtain rfl : a = 6 := by omega
    refine lv_iload_n hC.1 hC.2.1 dX7_init_184 rfl (lv_at hl 1 rfl) ?_
    refine lv_bipush (v := 6) hC.1 hC.2.1 dX7_init_185 (by decide) ?_
    refine lv_icmp_ge (tgt := 209) hC.1 hC.2.1 dX7_init_187 (by decide) (fun _ => ?_) (fun c1 => absurd (show (6 : Int32) ≤ nI 6 by decide) c1)
    refine lv_iconst (v := 0) hC.1 hC.2.1 dX7_init_209 (by decide) ?_
    refine lv_istore_n (lv' := [(1, .int 0), (0, .ref (lay 0))]) hC.1 hC.2.1 dX7_init_210 rfl hl (by decide) rfl (fun ls hl => ?_)
    exact l_X7_init_211 hC hr hlocks hT 14 0 (by omega) lay' H locs ls hf G (lv_sub hl [1, 0] rfl)
  | succ d ih =>
    intro a ha lay' H locs ls hf G hl
    have ha0 : a < 6 := by omega
    refine lv_iload_n hC.1 hC.2.1 dX7_init_184 rfl (lv_at hl 1 rfl) ?_
    refine lv_bipush (v := 6) hC.1 hC.2.1 dX7_init_185 (by decide) ?_
    refine lv_icmp_ge (tgt := 209) hC.1 hC.2.1 dX7_init_187 (by decide) (fun c1 => absurd c1 (nI_ge ha0 (by decide))) (fun _ => ?_)
    refine lv_aload_n hC.1 hC.2.1 dX7_init_190 rfl (lv_at hl 0 rfl) ?_
    rw [← hf.1]
    refine g_get (k := 0) (fs := Lag lay' (fun _ => 0)) hC hT.1 G (by decide) rfl k_X7 i_X7_init_X7 2 (by decide) (wm 9 rfl) rfl dX7_init_191 ?_
    refine lv_iload_n hC.1 hC.2.1 dX7_init_194 rfl (lv_at hl 1 rfl) ?_
    have hno : ∀ i, i < 87 → ¬ inDone 10 16 a 0 i → inX cy lay' X 10 16 a 0 i = none := fun i h1 h2 => inX_no h1 h2
    refine g_new (k := (55 + a)) (fs := [.null, .null, .int 0]) hC hT.1 G hA (hno (55 + a) (by omega) (by unfold inDone; omega)) k_X0 i_X7_init_X0 (wm 8 rfl) (wm 38 rfl) (wm 39 rfl) df_X0 (show (54 + 3 * a) + 1 ≤ 86 by omega) (show (1757 + 14 * a) + 3 ≤ 2009 by omega) dX7_init_195 (fun q H G => ?_)
    have hlk : gU lay' (55 + a) q (55 + a) = q := gU_eq
    rw [hlk]
    refine lv_dup hC.1 hC.2.1 dX7_init_198 rfl ?_
    refine g_v G hA (g_runIN (host := RX7) (b := gU lay' (55 + a) q (55 + a)) (As := []) (rest := [.ref q, .int (nI a), .ref (lay' 3)]) hC hT G (c_X0_init l D cy _ _ (k := (55 + a)) (by omega) gU_eq (k1 := 61 + a) ((gU_ne (by omega)).trans (hno (61 + a) (by omega) (by unfold inDone; omega))) (k2 := 67 + a) ((gU_ne (by omega)).trans (hno (67 + a) (by omega) (by unfold inDone; omega))) (by omega) (by omega) (by omega) (by omega) (by omega) (by omega) _) ⟨va_cnB 0 hC.2.2.2.2 ggX7_init_X0_init rfl rfl rfl (hT.2.1 _ (wm 31 rfl)) (hC.2.2.2.2 (.initialized RX0) (wm 39 rfl)) hdI_X0 ⟨Nat.le_of_ble_eq_true rfl, Nat.le_of_ble_eq_true rfl⟩, rfl, hC.2.2.2.2 (.instanceMethod yX0_init) (wm 87 rfl)⟩ rfl hl.1 (by rw [hlk]; rfl) (Nat.le_of_ble_eq_true rfl) dX7_init_199 ⟨show (54 + 3 * a) + 1 + 2 ≤ 86 by omega, show (1757 + 14 * a) + 3 + 11 ≤ 2009 by omega⟩) (fun Y H locs hY G => ?_)
    obtain ⟨q1, q2, hY⟩ := hY
    subst hY
    dsimp only at G
    refine g_aastA (k := 3) (kv := (55 + a)) (n := 6) (f := rfs lay' 55 a) ((gU_ne (by omega)).trans ((gU_ne (by omega)).trans (gU_ne (by omega)))) ((gU_ne (by omega)).trans ((gU_ne (by omega)).trans hlk)) hC hT G (by decide) (by omega) 4 5 ((gU_ne (by omega)).trans ((gU_ne (by omega)).trans ((gU_ne (by omega)).trans ((gU_ne (by omega)).trans ((gU_ne (by omega)).trans rfl))))) rfl gU_eq rfl (vp_in_nI ha0 (by decide)) dX7_init_202 (fun H locs G => ?_)
    refine lv_iinc (v := nI (a + 1)) (lv' := [(1, .int (nI (a + 1))), (0, .ref (lay 0))]) hC.1 hC.2.1 dX7_init_203 hl (k := 1) rfl (nI_1 a) (by decide) rfl (fun ls hl => ?_)
    refine lv_goto (tgt := 184) hC.1 hC.2.1 dX7_init_206 (by decide) ?_
    refine ih (a + 1) (by omega) (gU (gU (gU lay' (55 + a) q) (61 + a) q1) (67 + a) q2) H locs ls ⟨(gU_ne (by omega)).trans ((gU_ne (by omega)).trans ((gU_ne (by omega)).trans hf.1)), fun i hi => (gU_ne (by omega)).trans ((gU_ne (by omega)).trans ((gU_ne (by omega)).trans (hf.2 i hi)))⟩ (gG_eq (fun k hk => ?_) G) (lv_sub hl [1, 0] rfl)
    have hmv : inX cy (gU (gU (gU lay' (55 + a) q) (61 + a) q1) (67 + a) q2) X 10 16 a 0 = inX cy lay' X 10 16 a 0 := inX_mv fun r hr => by
      unfold inDone at hr
      exact (gU_ne (by omega)).trans ((gU_ne (by omega)).trans ((gU_ne (by omega)).trans rfl))
    rw [inX_sc ha0, hmv, rfs_s (q := q) ((gU_ne (by omega)).trans ((gU_ne (by omega)).trans gU_eq)), nI_clamp (by omega)]
    have hrf : rfs (gU (gU (gU lay' (55 + a) q) (61 + a) q1) (67 + a) q2) 55 a = rfs lay' 55 a := rfs_lay fun j hj => (gU_ne (by omega)).trans ((gU_ne (by omega)).trans ((gU_ne (by omega)).trans rfl))
    rw [hrf]
    have u1 : (gU (gU (gU lay' (55 + a) q) (61 + a) q1) (67 + a) q2) (61 + a) = q1 := (gU_ne (by omega)).trans gU_eq
    have u2 : (gU (gU (gU lay' (55 + a) q) (61 + a) q1) (67 + a) q2) (67 + a) = q2 := gU_eq
    rw [u1, u2]
    by_cases z1 : k = 3
    · subst z1; rw [gU_eq, gU_eq]
    rw [gU_ne z1, gU_ne z1]
    by_cases z2 : k = 55 + a
    · subst z2; rw [gU_eq, gU_eq]
    rw [gU_ne z2, gU_ne z2]
    by_cases z3 : k = 67 + a
    · subst z3; rw [gU_eq, gU_eq]
    rw [gU_ne z3, gU_ne z3, gU_ne z2]
    by_cases z4 : k = 61 + a
    · subst z4; rw [gU_eq, gU_eq]
    rw [gU_ne z4, gU_ne z4, gU_ne z2]
set_option maxHeartbeats 4000000 in
set_option maxRecDepth 100000 in
theorem l_X7_init_153 {p : Program} {l : Launch} {e : Env} {s : State} {m : MethodId} {args : Array Value} {below : List Frame} {meth : Method} {c : Code} {D : va_G} {cy : Nat → ClassId} {lay : Nat → Nat} {X : Nat → Option va_E} (hC : CallFix p m c cX7_init 2 s args wsX7_init RX7) (hr : meth.sig.returnType = none) (hlocks : meth.locks = false) (hT : gT D cy s) :
    ∀ (d a : Nat), a + d = 16 → ∀ (lay' : Nat → Nat) (H : Heap) (locs : List Loc) (ls : Array Slot), (lay' 0 = lay 0 ∧ ∀ i, 87 ≤ i → lay' i = lay i) → gG D lay' (inX cy lay' X 10 a 0 0) (gA lay X s.heap.size) s.heap H locs → lv_has ls 2 [(0, .ref (lay 0)), (1, .int (nI a))] → W p l e rm_X7_init s m args below meth c H locs (38 + 1 * a) (1693 + 4 * a) (MQ below (va_Qv (inPost cy lay X) (gO D (gA lay X s.heap.size)) (gA lay X s.heap.size)) args s 86 2009 (gA lay X s.heap.size)) (F0 m 153 ls []) := by
  intro d
  have hA : ∀ q, s.heap.size ≤ q → gA lay X s.heap.size q := fun _ h => Or.inr h
  induction d with
  | zero =>
    intro a ha lay' H locs ls hf G hl
    obtain rfl : a = 16 := by omega
    refine lv_iload_n hC.1 hC.2.1 dX7_init_153 rfl (lv_at hl 1 rfl) ?_
    refine lv_bipush (v := 16) hC.1 hC.2.1 dX7_init_154 (by decide) ?_
    refine lv_icmp_ge (tgt := 182) hC.1 hC.2.1 dX7_init_156 (by decide) (fun _ => ?_) (fun c1 => absurd (show (16 : Int32) ≤ nI 16 by decide) c1)
    refine lv_iconst (v := 0) hC.1 hC.2.1 dX7_init_182 (by decide) ?_
    refine lv_istore_n (lv' := [(1, .int 0), (0, .ref (lay 0))]) hC.1 hC.2.1 dX7_init_183 rfl hl (by decide) rfl (fun ls hl => ?_)
    exact l_X7_init_184 hC hr hlocks hT 6 0 (by omega) lay' H locs ls hf G (lv_sub hl [1, 0] rfl)
  | succ d ih =>
    intro a ha lay' H locs ls hf G hl
    have ha0 : a < 16 := by omega
    refine lv_iload_n hC.1 hC.2.1 dX7_init_153 rfl (lv_at hl 1 rfl) ?_
    refine lv_bipush (v := 16) hC.1 hC.2.1 dX7_init_154 (by decide) ?_
    refine lv_icmp_ge (tgt := 182) hC.1 hC.2.1 dX7_init_156 (by decide) (fun c1 => absurd c1 (nI_ge ha0 (by decide))) (fun _ => ?_)
    refine lv_aload_n hC.1 hC.2.1 dX7_init_159 rfl (lv_at hl 0 rfl) ?_
    rw [← hf.1]
    refine g_get (k := 0) (fs := Lag lay' (fun _ => 0)) hC hT.1 G (by decide) rfl k_X7 i_X7_init_X7 1 (by decide) (wm 7 rfl) rfl dX7_init_160 ?_
    refine lv_iload_n hC.1 hC.2.1 dX7_init_163 rfl (lv_at hl 1 rfl) ?_
    have hno : ∀ i, i < 87 → ¬ inDone 10 a 0 0 i → inX cy lay' X 10 a 0 0 i = none := fun i h1 h2 => inX_no h1 h2
    refine g_new (k := (39 + a)) (fs := [.int 0, .int 0, .int 0, .int 0]) hC hT.1 G hA (hno (39 + a) (by omega) (by unfold inDone; omega)) k_X5 i_X7_init_X5 (wm 6 rfl) (wm 36 rfl) (wm 37 rfl) df_X5 (show (38 + 1 * a) + 1 ≤ 86 by omega) (show (1693 + 4 * a) + 4 ≤ 2009 by omega) dX7_init_164 (fun q H G => ?_)
    have hlk : gU lay' (39 + a) q (39 + a) = q := gU_eq
    rw [hlk]
    refine lv_dup hC.1 hC.2.1 dX7_init_167 rfl ?_
    refine lv_iload_n hC.1 hC.2.1 dX7_init_168 rfl (lv_at hl 1 rfl) ?_
    refine lv_bipush (v := 12) hC.1 hC.2.1 dX7_init_169 (by decide) ?_
    refine lv_irem hC.1 hC.2.1 dX7_init_171 (by decide) ?_
    refine g_v G hA (g_runI (b := gU lay' (39 + a) q (39 + a)) (As := [.int (nI a - nI a / 12 * 12)]) (rest := [.ref q, .int (nI a), .ref (lay' 2)]) hC hT G (c_X5_init l D cy _ _ (k := (39 + a)) (by omega) gU_eq (nI a - nI a / 12 * 12) _) ⟨callB_of 1 hC.2.2.2.2 ggX7_init_X5_init rfl rfl rfl (hC.2.2.2.2 (.initialized RX5) (wm 37 rfl)) (hC.2.2.2.2 (.methodLink RX7 82 yX5_init) (wm 79 rfl)) hdI_X5 ⟨Nat.le_of_ble_eq_true rfl, Nat.le_of_ble_eq_true rfl⟩, rfl, hC.2.2.2.2 (.instanceMethod yX5_init) (wm 80 rfl)⟩ rfl hl.1 (by rw [hlk]; rfl) (Nat.le_of_ble_eq_true rfl) dX7_init_172 ⟨show (38 + 1 * a) + 1 + 0 ≤ 86 by omega, show (1693 + 4 * a) + 4 + 0 ≤ 2009 by omega⟩) (fun Y H locs hY G => ?_)
    subst hY
    dsimp only at G
    refine g_aastA (k := 2) (kv := (39 + a)) (n := 16) (f := rfs lay' 39 a) (gU_ne (by omega)) hlk hC hT G (by decide) (by omega) 3 10 ((gU_ne (by omega)).trans ((gU_ne (by omega)).trans rfl)) rfl gU_eq rfl (vp_in_nI ha0 (by decide)) dX7_init_175 (fun H locs G => ?_)
    refine lv_iinc (v := nI (a + 1)) (lv' := [(1, .int (nI (a + 1))), (0, .ref (lay 0))]) hC.1 hC.2.1 dX7_init_176 hl (k := 1) rfl (nI_1 a) (by decide) rfl (fun ls hl => ?_)
    refine lv_goto (tgt := 153) hC.1 hC.2.1 dX7_init_179 (by decide) ?_
    refine ih (a + 1) (by omega) (gU lay' (39 + a) q) H locs ls ⟨(gU_ne (by omega)).trans hf.1, fun i hi => (gU_ne (by omega)).trans (hf.2 i hi)⟩ (gG_eq (fun k hk => ?_) G) (lv_sub hl [1, 0] rfl)
    have hmv : inX cy (gU lay' (39 + a) q) X 10 a 0 0 = inX cy lay' X 10 a 0 0 := inX_mv fun r hr => by
      unfold inDone at hr
      exact (gU_ne (by omega)).trans rfl
    rw [inX_sb ha0, hmv, rfs_s (q := q) gU_eq, nI_clamp (by omega)]
    have hrf : rfs (gU lay' (39 + a) q) 39 a = rfs lay' 39 a := rfs_lay fun j hj => (gU_ne (by omega)).trans rfl
    rw [hrf]
    rw [gU_gU]
set_option maxHeartbeats 4000000 in
set_option maxRecDepth 100000 in
theorem l_X7_init_126 {p : Program} {l : Launch} {e : Env} {s : State} {m : MethodId} {args : Array Value} {below : List Frame} {meth : Method} {c : Code} {D : va_G} {cy : Nat → ClassId} {lay : Nat → Nat} {X : Nat → Option va_E} (hC : CallFix p m c cX7_init 2 s args wsX7_init RX7) (hr : meth.sig.returnType = none) (hlocks : meth.locks = false) (hT : gT D cy s) :
    ∀ (d a : Nat), a + d = 10 → ∀ (lay' : Nat → Nat) (H : Heap) (locs : List Loc) (ls : Array Slot), (lay' 0 = lay 0 ∧ ∀ i, 87 ≤ i → lay' i = lay i) → gG D lay' (inX cy lay' X a 0 0 0) (gA lay X s.heap.size) s.heap H locs → lv_has ls 2 [(0, .ref (lay 0)), (1, .int (nI a))] → W p l e rm_X7_init s m args below meth c H locs (28 + 1 * a) (1613 + 8 * a) (MQ below (va_Qv (inPost cy lay X) (gO D (gA lay X s.heap.size)) (gA lay X s.heap.size)) args s 86 2009 (gA lay X s.heap.size)) (F0 m 126 ls []) := by
  intro d
  have hA : ∀ q, s.heap.size ≤ q → gA lay X s.heap.size q := fun _ h => Or.inr h
  induction d with
  | zero =>
    intro a ha lay' H locs ls hf G hl
    obtain rfl : a = 10 := by omega
    refine lv_iload_n hC.1 hC.2.1 dX7_init_126 rfl (lv_at hl 1 rfl) ?_
    refine lv_bipush (v := 10) hC.1 hC.2.1 dX7_init_127 (by decide) ?_
    refine lv_icmp_ge (tgt := 151) hC.1 hC.2.1 dX7_init_129 (by decide) (fun _ => ?_) (fun c1 => absurd (show (10 : Int32) ≤ nI 10 by decide) c1)
    refine lv_iconst (v := 0) hC.1 hC.2.1 dX7_init_151 (by decide) ?_
    refine lv_istore_n (lv' := [(1, .int 0), (0, .ref (lay 0))]) hC.1 hC.2.1 dX7_init_152 rfl hl (by decide) rfl (fun ls hl => ?_)
    exact l_X7_init_153 hC hr hlocks hT 16 0 (by omega) lay' H locs ls hf G (lv_sub hl [1, 0] rfl)
  | succ d ih =>
    intro a ha lay' H locs ls hf G hl
    have ha0 : a < 10 := by omega
    refine lv_iload_n hC.1 hC.2.1 dX7_init_126 rfl (lv_at hl 1 rfl) ?_
    refine lv_bipush (v := 10) hC.1 hC.2.1 dX7_init_127 (by decide) ?_
    refine lv_icmp_ge (tgt := 151) hC.1 hC.2.1 dX7_init_129 (by decide) (fun c1 => absurd c1 (nI_ge ha0 (by decide))) (fun _ => ?_)
    refine lv_aload_n hC.1 hC.2.1 dX7_init_132 rfl (lv_at hl 0 rfl) ?_
    rw [← hf.1]
    refine g_get (k := 0) (fs := Lag lay' (fun _ => 0)) hC hT.1 G (by decide) rfl k_X7 i_X7_init_X7 0 (by decide) (wm 5 rfl) rfl dX7_init_133 ?_
    refine lv_iload_n hC.1 hC.2.1 dX7_init_136 rfl (lv_at hl 1 rfl) ?_
    have hno : ∀ i, i < 87 → ¬ inDone a 0 0 0 i → inX cy lay' X a 0 0 0 i = none := fun i h1 h2 => inX_no h1 h2
    refine g_new (k := (29 + a)) (fs := [.int 0, .int 0, .int 0, .int 0, .int 0, .int 0, .int 0, .int 0]) hC hT.1 G hA (hno (29 + a) (by omega) (by unfold inDone; omega)) k_X3 i_X7_init_X3 (wm 4 rfl) (wm 34 rfl) (wm 35 rfl) df_X3 (show (28 + 1 * a) + 1 ≤ 86 by omega) (show (1613 + 8 * a) + 8 ≤ 2009 by omega) dX7_init_137 (fun q H G => ?_)
    have hlk : gU lay' (29 + a) q (29 + a) = q := gU_eq
    rw [hlk]
    refine lv_dup hC.1 hC.2.1 dX7_init_140 rfl ?_
    refine g_v G hA (g_runIN (host := RX7) (b := gU lay' (29 + a) q (29 + a)) (As := []) (rest := [.ref q, .int (nI a), .ref (lay' 1)]) hC hT G (c_X3_init l D cy _ _ (k := (29 + a)) (by omega) gU_eq _) ⟨va_cnB 0 hC.2.2.2.2 ggX7_init_X3_init rfl rfl rfl (hT.2.1 _ (wm 30 rfl)) (hC.2.2.2.2 (.initialized RX3) (wm 35 rfl)) hdI_X3 ⟨Nat.le_of_ble_eq_true rfl, Nat.le_of_ble_eq_true rfl⟩, rfl, hC.2.2.2.2 (.instanceMethod yX3_init) (wm 68 rfl)⟩ rfl hl.1 (by rw [hlk]; rfl) (Nat.le_of_ble_eq_true rfl) dX7_init_141 ⟨show (28 + 1 * a) + 1 + 0 ≤ 86 by omega, show (1613 + 8 * a) + 8 + 0 ≤ 2009 by omega⟩) (fun Y H locs hY G => ?_)
    subst hY
    dsimp only at G
    refine g_aastA (k := 1) (kv := (29 + a)) (n := 10) (f := rfs lay' 29 a) (gU_ne (by omega)) hlk hC hT G (by decide) (by omega) 2 8 ((gU_ne (by omega)).trans ((gU_ne (by omega)).trans rfl)) rfl gU_eq rfl (vp_in_nI ha0 (by decide)) dX7_init_144 (fun H locs G => ?_)
    refine lv_iinc (v := nI (a + 1)) (lv' := [(1, .int (nI (a + 1))), (0, .ref (lay 0))]) hC.1 hC.2.1 dX7_init_145 hl (k := 1) rfl (nI_1 a) (by decide) rfl (fun ls hl => ?_)
    refine lv_goto (tgt := 126) hC.1 hC.2.1 dX7_init_148 (by decide) ?_
    refine ih (a + 1) (by omega) (gU lay' (29 + a) q) H locs ls ⟨(gU_ne (by omega)).trans hf.1, fun i hi => (gU_ne (by omega)).trans (hf.2 i hi)⟩ (gG_eq (fun k hk => ?_) G) (lv_sub hl [1, 0] rfl)
    have hmv : inX cy (gU lay' (29 + a) q) X a 0 0 0 = inX cy lay' X a 0 0 0 := inX_mv fun r hr => by
      unfold inDone at hr
      exact (gU_ne (by omega)).trans rfl
    rw [inX_sa ha0, hmv, rfs_s (q := q) gU_eq, nI_clamp (by omega)]
    have hrf : rfs (gU lay' (29 + a) q) 29 a = rfs lay' 29 a := rfs_lay fun j hj => (gU_ne (by omega)).trans rfl
    rw [hrf]
    rw [gU_gU]
