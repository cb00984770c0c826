section GA
variable {p : Program} {l : Launch} {e : Env} {R : Room} {s : State} {m : MethodId} {args : Array Value} {below : List Frame} {meth : Method} {c : Code} {H : Heap} {locs : List Loc} {cells slots : Nat} {Q : State → Prop}
variable {cc : ByteArray} {pc nL : Nat} {ls : Array Slot} {rest : List Value} {D : va_G} {lay : Nat → Nat} {X : Nat → Option va_E} {A : Nat → Prop} {H0 : Heap} {Ts : List Cond} {own : String} {tys : List (ClassId × FieldType)}
theorem g_putA {C : String} {T : u_T} {N ci index a : Nat} {ty : Nat → FieldType} {k : Nat} (ha : lay k = a) (hC : CallFix p m c cc nL s args Ts own) (hK : va_K D vwCl tys s) (G : gG D lay X A H0 H locs) (hk : k < 128) {fs : List Value} (he : X k = some (.inr (ci, fs))) (hcl : agCl C T N ci ty) (hin : ∀ w ∈ u_ws C T N, w ∈ Ts) (j : Nat) (hj : j < N) (hl : Cond.fieldLink own index (T j).1 (T j).2.1 (T j).2.2.1 ∈ Ts) (hfin : (T j).2.2.2 = false) {v : Value} (hn : narrow (ty j) v = v) (hfit : fits (ty j) v = true) (hjl : j < fs.length) (hdg : decode cc pc = .ok (.putfield index, 3))
    (kk : ∀ (H1 : Heap) (locs1 : List Loc), gG D lay (gU X k (some (.inr (ci, fs.set j v)))) A H0 H1 locs1 → W p l e R s m args below meth c H1 locs1 cells slots Q (F0 m (pc + 3) ls rest)) : W p l e R s m args below meth c H locs cells slots Q (F0 m pc ls (v :: .ref a :: rest)) := by
  subst ha
  exact g_put hC hK G hk he hcl hin j hj hl hfin hn hfit hjl hdg kk
theorem g_putFA {C : String} {T : u_T} {N ci index a : Nat} {ty : Nat → FieldType} {k : Nat} (ha : lay k = a) (hC : CallFix p m c cc nL s args Ts own) (hK : va_K D vwCl tys s) (G : gG D lay X A H0 H locs) (hk : k < 128) {fs : List Value} (he : X k = some (.inr (ci, fs))) (hcl : agCl C T N ci ty) (hin : ∀ w ∈ u_ws C T N, w ∈ Ts) (j : Nat) (hj : j < N) (hl : Cond.fieldLink own index (T j).1 (T j).2.1 (T j).2.2.1 ∈ Ts) (hfin : (T j).2.2.2 = true) (hin2 : meth.name = "<init>") (hdecl : (T j).1 = own) {v : Value} (hn : narrow (ty j) v = v) (hfit : fits (ty j) v = true) (hjl : j < fs.length) (hdg : decode cc pc = .ok (.putfield index, 3))
    (kk : ∀ (H1 : Heap) (locs1 : List Loc), gG D lay (gU X k (some (.inr (ci, fs.set j v)))) A H0 H1 locs1 → W p l e R s m args below meth c H1 locs1 cells slots Q (F0 m (pc + 3) ls rest)) : W p l e R s m args below meth c H locs cells slots Q (F0 m pc ls (v :: .ref a :: rest)) := by
  subst ha
  exact g_putF hC hK G hk he hcl hin j hj hl hfin hin2 hdecl hn hfit hjl hdg kk
end GA
abbrev rm_X3_init : Room := { frames := 1, cells := 0, slots := 0, locals := 16 }
theorem i_X3_init_X3 : ∀ w ∈ wsX30, w ∈ wsX3_init := fun _ h => List.mem_cons_of_mem _ (List.mem_append_right _ h)
set_option maxHeartbeats 4000000 in
set_option maxRecDepth 100000 in
theorem c_X3_init (l : Launch) (D : va_G) (cy : Nat → ClassId) (lay : Nat → Nat) (X : Nat → Option va_E) {k : Nat} (hk : k < 128) (hX : X k = some (.inr (8, [.int 0, .int 0, .int 0, .int 0, .int 0, .int 0, .int 0, .int 0]))) (sz : Nat) : Met l yX3_init wsX3_init rm_X3_init (va_Pc [.ref (lay k)] (gIn D cy lay X sz)) (va_Qv (fun Y : GY => Y = (lay, (gU X k (some (.inr (8, [.int 0, .int 0, .int 0, .int 0, .int 0, .int 0, .int 0, .int 0])))))) (gO D (gA lay X sz)) (gA lay X sz)) 0 0 (gA lay X sz) := by
  refine g_ofW (cc := cX3_init) (maxL := 1) (ret := none) (own := RX3) (Qc := fun sz => va_Qv (fun Y : GY => Y = (lay, (gU X k (some (.inr (8, [.int 0, .int 0, .int 0, .int 0, .int 0, .int 0, .int 0, .int 0])))))) (gO D (gA lay X sz)) (gA lay X sz)) (by decide) rfl (Nat.le_of_ble_eq_true rfl) rfl ?_
  intro p e s m args below meth c ls hC hr hlocks hname hT G hl
  have hl : lv_has ls 1 [(0, .ref (lay k))] := hl
  have agA_gA : ∀ q, s.heap.size ≤ q → gA lay X s.heap.size q := fun _ h => Or.inr h
  refine lv_aload_n hC.1 hC.2.1 dX3_init_0 rfl (lv_at hl 0 rfl) ?_
  refine W.objInit hC.1 hC.2.1 hC.2.2.2.1 (hC.2.2.2.2 _ (wm 1 rfl)) (hC.2.2.2.2 _ (wm 2 rfl)) (hC.2.2.2.2 _ (wm 3 rfl)) rfl (by rw [hC.2.2.1]; exact hl.1) rfl dX3_init_1 (Nat.le_of_ble_eq_true rfl) (Nat.le_of_ble_eq_true rfl) ?_
  refine W.eq (g2 := F0 m 4 ls []) rfl ?_
  refine lv_aload_n hC.1 hC.2.1 dX3_init_4 rfl (lv_at hl 0 rfl) ?_
  refine lv_iconst (v := 0) hC.1 hC.2.1 dX3_init_5 (by decide) ?_
  refine g_putA rfl hC hT.1 G hk hX k_X3 i_X3_init_X3 0 (by decide) (wm 4 rfl) rfl rfl rfl (by simp) dX3_init_6 (fun H locs G => ?_)
  have G : gG D lay (gU X k (some (.inr (8, [.int 0, .int 0, .int 0, .int 0, .int 0, .int 0, .int 0, .int 0])))) _ s.heap H locs := G
  refine lv_aload_n hC.1 hC.2.1 dX3_init_9 rfl (lv_at hl 0 rfl) ?_
  refine lv_iconst (v := 0) hC.1 hC.2.1 dX3_init_10 (by decide) ?_
  refine g_putA rfl hC hT.1 G hk gU_eq k_X3 i_X3_init_X3 1 (by decide) (wm 5 rfl) rfl rfl rfl (by simp) dX3_init_11 (fun H locs G => ?_)
  have G : gG D lay (gU (gU X k (some (.inr (8, [.int 0, .int 0, .int 0, .int 0, .int 0, .int 0, .int 0, .int 0])))) k (some (.inr (8, [.int 0, .int 0, .int 0, .int 0, .int 0, .int 0, .int 0, .int 0])))) _ s.heap H locs := G
  have G : gG D lay (gU X k (some (.inr (8, [.int 0, .int 0, .int 0, .int 0, .int 0, .int 0, .int 0, .int 0])))) _ s.heap H locs := gG_up2 G
  refine lv_aload_n hC.1 hC.2.1 dX3_init_14 rfl (lv_at hl 0 rfl) ?_
  refine lv_iconst (v := 0) hC.1 hC.2.1 dX3_init_15 (by decide) ?_
  refine g_putA rfl hC hT.1 G hk gU_eq k_X3 i_X3_init_X3 2 (by decide) (wm 6 rfl) rfl rfl rfl (by simp) dX3_init_16 (fun H locs G => ?_)
  have G : gG D lay (gU (gU X k (some (.inr (8, [.int 0, .int 0, .int 0, .int 0, .int 0, .int 0, .int 0, .int 0])))) k (some (.inr (8, [.int 0, .int 0, .int 0, .int 0, .int 0, .int 0, .int 0, .int 0])))) _ s.heap H locs := G
  have G : gG D lay (gU X k (some (.inr (8, [.int 0, .int 0, .int 0, .int 0, .int 0, .int 0, .int 0, .int 0])))) _ s.heap H locs := gG_up2 G
  refine lv_aload_n hC.1 hC.2.1 dX3_init_19 rfl (lv_at hl 0 rfl) ?_
  refine lv_iconst (v := 0) hC.1 hC.2.1 dX3_init_20 (by decide) ?_
  refine g_putA rfl hC hT.1 G hk gU_eq k_X3 i_X3_init_X3 3 (by decide) (wm 7 rfl) rfl rfl rfl (by simp) dX3_init_21 (fun H locs G => ?_)
  have G : gG D lay (gU (gU X k (some (.inr (8, [.int 0, .int 0, .int 0, .int 0, .int 0, .int 0, .int 0, .int 0])))) k (some (.inr (8, [.int 0, .int 0, .int 0, .int 0, .int 0, .int 0, .int 0, .int 0])))) _ s.heap H locs := G
  have G : gG D lay (gU X k (some (.inr (8, [.int 0, .int 0, .int 0, .int 0, .int 0, .int 0, .int 0, .int 0])))) _ s.heap H locs := gG_up2 G
  refine lv_aload_n hC.1 hC.2.1 dX3_init_24 rfl (lv_at hl 0 rfl) ?_
  refine lv_iconst (v := 0) hC.1 hC.2.1 dX3_init_25 (by decide) ?_
  refine g_putA rfl hC hT.1 G hk gU_eq k_X3 i_X3_init_X3 4 (by decide) (wm 8 rfl) rfl rfl rfl (by simp) dX3_init_26 (fun H locs G => ?_)
  have G : gG D lay (gU (gU X k (some (.inr (8, [.int 0, .int 0, .int 0, .int 0, .int 0, .int 0, .int 0, .int 0])))) k (some (.inr (8, [.int 0, .int 0, .int 0, .int 0, .int 0, .int 0, .int 0, .int 0])))) _ s.heap H locs := G
  have G : gG D lay (gU X k (some (.inr (8, [.int 0, .int 0, .int 0, .int 0, .int 0, .int 0, .int 0, .int 0])))) _ s.heap H locs := gG_up2 G
  refine lv_aload_n hC.1 hC.2.1 dX3_init_29 rfl (lv_at hl 0 rfl) ?_
  refine lv_iconst (v := 0) hC.1 hC.2.1 dX3_init_30 (by decide) ?_
  refine g_putA rfl hC hT.1 G hk gU_eq k_X3 i_X3_init_X3 5 (by decide) (wm 9 rfl) rfl rfl rfl (by simp) dX3_init_31 (fun H locs G => ?_)
  have G : gG D lay (gU (gU X k (some (.inr (8, [.int 0, .int 0, .int 0, .int 0, .int 0, .int 0, .int 0, .int 0])))) k (some (.inr (8, [.int 0, .int 0, .int 0, .int 0, .int 0, .int 0, .int 0, .int 0])))) _ s.heap H locs := G
  have G : gG D lay (gU X k (some (.inr (8, [.int 0, .int 0, .int 0, .int 0, .int 0, .int 0, .int 0, .int 0])))) _ s.heap H locs := gG_up2 G
  refine lv_aload_n hC.1 hC.2.1 dX3_init_34 rfl (lv_at hl 0 rfl) ?_
  refine lv_iconst (v := 0) hC.1 hC.2.1 dX3_init_35 (by decide) ?_
  refine g_putA rfl hC hT.1 G hk gU_eq k_X3 i_X3_init_X3 6 (by decide) (wm 10 rfl) rfl rfl rfl (by simp) dX3_init_36 (fun H locs G => ?_)
  have G : gG D lay (gU (gU X k (some (.inr (8, [.int 0, .int 0, .int 0, .int 0, .int 0, .int 0, .int 0, .int 0])))) k (some (.inr (8, [.int 0, .int 0, .int 0, .int 0, .int 0, .int 0, .int 0, .int 0])))) _ s.heap H locs := G
  have G : gG D lay (gU X k (some (.inr (8, [.int 0, .int 0, .int 0, .int 0, .int 0, .int 0, .int 0, .int 0])))) _ s.heap H locs := gG_up2 G
  refine lv_aload_n hC.1 hC.2.1 dX3_init_39 rfl (lv_at hl 0 rfl) ?_
  refine lv_iconst (v := 0) hC.1 hC.2.1 dX3_init_40 (by decide) ?_
  refine g_putA rfl hC hT.1 G hk gU_eq k_X3 i_X3_init_X3 7 (by decide) (wm 11 rfl) rfl rfl rfl (by simp) dX3_init_41 (fun H locs G => ?_)
  have G : gG D lay (gU (gU X k (some (.inr (8, [.int 0, .int 0, .int 0, .int 0, .int 0, .int 0, .int 0, .int 0])))) k (some (.inr (8, [.int 0, .int 0, .int 0, .int 0, .int 0, .int 0, .int 0, .int 0])))) _ s.heap H locs := G
  have G : gG D lay (gU X k (some (.inr (8, [.int 0, .int 0, .int 0, .int 0, .int 0, .int 0, .int 0, .int 0])))) _ s.heap H locs := gG_up2 G
  exact g_vret (Y := (lay, (gU X k (some (.inr (8, [.int 0, .int 0, .int 0, .int 0, .int 0, .int 0, .int 0, .int 0])))))) hC hr hlocks G rfl dX3_init_44
abbrev rm_X5_init : Room := { frames := 1, cells := 0, slots := 0, locals := 16 }
theorem i_X5_init_X5 : ∀ w ∈ wsX50, w ∈ wsX5_init := fun _ h => List.mem_cons_of_mem _ (List.mem_append_right _ h)
set_option maxHeartbeats 4000000 in
set_option maxRecDepth 100000 in
theorem c_X5_init (l : Launch) (D : va_G) (cy : Nat → ClassId) (lay : Nat → Nat) (X : Nat → Option va_E) {k : Nat} (hk : k < 128) (hX : X k = some (.inr (10, [.int 0, .int 0, .int 0, .int 0]))) (a1 : Int32) (sz : Nat) : Met l yX5_init wsX5_init rm_X5_init (va_Pc [.ref (lay k), .int a1] (gIn D cy lay X sz)) (va_Qv (fun Y : GY => Y = (lay, (gU X k (some (.inr (10, [.int a1, .int 5, .int 3, .int 0])))))) (gO D (gA lay X sz)) (gA lay X sz)) 0 0 (gA lay X sz) := by
  refine g_ofW (cc := cX5_init) (maxL := 2) (ret := none) (own := RX5) (Qc := fun sz => va_Qv (fun Y : GY => Y = (lay, (gU X k (some (.inr (10, [.int a1, .int 5, .int 3, .int 0])))))) (gO D (gA lay X sz)) (gA lay X sz)) (by decide) rfl (Nat.le_of_ble_eq_true rfl) rfl ?_
  intro p e s m args below meth c ls hC hr hlocks hname hT G hl
  have hl : lv_has ls 2 [(0, .ref (lay k)), (1, .int a1)] := hl
  have agA_gA : ∀ q, s.heap.size ≤ q → gA lay X s.heap.size q := fun _ h => Or.inr h
  refine lv_aload_n hC.1 hC.2.1 dX5_init_0 rfl (lv_at hl 0 rfl) ?_
  refine W.objInit hC.1 hC.2.1 hC.2.2.2.1 (hC.2.2.2.2 _ (wm 1 rfl)) (hC.2.2.2.2 _ (wm 2 rfl)) (hC.2.2.2.2 _ (wm 3 rfl)) rfl (by rw [hC.2.2.1]; exact hl.1) rfl dX5_init_1 (Nat.le_of_ble_eq_true rfl) (Nat.le_of_ble_eq_true rfl) ?_
  refine W.eq (g2 := F0 m 4 ls []) rfl ?_
  refine lv_aload_n hC.1 hC.2.1 dX5_init_4 rfl (lv_at hl 0 rfl) ?_
  refine lv_iconst (v := 5) hC.1 hC.2.1 dX5_init_5 (by decide) ?_
  refine g_putA rfl hC hT.1 G hk hX k_X5 i_X5_init_X5 1 (by decide) (wm 4 rfl) rfl rfl rfl (by simp) dX5_init_6 (fun H locs G => ?_)
  have G : gG D lay (gU X k (some (.inr (10, [.int 0, .int 5, .int 0, .int 0])))) _ s.heap H locs := G
  refine lv_aload_n hC.1 hC.2.1 dX5_init_9 rfl (lv_at hl 0 rfl) ?_
  refine lv_iconst (v := 3) hC.1 hC.2.1 dX5_init_10 (by decide) ?_
  refine g_putA rfl hC hT.1 G hk gU_eq k_X5 i_X5_init_X5 2 (by decide) (wm 5 rfl) rfl rfl rfl (by simp) dX5_init_11 (fun H locs G => ?_)
  have G : gG D lay (gU (gU X k (some (.inr (10, [.int 0, .int 5, .int 0, .int 0])))) k (some (.inr (10, [.int 0, .int 5, .int 3, .int 0])))) _ s.heap H locs := G
  have G : gG D lay (gU X k (some (.inr (10, [.int 0, .int 5, .int 3, .int 0])))) _ s.heap H locs := gG_up2 G
  refine lv_aload_n hC.1 hC.2.1 dX5_init_14 rfl (lv_at hl 0 rfl) ?_
  refine lv_iconst (v := 0) hC.1 hC.2.1 dX5_init_15 (by decide) ?_
  refine g_putA rfl hC hT.1 G hk gU_eq k_X5 i_X5_init_X5 3 (by decide) (wm 6 rfl) rfl rfl rfl (by simp) dX5_init_16 (fun H locs G => ?_)
  have G : gG D lay (gU (gU X k (some (.inr (10, [.int 0, .int 5, .int 3, .int 0])))) k (some (.inr (10, [.int 0, .int 5, .int 3, .int 0])))) _ s.heap H locs := G
  have G : gG D lay (gU X k (some (.inr (10, [.int 0, .int 5, .int 3, .int 0])))) _ s.heap H locs := gG_up2 G
  refine lv_aload_n hC.1 hC.2.1 dX5_init_19 rfl (lv_at hl 0 rfl) ?_
  refine lv_iload_n hC.1 hC.2.1 dX5_init_20 rfl (lv_at hl 1 rfl) ?_
  refine g_putA rfl hC hT.1 G hk gU_eq k_X5 i_X5_init_X5 0 (by decide) (wm 7 rfl) rfl rfl rfl (by simp) dX5_init_21 (fun H locs G => ?_)
  have G : gG D lay (gU (gU X k (some (.inr (10, [.int 0, .int 5, .int 3, .int 0])))) k (some (.inr (10, [.int a1, .int 5, .int 3, .int 0])))) _ s.heap H locs := G
  have G : gG D lay (gU X k (some (.inr (10, [.int a1, .int 5, .int 3, .int 0])))) _ s.heap H locs := gG_up2 G
  exact g_vret (Y := (lay, (gU X k (some (.inr (10, [.int a1, .int 5, .int 3, .int 0])))))) hC hr hlocks G rfl dX5_init_24
abbrev rm_X6_init : Room := { frames := 1, cells := 0, slots := 0, locals := 16 }
theorem i_X6_init_X6 : ∀ w ∈ wsX60, w ∈ wsX6_init := fun _ h => List.mem_cons_of_mem _ (List.mem_append_right _ h)
set_option maxHeartbeats 4000000 in
set_option maxRecDepth 100000 in
theorem c_X6_init (l : Launch) (D : va_G) (cy : Nat → ClassId) (lay : Nat → Nat) (X : Nat → Option va_E) {k : Nat} (hk : k < 128) (hX : X k = some (.inr (11, [.int 0, .int 0, .int 0, .int 0, .int 0, .int 0, .int 0, .int 0, .int 0, .int 0, .int 0, .int 0]))) (sz : Nat) : Met l yX6_init wsX6_init rm_X6_init (va_Pc [.ref (lay k)] (gIn D cy lay X sz)) (va_Qv (fun Y : GY => Y = (lay, (gU X k (some (.inr (11, [.int 0, .int 0, .int 0, .int 0, .int 0, .int 0, .int 0, .int 0, .int 0, .int 0, .int 0, .int 0])))))) (gO D (gA lay X sz)) (gA lay X sz)) 0 0 (gA lay X sz) := by
  refine g_ofW (cc := cX6_init) (maxL := 1) (ret := none) (own := RX6) (Qc := fun sz => va_Qv (fun Y : GY => Y = (lay, (gU X k (some (.inr (11, [.int 0, .int 0, .int 0, .int 0, .int 0, .int 0, .int 0, .int 0, .int 0, .int 0, .int 0, .int 0])))))) (gO D (gA lay X sz)) (gA lay X sz)) (by decide) rfl (Nat.le_of_ble_eq_true rfl) rfl ?_
  intro p e s m args below meth c ls hC hr hlocks hname hT G hl
  have hl : lv_has ls 1 [(0, .ref (lay k))] := hl
  have agA_gA : ∀ q, s.heap.size ≤ q → gA lay X s.heap.size q := fun _ h => Or.inr h
  refine lv_aload_n hC.1 hC.2.1 dX6_init_0 rfl (lv_at hl 0 rfl) ?_
  refine W.objInit hC.1 hC.2.1 hC.2.2.2.1 (hC.2.2.2.2 _ (wm 1 rfl)) (hC.2.2.2.2 _ (wm 2 rfl)) (hC.2.2.2.2 _ (wm 3 rfl)) rfl (by rw [hC.2.2.1]; exact hl.1) rfl dX6_init_1 (Nat.le_of_ble_eq_true rfl) (Nat.le_of_ble_eq_true rfl) ?_
  refine W.eq (g2 := F0 m 4 ls []) rfl ?_
  refine lv_aload_n hC.1 hC.2.1 dX6_init_4 rfl (lv_at hl 0 rfl) ?_
  refine lv_iconst (v := 0) hC.1 hC.2.1 dX6_init_5 (by decide) ?_
  refine g_putA rfl hC hT.1 G hk hX k_X6 i_X6_init_X6 0 (by decide) (wm 4 rfl) rfl rfl rfl (by simp) dX6_init_6 (fun H locs G => ?_)
  have G : gG D lay (gU X k (some (.inr (11, [.int 0, .int 0, .int 0, .int 0, .int 0, .int 0, .int 0, .int 0, .int 0, .int 0, .int 0, .int 0])))) _ s.heap H locs := G
  refine lv_aload_n hC.1 hC.2.1 dX6_init_9 rfl (lv_at hl 0 rfl) ?_
  refine lv_iconst (v := 0) hC.1 hC.2.1 dX6_init_10 (by decide) ?_
  refine g_putA rfl hC hT.1 G hk gU_eq k_X6 i_X6_init_X6 1 (by decide) (wm 5 rfl) rfl rfl rfl (by simp) dX6_init_11 (fun H locs G => ?_)
  have G : gG D lay (gU (gU X k (some (.inr (11, [.int 0, .int 0, .int 0, .int 0, .int 0, .int 0, .int 0, .int 0, .int 0, .int 0, .int 0, .int 0])))) k (some (.inr (11, [.int 0, .int 0, .int 0, .int 0, .int 0, .int 0, .int 0, .int 0, .int 0, .int 0, .int 0, .int 0])))) _ s.heap H locs := G
  have G : gG D lay (gU X k (some (.inr (11, [.int 0, .int 0, .int 0, .int 0, .int 0, .int 0, .int 0, .int 0, .int 0, .int 0, .int 0, .int 0])))) _ s.heap H locs := gG_up2 G
  refine lv_aload_n hC.1 hC.2.1 dX6_init_14 rfl (lv_at hl 0 rfl) ?_
  refine lv_iconst (v := 0) hC.1 hC.2.1 dX6_init_15 (by decide) ?_
  refine g_putA rfl hC hT.1 G hk gU_eq k_X6 i_X6_init_X6 2 (by decide) (wm 6 rfl) rfl rfl rfl (by simp) dX6_init_16 (fun H locs G => ?_)
  have G : gG D lay (gU (gU X k (some (.inr (11, [.int 0, .int 0, .int 0, .int 0, .int 0, .int 0, .int 0, .int 0, .int 0, .int 0, .int 0, .int 0])))) k (some (.inr (11, [.int 0, .int 0, .int 0, .int 0, .int 0, .int 0, .int 0, .int 0, .int 0, .int 0, .int 0, .int 0])))) _ s.heap H locs := G
  have G : gG D lay (gU X k (some (.inr (11, [.int 0, .int 0, .int 0, .int 0, .int 0, .int 0, .int 0, .int 0, .int 0, .int 0, .int 0, .int 0])))) _ s.heap H locs := gG_up2 G
  refine lv_aload_n hC.1 hC.2.1 dX6_init_19 rfl (lv_at hl 0 rfl) ?_
  refine lv_iconst (v := 0) hC.1 hC.2.1 dX6_init_20 (by decide) ?_
  refine g_putA rfl hC hT.1 G hk gU_eq k_X6 i_X6_init_X6 3 (by decide) (wm 7 rfl) rfl rfl rfl (by simp) dX6_init_21 (fun H locs G => ?_)
  have G : gG D lay (gU (gU X k (some (.inr (11, [.int 0, .int 0, .int 0, .int 0, .int 0, .int 0, .int 0, .int 0, .int 0, .int 0, .int 0, .int 0])))) k (some (.inr (11, [.int 0, .int 0, .int 0, .int 0, .int 0, .int 0, .int 0, .int 0, .int 0, .int 0, .int 0, .int 0])))) _ s.heap H locs := G
  have G : gG D lay (gU X k (some (.inr (11, [.int 0, .int 0, .int 0, .int 0, .int 0, .int 0, .int 0, .int 0, .int 0, .int 0, .int 0, .int 0])))) _ s.heap H locs := gG_up2 G
  refine lv_aload_n hC.1 hC.2.1 dX6_init_24 rfl (lv_at hl 0 rfl) ?_
  refine lv_iconst (v := 0) hC.1 hC.2.1 dX6_init_25 (by decide) ?_
  refine g_putA rfl hC hT.1 G hk gU_eq k_X6 i_X6_init_X6 4 (by decide) (wm 8 rfl) rfl rfl rfl (by simp) dX6_init_26 (fun H locs G => ?_)
  have G : gG D lay (gU (gU X k (some (.inr (11, [.int 0, .int 0, .int 0, .int 0, .int 0, .int 0, .int 0, .int 0, .int 0, .int 0, .int 0, .int 0])))) k (some (.inr (11, [.int 0, .int 0, .int 0, .int 0, .int 0, .int 0, .int 0, .int 0, .int 0, .int 0, .int 0, .int 0])))) _ s.heap H locs := G
  have G : gG D lay (gU X k (some (.inr (11, [.int 0, .int 0, .int 0, .int 0, .int 0, .int 0, .int 0, .int 0, .int 0, .int 0, .int 0, .int 0])))) _ s.heap H locs := gG_up2 G
  refine lv_aload_n hC.1 hC.2.1 dX6_init_29 rfl (lv_at hl 0 rfl) ?_
  refine lv_iconst (v := 0) hC.1 hC.2.1 dX6_init_30 (by decide) ?_
  refine g_putA rfl hC hT.1 G hk gU_eq k_X6 i_X6_init_X6 5 (by decide) (wm 9 rfl) rfl rfl rfl (by simp) dX6_init_31 (fun H locs G => ?_)
  have G : gG D lay (gU (gU X k (some (.inr (11, [.int 0, .int 0, .int 0, .int 0, .int 0, .int 0, .int 0, .int 0, .int 0, .int 0, .int 0, .int 0])))) k (some (.inr (11, [.int 0, .int 0, .int 0, .int 0, .int 0, .int 0, .int 0, .int 0, .int 0, .int 0, .int 0, .int 0])))) _ s.heap H locs := G
  have G : gG D lay (gU X k (some (.inr (11, [.int 0, .int 0, .int 0, .int 0, .int 0, .int 0, .int 0, .int 0, .int 0, .int 0, .int 0, .int 0])))) _ s.heap H locs := gG_up2 G
  refine lv_aload_n hC.1 hC.2.1 dX6_init_34 rfl (lv_at hl 0 rfl) ?_
  refine lv_iconst (v := 0) hC.1 hC.2.1 dX6_init_35 (by decide) ?_
  refine g_putA rfl hC hT.1 G hk gU_eq k_X6 i_X6_init_X6 6 (by decide) (wm 10 rfl) rfl rfl rfl (by simp) dX6_init_36 (fun H locs G => ?_)
  have G : gG D lay (gU (gU X k (some (.inr (11, [.int 0, .int 0, .int 0, .int 0, .int 0, .int 0, .int 0, .int 0, .int 0, .int 0, .int 0, .int 0])))) k (some (.inr (11, [.int 0, .int 0, .int 0, .int 0, .int 0, .int 0, .int 0, .int 0, .int 0, .int 0, .int 0, .int 0])))) _ s.heap H locs := G
  have G : gG D lay (gU X k (some (.inr (11, [.int 0, .int 0, .int 0, .int 0, .int 0, .int 0, .int 0, .int 0, .int 0, .int 0, .int 0, .int 0])))) _ s.heap H locs := gG_up2 G
  refine lv_aload_n hC.1 hC.2.1 dX6_init_39 rfl (lv_at hl 0 rfl) ?_
  refine lv_iconst (v := 0) hC.1 hC.2.1 dX6_init_40 (by decide) ?_
  refine g_putA rfl hC hT.1 G hk gU_eq k_X6 i_X6_init_X6 7 (by decide) (wm 11 rfl) rfl rfl rfl (by simp) dX6_init_41 (fun H locs G => ?_)
  have G : gG D lay (gU (gU X k (some (.inr (11, [.int 0, .int 0, .int 0, .int 0, .int 0, .int 0, .int 0, .int 0, .int 0, .int 0, .int 0, .int 0])))) k (some (.inr (11, [.int 0, .int 0, .int 0, .int 0, .int 0, .int 0, .int 0, .int 0, .int 0, .int 0, .int 0, .int 0])))) _ s.heap H locs := G
  have G : gG D lay (gU X k (some (.inr (11, [.int 0, .int 0, .int 0, .int 0, .int 0, .int 0, .int 0, .int 0, .int 0, .int 0, .int 0, .int 0])))) _ s.heap H locs := gG_up2 G
  refine lv_aload_n hC.1 hC.2.1 dX6_init_44 rfl (lv_at hl 0 rfl) ?_
  refine lv_iconst (v := 0) hC.1 hC.2.1 dX6_init_45 (by decide) ?_
  refine g_putA rfl hC hT.1 G hk gU_eq k_X6 i_X6_init_X6 8 (by decide) (wm 12 rfl) rfl rfl rfl (by simp) dX6_init_46 (fun H locs G => ?_)
  have G : gG D lay (gU (gU X k (some (.inr (11, [.int 0, .int 0, .int 0, .int 0, .int 0, .int 0, .int 0, .int 0, .int 0, .int 0, .int 0, .int 0])))) k (some (.inr (11, [.int 0, .int 0, .int 0, .int 0, .int 0, .int 0, .int 0, .int 0, .int 0, .int 0, .int 0, .int 0])))) _ s.heap H locs := G
  have G : gG D lay (gU X k (some (.inr (11, [.int 0, .int 0, .int 0, .int 0, .int 0, .int 0, .int 0, .int 0, .int 0, .int 0, .int 0, .int 0])))) _ s.heap H locs := gG_up2 G
  refine lv_aload_n hC.1 hC.2.1 dX6_init_49 rfl (lv_at hl 0 rfl) ?_
  refine lv_iconst (v := 0) hC.1 hC.2.1 dX6_init_50 (by decide) ?_
  refine g_putA rfl hC hT.1 G hk gU_eq k_X6 i_X6_init_X6 9 (by decide) (wm 13 rfl) rfl rfl rfl (by simp) dX6_init_51 (fun H locs G => ?_)
  have G : gG D lay (gU (gU X k (some (.inr (11, [.int 0, .int 0, .int 0, .int 0, .int 0, .int 0, .int 0, .int 0, .int 0, .int 0, .int 0, .int 0])))) k (some (.inr (11, [.int 0, .int 0, .int 0, .int 0, .int 0, .int 0, .int 0, .int 0, .int 0, .int 0, .int 0, .int 0])))) _ s.heap H locs := G
  have G : gG D lay (gU X k (some (.inr (11, [.int 0, .int 0, .int 0, .int 0, .int 0, .int 0, .int 0, .int 0, .int 0, .int 0, .int 0, .int 0])))) _ s.heap H locs := gG_up2 G
  refine lv_aload_n hC.1 hC.2.1 dX6_init_54 rfl (lv_at hl 0 rfl) ?_
  refine lv_iconst (v := 0) hC.1 hC.2.1 dX6_init_55 (by decide) ?_
  refine g_putA rfl hC hT.1 G hk gU_eq k_X6 i_X6_init_X6 10 (by decide) (wm 14 rfl) rfl rfl rfl (by simp) dX6_init_56 (fun H locs G => ?_)
  have G : gG D lay (gU (gU X k (some (.inr (11, [.int 0, .int 0, .int 0, .int 0, .int 0, .int 0, .int 0, .int 0, .int 0, .int 0, .int 0, .int 0])))) k (some (.inr (11, [.int 0, .int 0, .int 0, .int 0, .int 0, .int 0, .int 0, .int 0, .int 0, .int 0, .int 0, .int 0])))) _ s.heap H locs := G
  have G : gG D lay (gU X k (some (.inr (11, [.int 0, .int 0, .int 0, .int 0, .int 0, .int 0, .int 0, .int 0, .int 0, .int 0, .int 0, .int 0])))) _ s.heap H locs := gG_up2 G
  refine lv_aload_n hC.1 hC.2.1 dX6_init_59 rfl (lv_at hl 0 rfl) ?_
  refine lv_iconst (v := 0) hC.1 hC.2.1 dX6_init_60 (by decide) ?_
  refine g_putA rfl hC hT.1 G hk gU_eq k_X6 i_X6_init_X6 11 (by decide) (wm 15 rfl) rfl rfl rfl (by simp) dX6_init_61 (fun H locs G => ?_)
  have G : gG D lay (gU (gU X k (some (.inr (11, [.int 0, .int 0, .int 0, .int 0, .int 0, .int 0, .int 0, .int 0, .int 0, .int 0, .int 0, .int 0])))) k (some (.inr (11, [.int 0, .int 0, .int 0, .int 0, .int 0, .int 0, .int 0, .int 0, .int 0, .int 0, .int 0, .int 0])))) _ s.heap H locs := G
  have G : gG D lay (gU X k (some (.inr (11, [.int 0, .int 0, .int 0, .int 0, .int 0, .int 0, .int 0, .int 0, .int 0, .int 0, .int 0, .int 0])))) _ s.heap H locs := gG_up2 G
  exact g_vret (Y := (lay, (gU X k (some (.inr (11, [.int 0, .int 0, .int 0, .int 0, .int 0, .int 0, .int 0, .int 0, .int 0, .int 0, .int 0, .int 0])))))) hC hr hlocks G rfl dX6_init_64
abbrev rm_X2_init : Room := { frames := 1, cells := 0, slots := 0, locals := 16 }
theorem i_X2_init_X2 : ∀ w ∈ wsX20, w ∈ wsX2_init := fun _ h => List.mem_cons_of_mem _ (List.mem_append_right _ h)
set_option maxHeartbeats 4000000 in
set_option maxRecDepth 100000 in
theorem c_X2_init (l : Launch) (D : va_G) (cy : Nat → ClassId) (lay : Nat → Nat) (X : Nat → Option va_E) {k : Nat} (hk : k < 128) (hX : X k = some (.inr (7, [.int 0, .int 0, .int 0, .int 0, .int 0, .int 0]))) (sz : Nat) : Met l yX2_init wsX2_init rm_X2_init (va_Pc [.ref (lay k)] (gIn D cy lay X sz)) (va_Qv (fun Y : GY => Y = (lay, (gU X k (some (.inr (7, [.int (-1), .int (-1), .int 0, .int 0, .int 0, .int 0])))))) (gO D (gA lay X sz)) (gA lay X sz)) 0 0 (gA lay X sz) := by
  refine g_ofW (cc := cX2_init) (maxL := 1) (ret := none) (own := RX2) (Qc := fun sz => va_Qv (fun Y : GY => Y = (lay, (gU X k (some (.inr (7, [.int (-1), .int (-1), .int 0, .int 0, .int 0, .int 0])))))) (gO D (gA lay X sz)) (gA lay X sz)) (by decide) rfl (Nat.le_of_ble_eq_true rfl) rfl ?_
  intro p e s m args below meth c ls hC hr hlocks hname hT G hl
  have hl : lv_has ls 1 [(0, .ref (lay k))] := hl
  have agA_gA : ∀ q, s.heap.size ≤ q → gA lay X s.heap.size q := fun _ h => Or.inr h
  refine lv_aload_n hC.1 hC.2.1 dX2_init_0 rfl (lv_at hl 0 rfl) ?_
  refine W.objInit hC.1 hC.2.1 hC.2.2.2.1 (hC.2.2.2.2 _ (wm 1 rfl)) (hC.2.2.2.2 _ (wm 2 rfl)) (hC.2.2.2.2 _ (wm 3 rfl)) rfl (by rw [hC.2.2.1]; exact hl.1) rfl dX2_init_1 (Nat.le_of_ble_eq_true rfl) (Nat.le_of_ble_eq_true rfl) ?_
  refine W.eq (g2 := F0 m 4 ls []) rfl ?_
  refine lv_aload_n hC.1 hC.2.1 dX2_init_4 rfl (lv_at hl 0 rfl) ?_
  refine lv_iconst (v := (-1)) hC.1 hC.2.1 dX2_init_5 (by decide) ?_
  refine g_putA rfl hC hT.1 G hk hX k_X2 i_X2_init_X2 0 (by decide) (wm 4 rfl) rfl rfl rfl (by simp) dX2_init_6 (fun H locs G => ?_)
  have G : gG D lay (gU X k (some (.inr (7, [.int (-1), .int 0, .int 0, .int 0, .int 0, .int 0])))) _ s.heap H locs := G
  refine lv_aload_n hC.1 hC.2.1 dX2_init_9 rfl (lv_at hl 0 rfl) ?_
  refine lv_iconst (v := (-1)) hC.1 hC.2.1 dX2_init_10 (by decide) ?_
  refine g_putA rfl hC hT.1 G hk gU_eq k_X2 i_X2_init_X2 1 (by decide) (wm 5 rfl) rfl rfl rfl (by simp) dX2_init_11 (fun H locs G => ?_)
  have G : gG D lay (gU (gU X k (some (.inr (7, [.int (-1), .int 0, .int 0, .int 0, .int 0, .int 0])))) k (some (.inr (7, [.int (-1), .int (-1), .int 0, .int 0, .int 0, .int 0])))) _ s.heap H locs := G
  have G : gG D lay (gU X k (some (.inr (7, [.int (-1), .int (-1), .int 0, .int 0, .int 0, .int 0])))) _ s.heap H locs := gG_up2 G
  refine lv_aload_n hC.1 hC.2.1 dX2_init_14 rfl (lv_at hl 0 rfl) ?_
  refine lv_iconst (v := 0) hC.1 hC.2.1 dX2_init_15 (by decide) ?_
  refine g_putA rfl hC hT.1 G hk gU_eq k_X2 i_X2_init_X2 2 (by decide) (wm 6 rfl) rfl rfl rfl (by simp) dX2_init_16 (fun H locs G => ?_)
  have G : gG D lay (gU (gU X k (some (.inr (7, [.int (-1), .int (-1), .int 0, .int 0, .int 0, .int 0])))) k (some (.inr (7, [.int (-1), .int (-1), .int 0, .int 0, .int 0, .int 0])))) _ s.heap H locs := G
  have G : gG D lay (gU X k (some (.inr (7, [.int (-1), .int (-1), .int 0, .int 0, .int 0, .int 0])))) _ s.heap H locs := gG_up2 G
  refine lv_aload_n hC.1 hC.2.1 dX2_init_19 rfl (lv_at hl 0 rfl) ?_
  refine lv_iconst (v := 0) hC.1 hC.2.1 dX2_init_20 (by decide) ?_
  refine g_putA rfl hC hT.1 G hk gU_eq k_X2 i_X2_init_X2 3 (by decide) (wm 7 rfl) rfl rfl rfl (by simp) dX2_init_21 (fun H locs G => ?_)
  have G : gG D lay (gU (gU X k (some (.inr (7, [.int (-1), .int (-1), .int 0, .int 0, .int 0, .int 0])))) k (some (.inr (7, [.int (-1), .int (-1), .int 0, .int 0, .int 0, .int 0])))) _ s.heap H locs := G
  have G : gG D lay (gU X k (some (.inr (7, [.int (-1), .int (-1), .int 0, .int 0, .int 0, .int 0])))) _ s.heap H locs := gG_up2 G
  refine lv_aload_n hC.1 hC.2.1 dX2_init_24 rfl (lv_at hl 0 rfl) ?_
  refine lv_iconst (v := 0) hC.1 hC.2.1 dX2_init_25 (by decide) ?_
  refine g_putA rfl hC hT.1 G hk gU_eq k_X2 i_X2_init_X2 4 (by decide) (wm 8 rfl) rfl rfl rfl (by simp) dX2_init_26 (fun H locs G => ?_)
  have G : gG D lay (gU (gU X k (some (.inr (7, [.int (-1), .int (-1), .int 0, .int 0, .int 0, .int 0])))) k (some (.inr (7, [.int (-1), .int (-1), .int 0, .int 0, .int 0, .int 0])))) _ s.heap H locs := G
  have G : gG D lay (gU X k (some (.inr (7, [.int (-1), .int (-1), .int 0, .int 0, .int 0, .int 0])))) _ s.heap H locs := gG_up2 G
  refine lv_aload_n hC.1 hC.2.1 dX2_init_29 rfl (lv_at hl 0 rfl) ?_
  refine lv_iconst (v := 0) hC.1 hC.2.1 dX2_init_30 (by decide) ?_
  refine g_putA rfl hC hT.1 G hk gU_eq k_X2 i_X2_init_X2 5 (by decide) (wm 9 rfl) rfl rfl rfl (by simp) dX2_init_31 (fun H locs G => ?_)
  have G : gG D lay (gU (gU X k (some (.inr (7, [.int (-1), .int (-1), .int 0, .int 0, .int 0, .int 0])))) k (some (.inr (7, [.int (-1), .int (-1), .int 0, .int 0, .int 0, .int 0])))) _ s.heap H locs := G
  have G : gG D lay (gU X k (some (.inr (7, [.int (-1), .int (-1), .int 0, .int 0, .int 0, .int 0])))) _ s.heap H locs := gG_up2 G
  exact g_vret (Y := (lay, (gU X k (some (.inr (7, [.int (-1), .int (-1), .int 0, .int 0, .int 0, .int 0])))))) hC hr hlocks G rfl dX2_init_34
abbrev rm_X0_init : Room := { frames := 1, cells := 2, slots := 11, locals := 16 }
theorem i_X0_init_X0 : ∀ w ∈ wsX00, w ∈ wsX0_init := fun _ h => List.mem_cons_of_mem _ (List.mem_append_right _ h)
set_option maxHeartbeats 4000000 in
set_option maxRecDepth 100000 in
theorem c_X0_init (l : Launch) (D : va_G) (cy : Nat → ClassId) (lay : Nat → Nat) (X : Nat → Option va_E) {k : Nat} (hk : k < 128) (hX : X k = some (.inr (5, [.null, .null, .int 0]))) {k1 : Nat} (hk1 : X k1 = none) {k2 : Nat} (hk2 : X k2 = none) (h_k_k1 : k ≠ k1) (h_k_k2 : k ≠ k2) (h_k1_k : k1 ≠ k) (h_k1_k2 : k1 ≠ k2) (h_k2_k : k2 ≠ k) (h_k2_k1 : k2 ≠ k1) (sz : Nat) : Met l yX0_init wsX0_init rm_X0_init (va_Pc [.ref (lay k)] (gIn D cy lay X sz)) (va_Qv (fun Y : GY => ∃ q1 : Nat, ∃ q2 : Nat, Y = ((gU (gU lay k1 q1) k2 q2), (gU (gU (gU (gU X k1 (some (.inl (cy 0, 6, .inl (fun _ => 0))))) k (some (.inr (5, [.ref q1, .null, .int 0])))) k2 (some (.inl (cy 0, 5, .inl (fun _ => 0))))) k (some (.inr (5, [.ref q1, .ref q2, .int 0])))))) (gO D (gA lay X sz)) (gA lay X sz)) 2 11 (gA lay X sz) := by
  refine g_ofW (cc := cX0_init) (maxL := 1) (ret := none) (own := RX0) (Qc := fun sz => va_Qv (fun Y : GY => ∃ q1 : Nat, ∃ q2 : Nat, Y = ((gU (gU lay k1 q1) k2 q2), (gU (gU (gU (gU X k1 (some (.inl (cy 0, 6, .inl (fun _ => 0))))) k (some (.inr (5, [.ref q1, .null, .int 0])))) k2 (some (.inl (cy 0, 5, .inl (fun _ => 0))))) k (some (.inr (5, [.ref q1, .ref q2, .int 0])))))) (gO D (gA lay X sz)) (gA lay X sz)) (by decide) rfl (Nat.le_of_ble_eq_true rfl) rfl ?_
  intro p e s m args below meth c ls hC hr hlocks hname hT G hl
  have hl : lv_has ls 1 [(0, .ref (lay k))] := hl
  have agA_gA : ∀ q, s.heap.size ≤ q → gA lay X s.heap.size q := fun _ h => Or.inr h
  refine lv_aload_n hC.1 hC.2.1 dX0_init_0 rfl (lv_at hl 0 rfl) ?_
  refine W.objInit hC.1 hC.2.1 hC.2.2.2.1 (hC.2.2.2.2 _ (wm 1 rfl)) (hC.2.2.2.2 _ (wm 2 rfl)) (hC.2.2.2.2 _ (wm 3 rfl)) rfl (by rw [hC.2.2.1]; exact hl.1) rfl dX0_init_1 (Nat.le_of_ble_eq_true rfl) (Nat.le_of_ble_eq_true rfl) ?_
  refine W.eq (g2 := F0 m 4 ls []) rfl ?_
  refine lv_aload_n hC.1 hC.2.1 dX0_init_4 rfl (lv_at hl 0 rfl) ?_
  refine lv_bipush (v := 6) hC.1 hC.2.1 dX0_init_5 (by decide) ?_
  refine g_newa_i (k := k1) (N := 6) hC hT G agA_gA hk1 (wm 4 rfl) (by decide) (by decide) (by decide) (Nat.le_of_ble_eq_true rfl) (Nat.le_of_ble_eq_true rfl) dX0_init_7 (fun q1 H G => ?_)
  rw [gU_eq]
  refine g_putFA ((gU_ne h_k_k1).trans rfl) hC hT.1 G hk ((gU_ne h_k_k1).trans hX) k_X0 i_X0_init_X0 0 (by decide) (wm 5 rfl) rfl hname rfl rfl rfl (by simp) dX0_init_9 (fun H locs G => ?_)
  have G : gG D (gU lay k1 q1) (gU (gU X k1 (some (.inl (cy 0, 6, .inl (fun _ => 0))))) k (some (.inr (5, [.ref q1, .null, .int 0])))) _ s.heap H locs := G
  refine lv_aload_n hC.1 hC.2.1 dX0_init_12 rfl (lv_at hl 0 rfl) ?_
  refine lv_iconst (v := 5) hC.1 hC.2.1 dX0_init_13 (by decide) ?_
  refine g_newa_i (k := k2) (N := 5) hC hT G agA_gA ((gU_ne h_k2_k).trans ((gU_ne h_k2_k1).trans hk2)) (wm 4 rfl) (by decide) (by decide) (by decide) (Nat.le_of_ble_eq_true rfl) (Nat.le_of_ble_eq_true rfl) dX0_init_14 (fun q2 H G => ?_)
  rw [gU_eq]
  refine g_putFA ((gU_ne h_k_k2).trans ((gU_ne h_k_k1).trans rfl)) hC hT.1 G hk ((gU_ne h_k_k2).trans gU_eq) k_X0 i_X0_init_X0 1 (by decide) (wm 6 rfl) rfl hname rfl rfl rfl (by simp) dX0_init_16 (fun H locs G => ?_)
  have G : gG D (gU (gU lay k1 q1) k2 q2) (gU (gU (gU (gU X k1 (some (.inl (cy 0, 6, .inl (fun _ => 0))))) k (some (.inr (5, [.ref q1, .null, .int 0])))) k2 (some (.inl (cy 0, 5, .inl (fun _ => 0))))) k (some (.inr (5, [.ref q1, .ref q2, .int 0])))) _ s.heap H locs := G
  refine lv_aload_n hC.1 hC.2.1 dX0_init_19 rfl (lv_at hl 0 rfl) ?_
  refine lv_iconst (v := 0) hC.1 hC.2.1 dX0_init_20 (by decide) ?_
  refine g_putA ((gU_ne h_k_k2).trans ((gU_ne h_k_k1).trans rfl)) hC hT.1 G hk gU_eq k_X0 i_X0_init_X0 2 (by decide) (wm 7 rfl) rfl rfl rfl (by simp) dX0_init_21 (fun H locs G => ?_)
  have G : gG D (gU (gU lay k1 q1) k2 q2) (gU (gU (gU (gU (gU X k1 (some (.inl (cy 0, 6, .inl (fun _ => 0))))) k (some (.inr (5, [.ref q1, .null, .int 0])))) k2 (some (.inl (cy 0, 5, .inl (fun _ => 0))))) k (some (.inr (5, [.ref q1, .ref q2, .int 0])))) k (some (.inr (5, [.ref q1, .ref q2, .int 0])))) _ s.heap H locs := G
  have G : gG D (gU (gU lay k1 q1) k2 q2) (gU (gU (gU (gU X k1 (some (.inl (cy 0, 6, .inl (fun _ => 0))))) k (some (.inr (5, [.ref q1, .null, .int 0])))) k2 (some (.inl (cy 0, 5, .inl (fun _ => 0))))) k (some (.inr (5, [.ref q1, .ref q2, .int 0])))) _ s.heap H locs := gG_up2 G
  exact g_vret (Y := ((gU (gU lay k1 q1) k2 q2), (gU (gU (gU (gU X k1 (some (.inl (cy 0, 6, .inl (fun _ => 0))))) k (some (.inr (5, [.ref q1, .null, .int 0])))) k2 (some (.inl (cy 0, 5, .inl (fun _ => 0))))) k (some (.inr (5, [.ref q1, .ref q2, .int 0])))))) hC hr hlocks G ⟨q1, q2, rfl⟩ dX0_init_24
abbrev rm_X1_init : Room := { frames := 1, cells := 4, slots := 64, locals := 16 }
theorem i_X1_init_X1 : ∀ w ∈ wsX10, w ∈ wsX1_init := fun _ h => List.mem_cons_of_mem _ (List.mem_append_right _ h)
set_option maxHeartbeats 4000000 in
set_option maxRecDepth 100000 in
theorem c_X1_init (l : Launch) (D : va_G) (cy : Nat → ClassId) (lay : Nat → Nat) (X : Nat → Option va_E) {k : Nat} (hk : k < 128) (hX : X k = some (.inr (6, [.null, .int 0, .int 0, .null, .null, .null, .int 0]))) {k1 : Nat} (hk1 : X k1 = none) {k2 : Nat} (hk2 : X k2 = none) {k3 : Nat} (hk3 : X k3 = none) {k4 : Nat} (hk4 : X k4 = none) (h_k_k1 : k ≠ k1) (h_k_k2 : k ≠ k2) (h_k_k3 : k ≠ k3) (h_k_k4 : k ≠ k4) (h_k1_k : k1 ≠ k) (h_k1_k2 : k1 ≠ k2) (h_k1_k3 : k1 ≠ k3) (h_k1_k4 : k1 ≠ k4) (h_k2_k : k2 ≠ k) (h_k2_k1 : k2 ≠ k1) (h_k2_k3 : k2 ≠ k3) (h_k2_k4 : k2 ≠ k4) (h_k3_k : k3 ≠ k) (h_k3_k1 : k3 ≠ k1) (h_k3_k2 : k3 ≠ k2) (h_k3_k4 : k3 ≠ k4) (h_k4_k : k4 ≠ k) (h_k4_k1 : k4 ≠ k1) (h_k4_k2 : k4 ≠ k2) (h_k4_k3 : k4 ≠ k3) (sz : Nat) : Met l yX1_init wsX1_init rm_X1_init (va_Pc [.ref (lay k)] (gIn D cy lay X sz)) (va_Qv (fun Y : GY => ∃ q1 : Nat, ∃ q2 : Nat, ∃ q3 : Nat, ∃ q4 : Nat, Y = ((gU (gU (gU (gU lay k1 q1) k2 q2) k3 q3) k4 q4), (gU (gU (gU (gU (gU (gU (gU (gU X k1 (some (.inl (cy 0, 16, .inl (fun _ => 0))))) k (some (.inr (6, [.ref q1, .int 0, .int 0, .null, .null, .null, .int 0])))) k2 (some (.inl (cy 0, 16, .inl (fun _ => 0))))) k (some (.inr (6, [.ref q1, .int 0, .int 0, .ref q2, .null, .null, .int 0])))) k3 (some (.inl (cy 0, 16, .inl (fun _ => 0))))) k (some (.inr (6, [.ref q1, .int 0, .int 0, .ref q2, .ref q3, .null, .int 0])))) k4 (some (.inl (cy 0, 16, .inl (fun _ => 0))))) k (some (.inr (6, [.ref q1, .int 0, .int 0, .ref q2, .ref q3, .ref q4, .int 0])))))) (gO D (gA lay X sz)) (gA lay X sz)) 4 64 (gA lay X sz) := by
  refine g_ofW (cc := cX1_init) (maxL := 1) (ret := none) (own := RX1) (Qc := fun sz => va_Qv (fun Y : GY => ∃ q1 : Nat, ∃ q2 : Nat, ∃ q3 : Nat, ∃ q4 : Nat, Y = ((gU (gU (gU (gU lay k1 q1) k2 q2) k3 q3) k4 q4), (gU (gU (gU (gU (gU (gU (gU (gU X k1 (some (.inl (cy 0, 16, .inl (fun _ => 0))))) k (some (.inr (6, [.ref q1, .int 0, .int 0, .null, .null, .null, .int 0])))) k2 (some (.inl (cy 0, 16, .inl (fun _ => 0))))) k (some (.inr (6, [.ref q1, .int 0, .int 0, .ref q2, .null, .null, .int 0])))) k3 (some (.inl (cy 0, 16, .inl (fun _ => 0))))) k (some (.inr (6, [.ref q1, .int 0, .int 0, .ref q2, .ref q3, .null, .int 0])))) k4 (some (.inl (cy 0, 16, .inl (fun _ => 0))))) k (some (.inr (6, [.ref q1, .int 0, .int 0, .ref q2, .ref q3, .ref q4, .int 0])))))) (gO D (gA lay X sz)) (gA lay X sz)) (by decide) rfl (Nat.le_of_ble_eq_true rfl) rfl ?_
  intro p e s m args below meth c ls hC hr hlocks hname hT G hl
  have hl : lv_has ls 1 [(0, .ref (lay k))] := hl
  have agA_gA : ∀ q, s.heap.size ≤ q → gA lay X s.heap.size q := fun _ h => Or.inr h
  refine lv_aload_n hC.1 hC.2.1 dX1_init_0 rfl (lv_at hl 0 rfl) ?_
  refine W.objInit hC.1 hC.2.1 hC.2.2.2.1 (hC.2.2.2.2 _ (wm 1 rfl)) (hC.2.2.2.2 _ (wm 2 rfl)) (hC.2.2.2.2 _ (wm 3 rfl)) rfl (by rw [hC.2.2.1]; exact hl.1) rfl dX1_init_1 (Nat.le_of_ble_eq_true rfl) (Nat.le_of_ble_eq_true rfl) ?_
  refine W.eq (g2 := F0 m 4 ls []) rfl ?_
  refine lv_aload_n hC.1 hC.2.1 dX1_init_4 rfl (lv_at hl 0 rfl) ?_
  refine lv_bipush (v := 16) hC.1 hC.2.1 dX1_init_5 (by decide) ?_
  refine g_newa_i (k := k1) (N := 16) hC hT G agA_gA hk1 (wm 4 rfl) (by decide) (by decide) (by decide) (Nat.le_of_ble_eq_true rfl) (Nat.le_of_ble_eq_true rfl) dX1_init_7 (fun q1 H G => ?_)
  rw [gU_eq]
  refine g_putFA ((gU_ne h_k_k1).trans rfl) hC hT.1 G hk ((gU_ne h_k_k1).trans hX) k_X1 i_X1_init_X1 0 (by decide) (wm 5 rfl) rfl hname rfl rfl rfl (by simp) dX1_init_9 (fun H locs G => ?_)
  have G : gG D (gU lay k1 q1) (gU (gU X k1 (some (.inl (cy 0, 16, .inl (fun _ => 0))))) k (some (.inr (6, [.ref q1, .int 0, .int 0, .null, .null, .null, .int 0])))) _ s.heap H locs := G
  refine lv_aload_n hC.1 hC.2.1 dX1_init_12 rfl (lv_at hl 0 rfl) ?_
  refine lv_iconst (v := 0) hC.1 hC.2.1 dX1_init_13 (by decide) ?_
  refine g_putA ((gU_ne h_k_k1).trans rfl) hC hT.1 G hk gU_eq k_X1 i_X1_init_X1 1 (by decide) (wm 6 rfl) rfl rfl rfl (by simp) dX1_init_14 (fun H locs G => ?_)
  have G : gG D (gU lay k1 q1) (gU (gU (gU X k1 (some (.inl (cy 0, 16, .inl (fun _ => 0))))) k (some (.inr (6, [.ref q1, .int 0, .int 0, .null, .null, .null, .int 0])))) k (some (.inr (6, [.ref q1, .int 0, .int 0, .null, .null, .null, .int 0])))) _ s.heap H locs := G
  have G : gG D (gU lay k1 q1) (gU (gU X k1 (some (.inl (cy 0, 16, .inl (fun _ => 0))))) k (some (.inr (6, [.ref q1, .int 0, .int 0, .null, .null, .null, .int 0])))) _ s.heap H locs := gG_up2 G
  refine lv_aload_n hC.1 hC.2.1 dX1_init_17 rfl (lv_at hl 0 rfl) ?_
  refine lv_iconst (v := 0) hC.1 hC.2.1 dX1_init_18 (by decide) ?_
  refine g_putA ((gU_ne h_k_k1).trans rfl) hC hT.1 G hk gU_eq k_X1 i_X1_init_X1 2 (by decide) (wm 7 rfl) rfl rfl rfl (by simp) dX1_init_19 (fun H locs G => ?_)
  have G : gG D (gU lay k1 q1) (gU (gU (gU X k1 (some (.inl (cy 0, 16, .inl (fun _ => 0))))) k (some (.inr (6, [.ref q1, .int 0, .int 0, .null, .null, .null, .int 0])))) k (some (.inr (6, [.ref q1, .int 0, .int 0, .null, .null, .null, .int 0])))) _ s.heap H locs := G
  have G : gG D (gU lay k1 q1) (gU (gU X k1 (some (.inl (cy 0, 16, .inl (fun _ => 0))))) k (some (.inr (6, [.ref q1, .int 0, .int 0, .null, .null, .null, .int 0])))) _ s.heap H locs := gG_up2 G
  refine lv_aload_n hC.1 hC.2.1 dX1_init_22 rfl (lv_at hl 0 rfl) ?_
  refine lv_bipush (v := 16) hC.1 hC.2.1 dX1_init_23 (by decide) ?_
  refine g_newa_i (k := k2) (N := 16) hC hT G agA_gA ((gU_ne h_k2_k).trans ((gU_ne h_k2_k1).trans hk2)) (wm 4 rfl) (by decide) (by decide) (by decide) (Nat.le_of_ble_eq_true rfl) (Nat.le_of_ble_eq_true rfl) dX1_init_25 (fun q2 H G => ?_)
  rw [gU_eq]
  refine g_putFA ((gU_ne h_k_k2).trans ((gU_ne h_k_k1).trans rfl)) hC hT.1 G hk ((gU_ne h_k_k2).trans gU_eq) k_X1 i_X1_init_X1 3 (by decide) (wm 8 rfl) rfl hname rfl rfl rfl (by simp) dX1_init_27 (fun H locs G => ?_)
  have G : gG D (gU (gU lay k1 q1) k2 q2) (gU (gU (gU (gU X k1 (some (.inl (cy 0, 16, .inl (fun _ => 0))))) k (some (.inr (6, [.ref q1, .int 0, .int 0, .null, .null, .null, .int 0])))) k2 (some (.inl (cy 0, 16, .inl (fun _ => 0))))) k (some (.inr (6, [.ref q1, .int 0, .int 0, .ref q2, .null, .null, .int 0])))) _ s.heap H locs := G
  refine lv_aload_n hC.1 hC.2.1 dX1_init_30 rfl (lv_at hl 0 rfl) ?_
  refine lv_bipush (v := 16) hC.1 hC.2.1 dX1_init_31 (by decide) ?_
  refine g_newa_i (k := k3) (N := 16) hC hT G agA_gA ((gU_ne h_k3_k).trans ((gU_ne h_k3_k2).trans ((gU_ne h_k3_k).trans ((gU_ne h_k3_k1).trans hk3)))) (wm 4 rfl) (by decide) (by decide) (by decide) (Nat.le_of_ble_eq_true rfl) (Nat.le_of_ble_eq_true rfl) dX1_init_33 (fun q3 H G => ?_)
  rw [gU_eq]
  refine g_putFA ((gU_ne h_k_k3).trans ((gU_ne h_k_k2).trans ((gU_ne h_k_k1).trans rfl))) hC hT.1 G hk ((gU_ne h_k_k3).trans gU_eq) k_X1 i_X1_init_X1 4 (by decide) (wm 9 rfl) rfl hname rfl rfl rfl (by simp) dX1_init_35 (fun H locs G => ?_)
  have G : gG D (gU (gU (gU lay k1 q1) k2 q2) k3 q3) (gU (gU (gU (gU (gU (gU X k1 (some (.inl (cy 0, 16, .inl (fun _ => 0))))) k (some (.inr (6, [.ref q1, .int 0, .int 0, .null, .null, .null, .int 0])))) k2 (some (.inl (cy 0, 16, .inl (fun _ => 0))))) k (some (.inr (6, [.ref q1, .int 0, .int 0, .ref q2, .null, .null, .int 0])))) k3 (some (.inl (cy 0, 16, .inl (fun _ => 0))))) k (some (.inr (6, [.ref q1, .int 0, .int 0, .ref q2, .ref q3, .null, .int 0])))) _ s.heap H locs := G
  refine lv_aload_n hC.1 hC.2.1 dX1_init_38 rfl (lv_at hl 0 rfl) ?_
  refine lv_bipush (v := 16) hC.1 hC.2.1 dX1_init_39 (by decide) ?_
  refine g_newa_i (k := k4) (N := 16) hC hT G agA_gA ((gU_ne h_k4_k).trans ((gU_ne h_k4_k3).trans ((gU_ne h_k4_k).trans ((gU_ne h_k4_k2).trans ((gU_ne h_k4_k).trans ((gU_ne h_k4_k1).trans hk4)))))) (wm 4 rfl) (by decide) (by decide) (by decide) (Nat.le_of_ble_eq_true rfl) (Nat.le_of_ble_eq_true rfl) dX1_init_41 (fun q4 H G => ?_)
  rw [gU_eq]
  refine g_putFA ((gU_ne h_k_k4).trans ((gU_ne h_k_k3).trans ((gU_ne h_k_k2).trans ((gU_ne h_k_k1).trans rfl)))) hC hT.1 G hk ((gU_ne h_k_k4).trans gU_eq) k_X1 i_X1_init_X1 5 (by decide) (wm 10 rfl) rfl hname rfl rfl rfl (by simp) dX1_init_43 (fun H locs G => ?_)
  have G : gG D (gU (gU (gU (gU lay k1 q1) k2 q2) k3 q3) k4 q4) (gU (gU (gU (gU (gU (gU (gU (gU X k1 (some (.inl (cy 0, 16, .inl (fun _ => 0))))) k (some (.inr (6, [.ref q1, .int 0, .int 0, .null, .null, .null, .int 0])))) k2 (some (.inl (cy 0, 16, .inl (fun _ => 0))))) k (some (.inr (6, [.ref q1, .int 0, .int 0, .ref q2, .null, .null, .int 0])))) k3 (some (.inl (cy 0, 16, .inl (fun _ => 0))))) k (some (.inr (6, [.ref q1, .int 0, .int 0, .ref q2, .ref q3, .null, .int 0])))) k4 (some (.inl (cy 0, 16, .inl (fun _ => 0))))) k (some (.inr (6, [.ref q1, .int 0, .int 0, .ref q2, .ref q3, .ref q4, .int 0])))) _ s.heap H locs := G
  refine lv_aload_n hC.1 hC.2.1 dX1_init_46 rfl (lv_at hl 0 rfl) ?_
  refine lv_iconst (v := 0) hC.1 hC.2.1 dX1_init_47 (by decide) ?_
  refine g_putA ((gU_ne h_k_k4).trans ((gU_ne h_k_k3).trans ((gU_ne h_k_k2).trans ((gU_ne h_k_k1).trans rfl)))) hC hT.1 G hk gU_eq k_X1 i_X1_init_X1 6 (by decide) (wm 11 rfl) rfl rfl rfl (by simp) dX1_init_48 (fun H locs G => ?_)
  have G : gG D (gU (gU (gU (gU lay k1 q1) k2 q2) k3 q3) k4 q4) (gU (gU (gU (gU (gU (gU (gU (gU (gU X k1 (some (.inl (cy 0, 16, .inl (fun _ => 0))))) k (some (.inr (6, [.ref q1, .int 0, .int 0, .null, .null, .null, .int 0])))) k2 (some (.inl (cy 0, 16, .inl (fun _ => 0))))) k (some (.inr (6, [.ref q1, .int 0, .int 0, .ref q2, .null, .null, .int 0])))) k3 (some (.inl (cy 0, 16, .inl (fun _ => 0))))) k (some (.inr (6, [.ref q1, .int 0, .int 0, .ref q2, .ref q3, .null, .int 0])))) k4 (some (.inl (cy 0, 16, .inl (fun _ => 0))))) k (some (.inr (6, [.ref q1, .int 0, .int 0, .ref q2, .ref q3, .ref q4, .int 0])))) k (some (.inr (6, [.ref q1, .int 0, .int 0, .ref q2, .ref q3, .ref q4, .int 0])))) _ s.heap H locs := G
  have G : gG D (gU (gU (gU (gU lay k1 q1) k2 q2) k3 q3) k4 q4) (gU (gU (gU (gU (gU (gU (gU (gU X k1 (some (.inl (cy 0, 16, .inl (fun _ => 0))))) k (some (.inr (6, [.ref q1, .int 0, .int 0, .null, .null, .null, .int 0])))) k2 (some (.inl (cy 0, 16, .inl (fun _ => 0))))) k (some (.inr (6, [.ref q1, .int 0, .int 0, .ref q2, .null, .null, .int 0])))) k3 (some (.inl (cy 0, 16, .inl (fun _ => 0))))) k (some (.inr (6, [.ref q1, .int 0, .int 0, .ref q2, .ref q3, .null, .int 0])))) k4 (some (.inl (cy 0, 16, .inl (fun _ => 0))))) k (some (.inr (6, [.ref q1, .int 0, .int 0, .ref q2, .ref q3, .ref q4, .int 0])))) _ s.heap H locs := gG_up2 G
  exact g_vret (Y := ((gU (gU (gU (gU lay k1 q1) k2 q2) k3 q3) k4 q4), (gU (gU (gU (gU (gU (gU (gU (gU X k1 (some (.inl (cy 0, 16, .inl (fun _ => 0))))) k (some (.inr (6, [.ref q1, .int 0, .int 0, .null, .null, .null, .int 0])))) k2 (some (.inl (cy 0, 16, .inl (fun _ => 0))))) k (some (.inr (6, [.ref q1, .int 0, .int 0, .ref q2, .null, .null, .int 0])))) k3 (some (.inl (cy 0, 16, .inl (fun _ => 0))))) k (some (.inr (6, [.ref q1, .int 0, .int 0, .ref q2, .ref q3, .null, .int 0])))) k4 (some (.inl (cy 0, 16, .inl (fun _ => 0))))) k (some (.inr (6, [.ref q1, .int 0, .int 0, .ref q2, .ref q3, .ref q4, .int 0])))))) hC hr hlocks G ⟨q1, q2, q3, q4, rfl⟩ dX1_init_51
