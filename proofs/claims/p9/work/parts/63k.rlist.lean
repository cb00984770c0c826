/-! THE REFERENCE: a new list -/
abbrev rm_AC : Room := { frames := 1, cells := 0, slots := 0, locals := 16 }
abbrev rm_AL0 : Room := { frames := 2, cells := 0, slots := 0, locals := 40 }
abbrev rm_ALi : Room := { frames := 3, cells := 0, slots := 0, locals := 60 }
theorem hdI_AC : yJxa1e45_init_da8c8.cls ≠ "java/lang/invoke/MethodHandle" ∧ yJxa1e45_init_da8c8.cls ≠ "java/lang/invoke/VarHandle" ∧ (parseMethodDescriptor yJxa1e45_init_da8c8.desc).map (fun d => d.parameters.length) = some 0 := by decide +kernel
theorem hdI_AL0 : yJxc12de_init_da8c8.cls ≠ "java/lang/invoke/MethodHandle" ∧ yJxc12de_init_da8c8.cls ≠ "java/lang/invoke/VarHandle" ∧ (parseMethodDescriptor yJxc12de_init_da8c8.desc).map (fun d => d.parameters.length) = some 0 := by decide +kernel
theorem hdI_ALi : yJx4a65c_init_da8c8.cls ≠ "java/lang/invoke/MethodHandle" ∧ yJx4a65c_init_da8c8.cls ≠ "java/lang/invoke/VarHandle" ∧ (parseMethodDescriptor yJx4a65c_init_da8c8.desc).map (fun d => d.parameters.length) = some 0 := by decide +kernel
theorem i_AL0 : ∀ w ∈ wsJx4a65c0, w ∈ wsJxc12de_init_da8c8 := fun _ h => List.mem_cons_of_mem _ (List.mem_append_right _ h)
theorem i_ALi : ∀ w ∈ wsJx4a65c0, w ∈ wsJx4a65c_init_da8c8 := fun _ h => List.mem_cons_of_mem _ (List.mem_append_right _ h)
set_option maxHeartbeats 4000000 in
set_option maxRecDepth 100000 in
theorem c_AC (l : Launch) (D : va_G) (cy : Nat → ClassId) (lay : Nat → Nat) (X : Nat → Option va_E) {b : Nat} (sz : Nat) : Met l yJxa1e45_init_da8c8 wsJxa1e45_init_da8c8 rm_AC (va_Pc [.ref b] (hI D cy lay X sz)) (va_Qv (fun Y : GY => Y = (lay, X)) (gO D (gA lay X sz)) (gA lay X sz)) 0 0 (gA lay X sz) := by
  refine h_ofW (cc := cJxa1e45_init_da8c8) (maxL := 1) (ret := none) (own := RJxa1e45) (Qc := fun sz => (va_Qv (fun Y : GY => Y = (lay, X)) (gO D (gA lay X sz)) (gA lay X sz))) (by decide) rfl (Nat.le_of_ble_eq_true rfl) rfl ?_
  intro p e0 s m args below meth c ls hC hr hlocks hname hT G hl
  have hl : lv_has ls 1 [(0, .ref b)] := hl
  refine lv_aload_n hC.1 hC.2.1 dJxa1e45_init_da8c8_0 rfl (lv_at hl 0 rfl) ?_
  refine W.objInit hC.1 hC.2.1 hC.2.2.2.1 (hC.2.2.2.2 _ (wm 1 rfl)) (hC.2.2.2.2 _ (wm 2 rfl)) (hC.2.2.2.2 _ (wm 3 rfl)) rfl (by rw [hC.2.2.1]; exact hl.1) rfl dJxa1e45_init_da8c8_1 (Nat.le_of_ble_eq_true rfl) (Nat.le_of_ble_eq_true rfl) ?_
  refine W.eq (g2 := F0 m 4 ls []) rfl ?_
  exact g_vret (Y := (lay, X)) hC hr hlocks G rfl dJxa1e45_init_da8c8_4
set_option maxHeartbeats 4000000 in
set_option maxRecDepth 100000 in
theorem c_AL0 (l : Launch) (D : va_G) (cy : Nat → ClassId) (lay : Nat → Nat) (X : Nat → Option va_E) {k : Nat} (hk : k < 128) {mo n : Int32} {o : Value} (hX : X k = some (.inr (4, [.int mo, o, .int n]))) (sz : Nat) : Met l yJxc12de_init_da8c8 wsJxc12de_init_da8c8 rm_AL0 (va_Pc [.ref (lay k)] (hI D cy lay X sz)) (va_Qv (fun Y : GY => Y = (lay, gU X k (some (.inr (4, [.int 0, o, .int n]))))) (gO D (gA lay X sz)) (gA lay X sz)) 0 0 (gA lay X sz) := by
  refine h_ofW (cc := cJxc12de_init_da8c8) (maxL := 1) (ret := none) (own := RJxc12de) (Qc := fun sz => (va_Qv (fun Y : GY => Y = (lay, gU X k (some (.inr (4, [.int 0, o, .int n]))))) (gO D (gA lay X sz)) (gA lay X sz))) (by decide) rfl (Nat.le_of_ble_eq_true rfl) rfl ?_
  intro p e0 s m args below meth c ls hC hr hlocks hname hT G hl
  have hl : lv_has ls 1 [(0, .ref (lay k))] := hl
  have hA : ∀ q, s.heap.size ≤ q → gA lay X s.heap.size q := fun _ h => Or.inr h
  refine lv_aload_n hC.1 hC.2.1 dJxc12de_init_da8c8_0 rfl (lv_at hl 0 rfl) ?_
  refine g_v G hA (h_runI (b := lay k) (As := []) (rest := []) hC hT G (c_AC l D cy lay X _) ⟨callB_of 0 hC.2.2.2.2 ggJxc12de_init_da8c8_Jxa1e45_init_da8c8 rfl rfl rfl (hC.2.2.2.2 (.initialized RJxa1e45) (wm 4 rfl)) (hC.2.2.2.2 (.methodLink RJxc12de 1 yJxa1e45_init_da8c8) (wm 2 rfl)) hdI_AC ⟨Nat.le_of_ble_eq_true rfl, Nat.le_of_ble_eq_true rfl⟩, rfl, hC.2.2.2.2 (.instanceMethod yJxa1e45_init_da8c8) (wm 3 rfl)⟩ rfl hl.1 rfl (Nat.le_of_ble_eq_true rfl) dJxc12de_init_da8c8_1 ⟨Nat.le_of_ble_eq_true rfl, Nat.le_of_ble_eq_true rfl⟩) (fun Y H locs hY G => ?_)
  subst hY
  have G : gG D lay X (gA lay X s.heap.size) s.heap H locs := G
  refine lv_aload_n hC.1 hC.2.1 dJxc12de_init_da8c8_4 rfl (lv_at hl 0 rfl) ?_
  refine lv_iconst (v := 0) hC.1 hC.2.1 dJxc12de_init_da8c8_5 (by decide) ?_
  refine g_put hC hT.1 G hk hX k_AL i_AL0 0 (by decide) (wm 1 rfl) rfl rfl rfl (by simp) dJxc12de_init_da8c8_6 (fun H locs G => ?_)
  have G : gG D lay (gU X k (some (.inr (4, [.int 0, o, .int n])))) (gA lay X s.heap.size) s.heap H locs := G
  exact g_vret (Y := (lay, gU X k (some (.inr (4, [.int 0, o, .int n]))))) hC hr hlocks G rfl dJxc12de_init_da8c8_9
set_option maxHeartbeats 4000000 in
set_option maxRecDepth 100000 in
theorem c_ALi (l : Launch) (D : va_G) (cy : Nat → ClassId) (lay : Nat → Nat) (X : Nat → Option va_E) (ea mi : Nat) {k : Nat} (hk : k < 128) {mo n : Int32} {o : Value} (hX : X k = some (.inr (4, [.int mo, o, .int n]))) (sz : Nat) : Met l yJx4a65c_init_da8c8 wsJx4a65c_init_da8c8 rm_ALi (va_Pc [.ref (lay k)] (hK D cy lay X ea mi sz)) (va_Qv (fun Y : GY => Y = (lay, gU X k (some (.inr (4, [.int 0, .ref ea, .int n]))))) (gO D (gA lay X sz)) (gA lay X sz)) 0 0 (gA lay X sz) := by
  refine k_ofW (cc := cJx4a65c_init_da8c8) (maxL := 1) (ret := none) (own := RJx4a65c) (Qc := fun sz => (va_Qv (fun Y : GY => Y = (lay, gU X k (some (.inr (4, [.int 0, .ref ea, .int n]))))) (gO D (gA lay X sz)) (gA lay X sz))) (by decide) rfl (Nat.le_of_ble_eq_true rfl) rfl ?_
  intro p e0 s m args below meth c ls hC hr hlocks hname hT hZ G hl
  have hl : lv_has ls 1 [(0, .ref (lay k))] := hl
  have hA : ∀ q, s.heap.size ≤ q → gA lay X s.heap.size q := fun _ h => Or.inr h
  refine lv_aload_n hC.1 hC.2.1 dJx4a65c_init_da8c8_0 rfl (lv_at hl 0 rfl) ?_
  refine g_v G hA (h_runI (b := lay k) (As := []) (rest := []) hC hT G (c_AL0 l D cy lay X hk hX _) ⟨callB_of 0 hC.2.2.2.2 ggJx4a65c_init_da8c8_Jxc12de_init_da8c8 rfl rfl rfl (hC.2.2.2.2 (.initialized RJxc12de) (wm 5 rfl)) (hC.2.2.2.2 (.methodLink RJx4a65c 1 yJxc12de_init_da8c8) (wm 3 rfl)) hdI_AL0 ⟨Nat.le_of_ble_eq_true rfl, Nat.le_of_ble_eq_true rfl⟩, rfl, hC.2.2.2.2 (.instanceMethod yJxc12de_init_da8c8) (wm 4 rfl)⟩ rfl hl.1 rfl (Nat.le_of_ble_eq_true rfl) dJx4a65c_init_da8c8_1 ⟨Nat.le_of_ble_eq_true rfl, Nat.le_of_ble_eq_true rfl⟩) (fun Y H locs hY G => ?_)
  subst hY
  have G : gG D lay (gU X k (some (.inr (4, [.int 0, o, .int n])))) (gA lay X s.heap.size) s.heap H locs := G
  refine lv_aload_n hC.1 hC.2.1 dJx4a65c_init_da8c8_4 rfl (lv_at hl 0 rfl) ?_
  refine va_gets hC.1 hC.2.1 hZ.1 G.2.2 hC.2.2.2.1 (hC.2.2.2.2 _ (wm 1 rfl)) (fun _ h => h) dJx4a65c_init_da8c8_5 ?_
  refine g_put hC hT.1 G hk gU_eq k_AL i_ALi 1 (by decide) (wm 2 rfl) rfl rfl rfl (by simp) dJx4a65c_init_da8c8_8 (fun H locs G => ?_)
  have G : gG D lay (gU X k (some (.inr (4, [.int 0, .ref ea, .int n])))) (gA lay X s.heap.size) s.heap H locs := gG_up2 G
  exact g_vret (Y := (lay, gU X k (some (.inr (4, [.int 0, .ref ea, .int n]))))) hC hr hlocks G rfl dJx4a65c_init_da8c8_11
