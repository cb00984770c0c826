theorem ite_lt_s {α : Type} {i b a : Nat} {x y : α} (h : i ≠ b + a) : (if i < b + (a + 1) then x else y) = if i < b + a then x else y := by
  by_cases q : i < b + a
  · rw [if_pos q, if_pos (by omega)]
  · rw [if_neg q, if_neg (by omega)]
theorem inX_no {cy : Nat → ClassId} {lay : Nat → Nat} {X : Nat → Option va_E} {a b c d i : Nat} (hi : i < 87) (h : ¬ inDone a b c d i) : inX cy lay X a b c d i = none := by
  unfold inDone at h
  unfold inX
  rw [if_neg (by omega), if_neg (by omega), if_neg (by omega), if_neg (by omega), if_neg (by omega), if_neg (by omega), if_neg (by omega), if_neg (by omega), if_neg (by omega), if_neg (by omega)]
  by_cases g1 : i < 39
  · rw [if_pos g1, if_neg (by omega)]
  rw [if_neg g1]
  by_cases g2 : i < 55
  · rw [if_pos g2, if_neg (by omega)]
  rw [if_neg g2]
  by_cases g3 : i < 61
  · rw [if_pos g3, if_neg (by omega)]
  rw [if_neg g3]
  by_cases g4 : i < 67
  · rw [if_pos g4, if_neg (by omega)]
  rw [if_neg g4]
  by_cases g5 : i < 73
  · rw [if_pos g5, if_neg (by omega)]
  rw [if_neg g5, if_pos hi, if_neg (by omega)]
theorem rfs_s {lay : Nat → Nat} {b n q : Nat} (h : lay (b + n) = q) : rfs lay b (n + 1) = va_up (rfs lay b n) n (some q) := by
  funext j
  unfold rfs va_up
  by_cases hj : j = n
  · subst hj
    rw [if_pos (by omega), if_pos rfl, h]
  · rw [if_neg hj]
    show _ = if j < n then some (lay (b + j)) else none
    by_cases h2 : j < n
    · rw [if_pos h2, if_pos (by omega)]
    · rw [if_neg h2, if_neg (by omega)]
theorem inX_sa {cy : Nat → ClassId} {lay : Nat → Nat} {X : Nat → Option va_E} {a b c d : Nat} (ha : a < 10) (i : Nat) : inX cy lay X (a + 1) b c d i = gU (gU (inX cy lay X a b c d) (29 + a) (some (.inr (8, [.int 0, .int 0, .int 0, .int 0, .int 0, .int 0, .int 0, .int 0])))) 1 (some (.inl (cy 2, 10, .inr (.inr (.inr (.inr (rfs lay 29 (a + 1)))))))) i := by
  by_cases h1 : i = 1
  · subst h1; rw [gU_eq]; rfl
  rw [gU_ne h1]
  by_cases h2 : i = 29 + a
  · subst h2
    rw [gU_eq]
    unfold inX
    rw [if_neg (by omega), if_neg (by omega), if_neg (by omega), if_neg (by omega), if_neg (by omega), if_neg (by omega), if_neg (by omega), if_neg (by omega), if_neg (by omega), if_neg (by omega), if_pos (by omega), if_pos (by omega)]
  rw [gU_ne h2]
  unfold inX
  rw [ite_lt_s h2, if_neg h1, if_neg h1]
theorem inX_sb {cy : Nat → ClassId} {lay : Nat → Nat} {X : Nat → Option va_E} {a b c d : Nat} (hb : b < 16) (i : Nat) : inX cy lay X a (b + 1) c d i = gU (gU (inX cy lay X a b c d) (39 + b) (some (.inr (10, [.int (nI b - nI b / 12 * 12), .int 5, .int 3, .int 0])))) 2 (some (.inl (cy 3, 16, .inr (.inr (.inr (.inr (rfs lay 39 (b + 1)))))))) i := by
  by_cases h1 : i = 2
  · subst h1; rw [gU_eq]; rfl
  rw [gU_ne h1]
  by_cases h2 : i = 39 + b
  · subst h2
    rw [gU_eq]
    unfold inX
    rw [if_neg (by omega), if_neg (by omega), if_neg (by omega), if_neg (by omega), if_neg (by omega), if_neg (by omega), if_neg (by omega), if_neg (by omega), if_neg (by omega), if_neg (by omega), if_neg (by omega), if_pos (by omega), if_pos (by omega), show 39 + b - 39 = b by omega]
  rw [gU_ne h2]
  unfold inX
  rw [ite_lt_s h2, if_neg h1, if_neg h1]
theorem inX_sc {cy : Nat → ClassId} {lay : Nat → Nat} {X : Nat → Option va_E} {a b c d : Nat} (hc : c < 6) (i : Nat) : inX cy lay X a b (c + 1) d i = gU (gU (gU (gU (inX cy lay X a b c d) (61 + c) (some (.inl (cy 0, 6, .inl (fun _ => 0))))) (67 + c) (some (.inl (cy 0, 5, .inl (fun _ => 0))))) (55 + c) (some (.inr (5, [.ref (lay (61 + c)), .ref (lay (67 + c)), .int 0])))) 3 (some (.inl (cy 4, 6, .inr (.inr (.inr (.inr (rfs lay 55 (c + 1)))))))) i := by
  by_cases h1 : i = 3
  · subst h1; rw [gU_eq]; rfl
  rw [gU_ne h1]
  by_cases h2 : i = 55 + c
  · subst h2
    rw [gU_eq]
    unfold inX
    rw [if_neg (by omega), if_neg (by omega), if_neg (by omega), if_neg (by omega), if_neg (by omega), if_neg (by omega), if_neg (by omega), if_neg (by omega), if_neg (by omega), if_neg (by omega), if_neg (by omega), if_neg (by omega), if_pos (by omega), if_pos (by omega), show 55 + c - 55 = c by omega]
  rw [gU_ne h2]
  by_cases h3 : i = 67 + c
  · subst h3
    rw [gU_eq]
    unfold inX
    rw [if_neg (by omega), if_neg (by omega), if_neg (by omega), if_neg (by omega), if_neg (by omega), if_neg (by omega), if_neg (by omega), if_neg (by omega), if_neg (by omega), if_neg (by omega), if_neg (by omega), if_neg (by omega), if_neg (by omega), if_neg (by omega), if_pos (by omega), if_pos (by omega)]
  rw [gU_ne h3]
  by_cases h4 : i = 61 + c
  · subst h4
    rw [gU_eq]
    unfold inX
    rw [if_neg (by omega), if_neg (by omega), if_neg (by omega), if_neg (by omega), if_neg (by omega), if_neg (by omega), if_neg (by omega), if_neg (by omega), if_neg (by omega), if_neg (by omega), if_neg (by omega), if_neg (by omega), if_neg (by omega), if_pos (by omega), if_pos (by omega)]
  rw [gU_ne h4]
  unfold inX
  rw [ite_lt_s h2, ite_lt_s h3, ite_lt_s h4, if_neg h1, if_neg h1]
theorem inX_sd {cy : Nat → ClassId} {lay : Nat → Nat} {X : Nat → Option va_E} {a b c d : Nat} (hd : d < 14) (i : Nat) : inX cy lay X a b c (d + 1) i = gU (gU (inX cy lay X a b c d) (73 + d) (some (.inr (11, [.int 0, .int 0, .int 0, .int 0, .int 0, .int 0, .int 0, .int 0, .int 0, .int 0, .int 0, .int 0])))) 4 (some (.inl (cy 5, 14, .inr (.inr (.inr (.inr (rfs lay 73 (d + 1)))))))) i := by
  by_cases h1 : i = 4
  · subst h1; rw [gU_eq]; rfl
  rw [gU_ne h1]
  by_cases h2 : i = 73 + d
  · subst h2
    rw [gU_eq]
    unfold inX
    rw [if_neg (by omega), if_neg (by omega), if_neg (by omega), if_neg (by omega), if_neg (by omega), if_neg (by omega), if_neg (by omega), if_neg (by omega), if_neg (by omega), if_neg (by omega), if_neg (by omega), if_neg (by omega), if_neg (by omega), if_neg (by omega), if_neg (by omega), if_pos (by omega), if_pos (by omega)]
  rw [gU_ne h2]
  unfold inX
  rw [ite_lt_s h2, if_neg h1, if_neg h1]
/-- one step of a loop: the world of the step before, at the addresses of before, is that of now -/
theorem inX_mv {cy : Nat → ClassId} {lay lay' : Nat → Nat} {X : Nat → Option va_E} {a b c d : Nat} (h : ∀ r, inDone a b c d r → lay' r = lay r) : inX cy lay' X a b c d = inX cy lay X a b c d := funext fun i => inX_lay h i
theorem i_X7_init_X7 : ∀ w ∈ wsX70, w ∈ wsX7_init := fun w h => by unfold wsX7_init; simp only [List.mem_cons, List.mem_append, h, true_or, or_true]
theorem i_X7_init_X4 : ∀ w ∈ wsX40, w ∈ wsX7_init := fun w h => by unfold wsX7_init; simp only [List.mem_cons, List.mem_append, h, true_or, or_true]
theorem i_X7_init_X2 : ∀ w ∈ wsX20, w ∈ wsX7_init := fun w h => by unfold wsX7_init; simp only [List.mem_cons, List.mem_append, h, true_or, or_true]
theorem i_X7_init_X1 : ∀ w ∈ wsX10, w ∈ wsX7_init := fun w h => by unfold wsX7_init; simp only [List.mem_cons, List.mem_append, h, true_or, or_true]
theorem i_X7_init_X3 : ∀ w ∈ wsX30, w ∈ wsX7_init := fun w h => by unfold wsX7_init; simp only [List.mem_cons, List.mem_append, h, true_or, or_true]
theorem i_X7_init_X5 : ∀ w ∈ wsX50, w ∈ wsX7_init := fun w h => by unfold wsX7_init; simp only [List.mem_cons, List.mem_append, h, true_or, or_true]
theorem i_X7_init_X0 : ∀ w ∈ wsX00, w ∈ wsX7_init := fun w h => by unfold wsX7_init; simp only [List.mem_cons, List.mem_append, h, true_or, or_true]
theorem i_X7_init_X6 : ∀ w ∈ wsX60, w ∈ wsX7_init := fun w h => by unfold wsX7_init; simp only [List.mem_cons, List.mem_append, h, true_or, or_true]
theorem hdI_X0 : yX0_init.cls ≠ "java/lang/invoke/MethodHandle" ∧ yX0_init.cls ≠ "java/lang/invoke/VarHandle" ∧ (parseMethodDescriptor yX0_init.desc).map (fun d => d.parameters.length) = some 0 := by decide +kernel
theorem hdI_X1 : yX1_init.cls ≠ "java/lang/invoke/MethodHandle" ∧ yX1_init.cls ≠ "java/lang/invoke/VarHandle" ∧ (parseMethodDescriptor yX1_init.desc).map (fun d => d.parameters.length) = some 0 := by decide +kernel
theorem hdI_X2 : yX2_init.cls ≠ "java/lang/invoke/MethodHandle" ∧ yX2_init.cls ≠ "java/lang/invoke/VarHandle" ∧ (parseMethodDescriptor yX2_init.desc).map (fun d => d.parameters.length) = some 0 := by decide +kernel
theorem hdI_X3 : yX3_init.cls ≠ "java/lang/invoke/MethodHandle" ∧ yX3_init.cls ≠ "java/lang/invoke/VarHandle" ∧ (parseMethodDescriptor yX3_init.desc).map (fun d => d.parameters.length) = some 0 := by decide +kernel
theorem hdI_X4 : yX4_init.cls ≠ "java/lang/invoke/MethodHandle" ∧ yX4_init.cls ≠ "java/lang/invoke/VarHandle" ∧ (parseMethodDescriptor yX4_init.desc).map (fun d => d.parameters.length) = some 0 := by decide +kernel
theorem hdI_X5 : yX5_init.cls ≠ "java/lang/invoke/MethodHandle" ∧ yX5_init.cls ≠ "java/lang/invoke/VarHandle" ∧ (parseMethodDescriptor yX5_init.desc).map (fun d => d.parameters.length) = some 1 := by decide +kernel
theorem hdI_X6 : yX6_init.cls ≠ "java/lang/invoke/MethodHandle" ∧ yX6_init.cls ≠ "java/lang/invoke/VarHandle" ∧ (parseMethodDescriptor yX6_init.desc).map (fun d => d.parameters.length) = some 0 := by decide +kernel
theorem df_X4 : ∀ j, j < 2 → defaultValue (tyX4 j) = vp_V [.null, .null] j := by decide
theorem df_X2 : ∀ j, j < 6 → defaultValue (tyX2 j) = vp_V [.int 0, .int 0, .int 0, .int 0, .int 0, .int 0] j := by decide
theorem df_X1 : ∀ j, j < 7 → defaultValue (tyX1 j) = vp_V [.null, .int 0, .int 0, .null, .null, .null, .int 0] j := by decide
theorem df_X3 : ∀ j, j < 8 → defaultValue (tyX3 j) = vp_V [.int 0, .int 0, .int 0, .int 0, .int 0, .int 0, .int 0, .int 0] j := by decide
theorem df_X5 : ∀ j, j < 4 → defaultValue (tyX5 j) = vp_V [.int 0, .int 0, .int 0, .int 0] j := by decide
theorem df_X0 : ∀ j, j < 3 → defaultValue (tyX0 j) = vp_V [.null, .null, .int 0] j := by decide
theorem df_X6 : ∀ j, j < 12 → defaultValue (tyX6 j) = vp_V [.int 0, .int 0, .int 0, .int 0, .int 0, .int 0, .int 0, .int 0, .int 0, .int 0, .int 0, .int 0] j := by decide
