section GAALD
variable {p : Program} {l : Launch} {e : Env} {R : Room} {s : State} {m : MethodId} {args : Array Value} {below : List Frame} {meth : Method} {c : Code} {H : Heap} {locs : List Loc} {cells slots : Nat} {Q : State → Prop}
variable {cc : ByteArray} {pc nL : Nat} {ls : Array Slot} {rest : List Value} {D : va_G} {cy : Nat → ClassId} {lay : Nat → Nat} {X : Nat → Option va_E} {A : Nat → Prop} {H0 : Heap} {Ts : List Cond} {own : String}
theorem g_aalda (hC : CallFix p m c cc nL s args Ts own) (hT : gT D cy s) (G : gG D lay X A H0 H locs) {k : Nat} (hk : k < 128) {n a : Nat} {f : Nat → Option Nat} (he : X k = some (.inl (cy 6, n, .inr (.inr (.inr (.inr f)))))) {i : Int32} (hin : vp_in i n) (hf : f i.toNatClampNeg = some a) (hdg : decode cc pc = .ok (.aaload, 1))
    (kk : W p l e R s m args below meth c H locs cells slots Q (F0 m (pc + 1) ls (.ref a :: rest))) : W p l e R s m args below meth c H locs cells slots Q (F0 m pc ls (.int i :: .ref (lay k) :: rest)) := by
  have hlt : i.toNatClampNeg < n := vlt hin
  refine W.aald (v := va_rf (f i.toNatClampNeg)) (ty := .array .int) hC.1 hC.2.1 (G.1 k _ hk he) ((hT.1.2 6 _ rfl).1 n (fun j => va_rf (f j))) rfl (fun q => by cases q) (by show ¬ (i < 0 ∨ (arrV _ _ _).slots.size ≤ _); rw [arrV_size]; exact hin) (by show (arrV _ _ _).slots[_]? = _; rw [arrV_read _ _ hlt]) rfl rfl hdg ?_
  rw [hf]
  exact kk
end GAALD
def wy0 (a j : Nat) : Int32 := if a = j then 0 else -1
/-- row i of ways, as a rows are done and b places of row a -/
def wyR (a b i : Nat) : Nat → Int32 := fun j => if i < a ∨ (i = a ∧ j < b) then (if j < 6 then wy0 i j else 0) else 0
def rdX (cy : Nat → ClassId) (lay' : Nat → Nat) (X : Nat → Option va_E) (a b : Nat) : Nat → Option va_E := fun i =>
  if i = 5 then some (.inr (9, [.ref (lay' 15), .ref (lay' 16)]))
  else if i = 15 then some (.inl (cy 6, 6, .inr (.inr (.inr (.inr (fun j => if j < 6 then some (lay' (17 + j)) else none))))))
  else if i = 16 then some (.inl (cy 6, 6, .inr (.inr (.inr (.inr (fun j => if j < 6 then some (lay' (23 + j)) else none))))))
  else if 17 ≤ i ∧ i < 23 then some (.inl (cy 0, 6, .inl (fun _ => 0)))
  else if 23 ≤ i ∧ i < 29 then some (.inl (cy 0, 6, .inl (wyR a b (i - 23))))
  else X i
theorem wyR_0 (i : Nat) : wyR 0 0 i = fun _ => 0 := by
  funext j
  unfold wyR
  rw [if_neg (by omega)]
theorem wyR_s (a b i : Nat) (hb : b < 6) : wyR a (b + 1) i = if i = a then upd (wyR a b a) b (wy0 a b) else wyR a b i := by
  by_cases h : i = a
  · subst h
    rw [if_pos rfl]
    funext j
    unfold upd
    by_cases hj : j = b
    · subst hj
      rw [if_pos rfl]
      unfold wyR
      rw [if_pos (show i < i ∨ (i = i ∧ j < j + 1) by omega), if_pos hb]
    · rw [if_neg hj]
      unfold wyR
      by_cases h2 : j < b
      · rw [if_pos (show i < i ∨ (i = i ∧ j < b + 1) by omega), if_pos (show i < i ∨ (i = i ∧ j < b) by omega)]
      · rw [if_neg (show ¬ (i < i ∨ (i = i ∧ j < b + 1)) by omega), if_neg (show ¬ (i < i ∨ (i = i ∧ j < b)) by omega)]
  · rw [if_neg h]
    funext j
    unfold wyR
    by_cases h2 : i < a
    · rw [if_pos (show i < a ∨ (i = a ∧ j < b + 1) by omega), if_pos (show i < a ∨ (i = a ∧ j < b) by omega)]
    · rw [if_neg (show ¬ (i < a ∨ (i = a ∧ j < b + 1)) by omega), if_neg (show ¬ (i < a ∨ (i = a ∧ j < b)) by omega)]
theorem wyR_n (a i : Nat) : wyR (a + 1) 0 i = wyR a 6 i := by
  funext j
  unfold wyR
  by_cases h : i < a
  · rw [if_pos (show i < a + 1 ∨ (i = a + 1 ∧ j < 0) by omega), if_pos (show i < a ∨ (i = a ∧ j < 6) by omega)]
  · by_cases h2 : i = a
    · subst h2
      rw [if_pos (show i < i + 1 ∨ (i = i + 1 ∧ j < 0) by omega)]
      by_cases hj : j < 6
      · rw [if_pos (show i < i ∨ (i = i ∧ j < 6) by omega)]
      · rw [if_neg hj, if_neg (show ¬ (i < i ∨ (i = i ∧ j < 6)) by omega)]
    · rw [if_neg (show ¬ (i < a + 1 ∨ (i = a + 1 ∧ j < 0)) by omega), if_neg (show ¬ (i < a ∨ (i = a ∧ j < 6)) by omega)]
theorem rdX_5 {cy : Nat → ClassId} {lay' : Nat → Nat} {X : Nat → Option va_E} {a b : Nat} : rdX cy lay' X a b 5 = some (.inr (9, [.ref (lay' 15), .ref (lay' 16)])) := rfl
theorem rdX_16 {cy : Nat → ClassId} {lay' : Nat → Nat} {X : Nat → Option va_E} {a b : Nat} : rdX cy lay' X a b 16 = some (.inl (cy 6, 6, .inr (.inr (.inr (.inr (fun j => if j < 6 then some (lay' (23 + j)) else none)))))) := rfl
theorem rdX_w {cy : Nat → ClassId} {lay' : Nat → Nat} {X : Nat → Option va_E} {a b i : Nat} (h : i < 6) : rdX cy lay' X a b (23 + i) = some (.inl (cy 0, 6, .inl (wyR a b i))) := by
  unfold rdX
  rw [if_neg (by omega), if_neg (by omega), if_neg (by omega), if_neg (by omega), if_pos (by omega), show 23 + i - 23 = i by omega]
abbrev rm_X4_init : Room := { frames := 1, cells := 14, slots := 84, locals := 16 }
theorem i_X4_init_X4 : ∀ w ∈ wsX40, w ∈ wsX4_init := fun _ h => List.mem_cons_of_mem _ (List.mem_append_right _ h)
abbrev rdPost (cy : Nat → ClassId) (lay : Nat → Nat) (X : Nat → Option va_E) : GY → Prop := fun Y => (∀ i, i < 15 ∨ 29 ≤ i → Y.1 i = lay i) ∧ Y.2 = rdX cy Y.1 X 6 0
set_option maxHeartbeats 4000000 in
set_option maxRecDepth 100000 in
theorem l_X4_init_30 {p : Program} {l : Launch} {e : Env} {s : State} {m : MethodId} {args : Array Value} {below : List Frame} {meth : Method} {c : Code} {D : va_G} {cy : Nat → ClassId} {lay lay' : Nat → Nat} {X : Nat → Option va_E} (hC : CallFix p m c cX4_init 3 s args wsX4_init RX4) (hr : meth.sig.returnType = none) (hlocks : meth.locks = false) (hT : gT D cy s) (hlay : ∀ i, i < 15 ∨ 29 ≤ i → lay' i = lay i) :
    ∀ (d a : Nat), a + d = 6 → ∀ (H : Heap) (locs : List Loc) (ls : Array Slot), gG D lay' (rdX cy lay' X a 0) (gA lay X s.heap.size) s.heap H locs → lv_has ls 3 [(0, .ref (lay' 5)), (1, .int (nI a))] → W p l e rm_X4_init s m args below meth c H locs 14 84 (MQ below (va_Qv (rdPost cy lay X) (gO D (gA lay X s.heap.size)) (gA lay X s.heap.size)) args s 14 84 (gA lay X s.heap.size)) (F0 m 30 ls []) := by
  intro d
  induction d with
  | zero =>
    intro a ha H locs ls G hl
    obtain rfl : a = 6 := by omega
    refine lv_iload_n hC.1 hC.2.1 dX4_init_30 rfl (lv_at hl 1 rfl) ?_
    refine lv_bipush (v := 6) hC.1 hC.2.1 dX4_init_31 (by decide) ?_
    refine lv_icmp_ge (tgt := 74) hC.1 hC.2.1 dX4_init_33 (by decide) (fun _ => ?_) (fun c1 => absurd (show (6 : Int32) ≤ nI 6 by decide) c1)
    exact g_vret (Y := (lay', rdX cy lay' X 6 0)) hC hr hlocks G ⟨hlay, rfl⟩ dX4_init_74
  | succ d ih =>
    intro a ha H locs ls G hl
    have ha6 : a < 6 := by omega
    refine lv_iload_n hC.1 hC.2.1 dX4_init_30 rfl (lv_at hl 1 rfl) ?_
    refine lv_bipush (v := 6) hC.1 hC.2.1 dX4_init_31 (by decide) ?_
    refine lv_icmp_ge (tgt := 74) hC.1 hC.2.1 dX4_init_33 (by decide) (fun c1 => absurd c1 (nI_ge ha6 (by decide))) (fun _ => ?_)
    refine lv_iconst (v := 0) hC.1 hC.2.1 dX4_init_36 (by decide) ?_
    refine lv_istore_n (lv' := [(2, .int 0), (0, .ref (lay' 5)), (1, .int (nI a))]) hC.1 hC.2.1 dX4_init_37 rfl hl (by decide) rfl (fun ls hl => ?_)
    have inner : ∀ (d2 b : Nat), b + d2 = 6 → ∀ (H : Heap) (locs : List Loc) (ls : Array Slot), gG D lay' (rdX cy lay' X a b) (gA lay X s.heap.size) s.heap H locs → lv_has ls 3 [(0, .ref (lay' 5)), (1, .int (nI a)), (2, .int (nI b))] → W p l e rm_X4_init s m args below meth c H locs 14 84 (MQ below (va_Qv (rdPost cy lay X) (gO D (gA lay X s.heap.size)) (gA lay X s.heap.size)) args s 14 84 (gA lay X s.heap.size)) (F0 m 38 ls []) := by
      intro d2
      induction d2 with
      | zero =>
        intro b hb H locs ls G hl
        obtain rfl : b = 6 := by omega
        refine lv_iload_n hC.1 hC.2.1 dX4_init_38 rfl (lv_at hl 2 rfl) ?_
        refine lv_bipush (v := 6) hC.1 hC.2.1 dX4_init_39 (by decide) ?_
        refine lv_icmp_ge (tgt := 68) hC.1 hC.2.1 dX4_init_41 (by decide) (fun _ => ?_) (fun c1 => absurd (show (6 : Int32) ≤ nI 6 by decide) c1)
        refine lv_iinc (v := nI (a + 1)) (lv' := [(1, .int (nI (a + 1))), (0, .ref (lay' 5)), (2, .int (nI 6))]) hC.1 hC.2.1 dX4_init_68 hl (k := 1) rfl (nI_1 a) (by decide) rfl (fun ls hl => ?_)
        refine lv_goto (tgt := 30) hC.1 hC.2.1 dX4_init_71 (by decide) ?_
        refine ih (a + 1) (by omega) H locs ls (gG_eq (fun k hk => ?_) G) (lv_sub hl [1, 0] rfl)
        unfold rdX
        rw [wyR_n]
      | succ d2 ih2 =>
        intro b hb H locs ls G hl
        have hb6 : b < 6 := by omega
        refine lv_iload_n hC.1 hC.2.1 dX4_init_38 rfl (lv_at hl 2 rfl) ?_
        refine lv_bipush (v := 6) hC.1 hC.2.1 dX4_init_39 (by decide) ?_
        refine lv_icmp_ge (tgt := 68) hC.1 hC.2.1 dX4_init_41 (by decide) (fun c1 => absurd c1 (nI_ge hb6 (by decide))) (fun _ => ?_)
        refine lv_aload_n hC.1 hC.2.1 dX4_init_44 rfl (lv_at hl 0 rfl) ?_
        refine g_get hC hT.1 G (by decide) rdX_5 k_X4 i_X4_init_X4 1 (by decide) (wm 7 rfl) rfl dX4_init_45 ?_
        refine lv_iload_n hC.1 hC.2.1 dX4_init_48 rfl (lv_at hl 1 rfl) ?_
        refine g_aalda (a := lay' (23 + a)) hC hT G (by decide) rdX_16 (vp_in_nI ha6 (by decide)) (by rw [nI_clamp (by omega), if_pos ha6]) dX4_init_49 ?_
        refine lv_iload_n hC.1 hC.2.1 dX4_init_50 rfl (lv_at hl 2 rfl) ?_
        refine lv_iload_n hC.1 hC.2.1 dX4_init_51 rfl (lv_at hl 1 rfl) ?_
        refine lv_iload_n hC.1 hC.2.1 dX4_init_52 rfl (lv_at hl 2 rfl) ?_
        have key : W p l e rm_X4_init s m args below meth c H locs 14 84 (MQ below (va_Qv (rdPost cy lay X) (gO D (gA lay X s.heap.size)) (gA lay X s.heap.size)) args s 14 84 (gA lay X s.heap.size)) (F0 m 61 ls [.int (wy0 a b), .int (nI b), .ref (lay' (23 + a))]) := by
          refine g_iast hC hT.1 G 0 (by omega) (rdX_w ha6) rfl (vp_in_nI hb6 (by decide)) dX4_init_61 (fun H locs G => ?_)
          refine lv_iinc (v := nI (b + 1)) (lv' := [(2, .int (nI (b + 1))), (0, .ref (lay' 5)), (1, .int (nI a))]) hC.1 hC.2.1 dX4_init_62 hl (k := 2) rfl (nI_1 b) (by decide) rfl (fun ls hl => ?_)
          refine lv_goto (tgt := 38) hC.1 hC.2.1 dX4_init_65 (by decide) ?_
          refine ih2 (b + 1) (by omega) H locs ls (gG_eq (fun k hk => ?_) G) (lv_sub hl [1, 2, 0] rfl)
          rw [nI_clamp (by omega)]
          by_cases h9 : k = 23 + a
          · subst h9
            rw [gU_eq, rdX_w ha6, wyR_s a b a hb6, if_pos rfl]
          · rw [gU_ne h9]
            unfold rdX
            by_cases h8 : 23 ≤ k ∧ k < 29
            · rw [wyR_s a b (k - 23) hb6, if_neg (by omega : ¬ k - 23 = a)]
            · rw [if_neg h8, if_neg h8]
        refine lv_icmp_ne (tgt := 60) hC.1 hC.2.1 dX4_init_53 (by decide) (fun c1 => ?_) (fun c1 => ?_)
        · refine lv_iconst (v := -1) hC.1 hC.2.1 dX4_init_60 (by decide) ?_
          have hne : ¬ a = b := fun z => c1 (by rw [z])
          have e2 : wy0 a b = -1 := if_neg hne
          rw [e2] at key
          exact key
        · refine lv_iconst (v := 0) hC.1 hC.2.1 dX4_init_56 (by decide) ?_
          refine lv_goto (tgt := 61) hC.1 hC.2.1 dX4_init_57 (by decide) ?_
          have heq : a = b := (nI_eq (by omega) (by omega)).mp c1
          have e2 : wy0 a b = 0 := if_pos heq
          rw [e2] at key
          exact key
    exact inner 6 0 (by omega) H locs ls G (lv_sub hl [1, 2, 0] rfl)
set_option maxHeartbeats 4000000 in
set_option maxRecDepth 100000 in
theorem c_X4_init (l : Launch) (D : va_G) (cy : Nat → ClassId) (lay : Nat → Nat) (X : Nat → Option va_E) (h5 : X 5 = some (.inr (9, [.null, .null]))) (hn : ∀ i, 15 ≤ i → i < 29 → X i = none) (sz : Nat) : Met l yX4_init wsX4_init rm_X4_init (va_Pc [.ref (lay 5)] (gIn D cy lay X sz)) (va_Qv (rdPost cy lay X) (gO D (gA lay X sz)) (gA lay X sz)) 14 84 (gA lay X sz) := by
  refine g_ofW (cc := cX4_init) (maxL := 3) (ret := none) (own := RX4) (Qc := fun sz => va_Qv (rdPost cy lay X) (gO D (gA lay X sz)) (gA lay X sz)) (by decide) rfl (Nat.le_of_ble_eq_true rfl) rfl ?_
  intro p e s m args below meth c ls hC hr hlocks hname hT G hl
  have hl : lv_has ls 3 [(0, .ref (lay 5))] := hl
  have hA : ∀ q, s.heap.size ≤ q → gA lay X s.heap.size q := fun _ h => Or.inr h
  refine lv_aload_n hC.1 hC.2.1 dX4_init_0 rfl (lv_at hl 0 rfl) ?_
  refine W.objInit hC.1 hC.2.1 hC.2.2.2.1 (hC.2.2.2.2 _ (wm 1 rfl)) (hC.2.2.2.2 _ (wm 2 rfl)) (hC.2.2.2.2 _ (wm 3 rfl)) rfl (by rw [hC.2.2.1]; exact hl.1) rfl dX4_init_1 (Nat.le_of_ble_eq_true rfl) (Nat.le_of_ble_eq_true rfl) ?_
  refine W.eq (g2 := F0 m 4 ls []) rfl ?_
  refine lv_aload_n hC.1 hC.2.1 dX4_init_4 rfl (lv_at hl 0 rfl) ?_
  refine lv_bipush (v := 6) hC.1 hC.2.1 dX4_init_5 (by decide) ?_
  refine lv_bipush (v := 6) hC.1 hC.2.1 dX4_init_7 (by decide) ?_
  refine g_mna (k0 := 15) (kb := 17) hC hT G hA (by decide) (by decide) (hn 15 (by decide) (by decide)) (fun i h1 h2 => hn i (by omega) (by omega)) (by omega) (wm 4 rfl) (wm 5 rfl) (Nat.le_of_ble_eq_true rfl) (Nat.le_of_ble_eq_true rfl) dX4_init_9 (fun lay1 H hl1 G => ?_)
  have e5 : mnX cy lay1 15 17 X 5 = some (.inr (9, [.null, .null])) := by
    unfold mnX
    rw [if_neg (by decide), if_neg (by decide)]
    exact h5
  refine g_putFA (k := 5) (hl1 5 (by decide) (by omega)) hC hT.1 G (by decide) e5 k_X4 i_X4_init_X4 0 (by decide) (wm 6 rfl) rfl hname rfl rfl rfl (by simp) dX4_init_13 (fun H locs G => ?_)
  have G : gG D lay1 (gU (mnX cy lay1 15 17 X) 5 (some (.inr (9, [.ref (lay1 15), .null])))) _ s.heap H locs := G
  refine lv_aload_n hC.1 hC.2.1 dX4_init_16 rfl (lv_at hl 0 rfl) ?_
  refine lv_bipush (v := 6) hC.1 hC.2.1 dX4_init_17 (by decide) ?_
  refine lv_bipush (v := 6) hC.1 hC.2.1 dX4_init_19 (by decide) ?_
  have hX2 : ∀ i, i ≠ 5 → i ≠ 15 → ¬ (17 ≤ i ∧ i < 17 + 6) → gU (mnX cy lay1 15 17 X) 5 (some (.inr (9, [.ref (lay1 15), .null]))) i = X i := fun i h1 h2 h3 => by
    rw [gU_ne h1]
    unfold mnX
    rw [if_neg h2, if_neg h3]
  refine g_mna (k0 := 16) (kb := 23) hC hT G hA (by decide) (by decide) ((hX2 16 (by decide) (by decide) (by omega)).trans (hn 16 (by decide) (by decide))) (fun i h1 h2 => (hX2 i (by omega) (by omega) (by omega)).trans (hn i (by omega) (by omega))) (by omega) (wm 4 rfl) (wm 5 rfl) (Nat.le_of_ble_eq_true rfl) (Nat.le_of_ble_eq_true rfl) dX4_init_21 (fun lay2 H hl2 G => ?_)
  have e5 : mnX cy lay2 16 23 (gU (mnX cy lay1 15 17 X) 5 (some (.inr (9, [.ref (lay1 15), .null])))) 5 = some (.inr (9, [.ref (lay1 15), .null])) := by
    unfold mnX
    rw [if_neg (by decide), if_neg (by decide)]
    exact gU_eq
  have h25 : lay2 5 = lay 5 := (hl2 5 (by decide) (by omega)).trans (hl1 5 (by decide) (by omega))
  refine g_putFA (k := 5) h25 hC hT.1 G (by decide) e5 k_X4 i_X4_init_X4 1 (by decide) (wm 7 rfl) rfl hname rfl rfl rfl (by simp) dX4_init_25 (fun H locs G => ?_)
  have G : gG D lay2 (gU (mnX cy lay2 16 23 (gU (mnX cy lay1 15 17 X) 5 (some (.inr (9, [.ref (lay1 15), .null]))))) 5 (some (.inr (9, [.ref (lay1 15), .ref (lay2 16)])))) _ s.heap H locs := G
  refine lv_iconst (v := 0) hC.1 hC.2.1 dX4_init_28 (by decide) ?_
  rw [← h25] at hl
  refine lv_istore_n (lv' := [(1, .int 0), (0, .ref (lay2 5))]) hC.1 hC.2.1 dX4_init_29 rfl hl (by decide) rfl (fun ls hl => ?_)
  refine l_X4_init_30 hC hr hlocks hT (fun i hi => (hl2 i (by omega) (by omega)).trans (hl1 i (by omega) (by omega))) 6 0 (by omega) H locs ls (gG_eq (fun k hk => ?_) G) (lv_sub hl [1, 0] rfl)
  have h15 : lay2 15 = lay1 15 := hl2 15 (by decide) (by omega)
  unfold rdX
  by_cases k5 : k = 5
  · subst k5
    rw [gU_eq, if_pos rfl, h15]
  rw [gU_ne k5, if_neg k5]
  unfold mnX
  by_cases k16 : k = 16
  · subst k16
    rfl
  rw [if_neg k16, if_neg k16]
  by_cases k23 : 23 ≤ k ∧ k < 23 + 6
  · rw [if_pos k23, if_neg (by omega), if_neg (by omega), if_pos (by omega), wyR_0]
  rw [if_neg k23, gU_ne k5]
  by_cases k15 : k = 15
  · subst k15
    rw [if_pos rfl, if_pos rfl]
    have hf : (fun j => if j < 6 then some (lay1 (17 + j)) else none) = (fun j => if j < 6 then some (lay2 (17 + j)) else none) := by
      funext j
      by_cases hj : j < 6
      · rw [if_pos hj, if_pos hj, hl2 (17 + j) (by omega) (by omega)]
      · rw [if_neg hj, if_neg hj]
    rw [hf]
  rw [if_neg k15, if_neg k15]
  by_cases k17 : 17 ≤ k ∧ k < 17 + 6
  · rw [if_pos k17, if_pos (by omega)]
  rw [if_neg k17, if_neg (by omega), if_neg (by omega)]
