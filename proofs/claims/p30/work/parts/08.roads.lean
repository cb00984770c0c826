section
theorem va_P_mem {D : va_G} {ws : va_W} {H : Heap} {x : Nat × va_E} (h : va_P D vwCl ws H) (hm : x ∈ ws) : va_at D vwCl x H := by
  obtain ⟨i, hi⟩ := List.getElem?_of_mem hm
  exact h i x hi
/-- new int[6][6] as cells k0 and kb to kb + 5 -/
def mnX (cy : Nat → ClassId) (lay' : Nat → Nat) (k0 kb : Nat) (X : Nat → Option va_E) : Nat → Option va_E := fun i =>
  if i = k0 then some (.inl (cy 6, 6, .inr (.inr (.inr (.inr (fun j => if j < 6 then some (lay' (kb + j)) else none))))))
  else if kb ≤ i ∧ i < kb + 6 then some (.inl (cy 0, 6, .inl (fun _ => 0))) else X i
section GMNA
variable {p : Program} {l : Launch} {e : Env} {R : Room} {s : State} {m : MethodId} {args : Array Value} {below : List Frame} {meth : Method} {c : Code} {H : Heap} {locs : List Loc} {cells slots : Nat} {Q : State → Prop}
variable {cc : ByteArray} {pc nL index : Nat} {ls : Array Slot} {rest : List Value} {D : va_G} {cy : Nat → ClassId} {lay : Nat → Nat} {X : Nat → Option va_E} {A : Nat → Prop} {H0 : Heap} {Ts : List Cond} {own : String}
theorem g_mna (hC : CallFix p m c cc nL s args Ts own) (hT : gT D cy s) (G : gG D lay X A H0 H locs) (hA : ∀ q, H0.size ≤ q → A q) {k0 kb : Nat} (hk0 : k0 < 128) (hkb : kb + 6 ≤ 128) (h0 : X k0 = none) (hb : ∀ i, kb ≤ i → i < kb + 6 → X i = none) (h0b : ¬ (kb ≤ k0 ∧ k0 < kb + 6)) (hlk : Cond.classLink own index "[[I" ∈ Ts) (harr : Cond.arrayClass .int ∈ Ts) (hcells : cells + 7 ≤ R.cells) (hslots : slots + 42 ≤ R.slots) (hdg : decode cc pc = .ok (.multianewarray index 2, 4))
    (kk : ∀ (lay' : Nat → Nat) (H1 : Heap), (∀ i, i ≠ k0 → ¬ (kb ≤ i ∧ i < kb + 6) → lay' i = lay i) → gG D lay' (mnX cy lay' k0 kb X) A H0 H1 locs → W p l e R s m args below meth c H1 locs (cells + 1 + 6) (slots + 6 + 6 * 6) Q (F0 m (pc + 4) ls (.ref (lay' k0) :: rest))) : W p l e R s m args below meth c H locs cells slots Q (F0 m pc ls (.int 6 :: .int 6 :: rest)) := by
  have e1 : "[" ++ (FieldType.array FieldType.int).toString = "[[I" := by decide +kernel
  have hcl := hC.2.2.2.2 _ hlk
  rw [← e1] at hcl
  have hcy : s.vm.findClass (FieldType.array FieldType.int).toString = some (cy 0) := (hT.1.2 0 (cy 0, .int) rfl).2
  have hP0 : va_P D vwCl (gW lay X ++ va_pl [] (fun _ => .inr (0, []))) H := by
    have := gP_list G.1
    unfold va_pl
    rw [List.map_nil, List.append_nil]
    exact this
  have hD0 : va_D A (gW lay X ++ va_pl [] (fun _ => .inr (0, []))) := by
    have := gI_list G.2.1
    unfold va_pl
    rw [List.map_nil, List.append_nil]
    exact this
  refine va_mna (X := gW lay X) (L := []) (f := fun _ => .inr (0, [])) (ty := .int) (cy := cy 0) (N' := 6) (K' := 6) (z := (6, .inl (fun _ => 0))) hC.1 hC.2.1 hC.2.2.2.1 hcl hT.2.2.2 (hC.2.2.2.2 _ harr) hcy hT.1 hP0 hD0 G.2.2 hA (by decide) (by decide) (by decide) (by decide) (by decide) (by decide) (by decide) (by decide) (by decide) (by omega) (by omega) (fun c => by rw [vp_cell_i, ← arrV_new]; rfl) hdg (fun q r cA H1 hinj _ hK' hP hD hS => ?_)
  have h1 := (hK'.2 (fdT cy).length (cA, .array .int) (by rw [List.getElem?_append_right (Nat.le_refl _), Nat.sub_self]; rfl)).2
  have h2 := (hT.1.2 6 (cy 6, .array .int) rfl).2
  have hc : cA = cy 6 := Option.some.inj (Eq.trans (Eq.symm h1) h2)
  subst hc
  rw [List.nil_append] at hP hD
  have h := kk (fun i => if i = k0 then q else if kb ≤ i ∧ i < kb + 6 then r (i - kb) else lay i) H1 (fun i h1 h2 => by rw [if_neg h1, if_neg h2]) ?_
  · rw [if_pos rfl] at h
    exact h
  · have hlay0 : (fun i => if i = k0 then q else if kb ≤ i ∧ i < kb + 6 then r (i - kb) else lay i) k0 = q := if_pos rfl
    have hlayr : ∀ j, j < 6 → (fun i => if i = k0 then q else if kb ≤ i ∧ i < kb + 6 then r (i - kb) else lay i) (kb + j) = r j := fun j hj => by
      show (if kb + j = k0 then q else if kb ≤ kb + j ∧ kb + j < kb + 6 then r (kb + j - kb) else lay (kb + j)) = r j
      rw [if_neg (by omega), if_pos (by omega), show kb + j - kb = j by omega]
    have hlayo : ∀ i, i ≠ k0 → ¬ (kb ≤ i ∧ i < kb + 6) → (fun i => if i = k0 then q else if kb ≤ i ∧ i < kb + 6 then r (i - kb) else lay i) i = lay i := fun i h1 h2 => by
      show (if i = k0 then q else if kb ≤ i ∧ i < kb + 6 then r (i - kb) else lay i) = lay i
      rw [if_neg h1, if_neg h2]
    generalize (fun i => if i = k0 then q else if kb ≤ i ∧ i < kb + 6 then r (i - kb) else lay i) = lay' at hlay0 hlayr hlayo
    have hpl : ∀ j, j < 6 → (r j, (.inl (cy 0, 6, .inl (fun _ => 0)) : va_E)) ∈ va_pl ((List.range 6).map r) (vr_up (fun _ => .inr (0, [])) ((List.range 6).map r) (.inl (cy 0, 6, .inl (fun _ => 0)))) := fun j hj => by
      have hm : r j ∈ (List.range 6).map r := List.mem_map.mpr ⟨j, List.mem_range.mpr hj, rfl⟩
      unfold va_pl
      refine List.mem_map.mpr ⟨r j, hm, ?_⟩
      rw [vr_up_in hm]
    have hout : (.inl (cy 6, 6, .inr (.inr (.inr (.inr (fun i => if i < 6 then some (r i) else none))))) : va_E) = .inl (cy 6, 6, .inr (.inr (.inr (.inr (fun j => if j < 6 then some (lay' (kb + j)) else none))))) := by
      have hf : (fun i => if i < 6 then some (r i) else none) = (fun j => if j < 6 then some (lay' (kb + j)) else none) := by
        funext j
        by_cases hj : j < 6
        · rw [if_pos hj, if_pos hj, hlayr j hj]
        · rw [if_neg hj, if_neg hj]
      rw [hf]
    rw [hout] at hP hD
    -- each cell of the new world stands in the list
    have hmem : ∀ i f, i < 128 → mnX cy lay' k0 kb X i = some f → (lay' i, f) ∈ (gW lay X ++ [(q, .inl (cy 6, 6, .inr (.inr (.inr (.inr (fun j => if j < 6 then some (lay' (kb + j)) else none))))))]) ++ va_pl ((List.range 6).map r) (vr_up (fun _ => .inr (0, [])) ((List.range 6).map r) (.inl (cy 0, 6, .inl (fun _ => 0)))) := fun i f hi hf => by
      unfold mnX at hf
      by_cases h1 : i = k0
      · rw [if_pos h1] at hf
        cases hf
        rw [h1, hlay0]
        exact List.mem_append_left _ (List.mem_append_right _ List.mem_cons_self)
      · rw [if_neg h1] at hf
        by_cases h2 : kb ≤ i ∧ i < kb + 6
        · rw [if_pos h2] at hf
          cases hf
          have := hlayr (i - kb) (by omega)
          rw [show kb + (i - kb) = i by omega] at this
          rw [this]
          exact List.mem_append_right _ (hpl _ (by omega))
        · rw [if_neg h2] at hf
          rw [hlayo i h1 h2]
          obtain ⟨q2, hq2⟩ := gW_pos (lay := lay) hi hf
          exact List.mem_append_left _ (List.mem_append_left _ (List.mem_of_getElem? hq2))
    have hqn : ∀ i f, i < 128 → X i = some f → lay i ≠ q := fun i f hi hf z => by
      obtain ⟨q2, hq2⟩ := gW_pos (lay := lay) hi hf
      have hl := (List.getElem?_eq_some_iff.mp hq2).1
      have := hD.1 q2 (gW lay X).length (lay i, f) (q, _) (by rw [List.getElem?_append_left (by rw [List.length_append]; exact Nat.lt_of_lt_of_le hl (Nat.le_add_right _ _)), List.getElem?_append_left hl]; exact hq2) (by rw [List.getElem?_append_left (by rw [List.length_append]; exact Nat.lt_succ_self _), List.getElem?_append_right (Nat.le_refl _), Nat.sub_self]; rfl) z
      omega
    have hpos : ∀ j, j < 6 → ∃ n2 f, (gW lay X).length + 1 ≤ n2 ∧ ((gW lay X ++ [(q, .inl (cy 6, 6, .inr (.inr (.inr (.inr (fun j => if j < 6 then some (lay' (kb + j)) else none))))))]) ++ va_pl ((List.range 6).map r) (vr_up (fun _ => .inr (0, [])) ((List.range 6).map r) (.inl (cy 0, 6, .inl (fun _ => 0)))))[n2]? = some (r j, f) := fun j hj => by
      have h9 := List.getElem?_of_mem (hpl j hj)
      obtain ⟨n3, h3⟩ := h9
      have h10 : ((gW lay X ++ [(q, .inl (cy 6, 6, .inr (.inr (.inr (.inr (fun j => if j < 6 then some (lay' (kb + j)) else none))))))]) ++ va_pl ((List.range 6).map r) (vr_up (fun _ => .inr (0, [])) ((List.range 6).map r) (.inl (cy 0, 6, .inl (fun _ => 0)))))[(gW lay X).length + 1 + n3]? = some (r j, .inl (cy 0, 6, .inl (fun _ => 0))) := by
        rw [List.getElem?_append_right (by rw [List.length_append]; exact Nat.le_add_right _ _), List.length_append, List.length_singleton, Nat.add_sub_cancel_left]
        exact h3
      exact ⟨(gW lay X).length + 1 + n3, _, Nat.le_add_right _ _, h10⟩
    have hrn : ∀ i f j, i < 128 → X i = some f → j < 6 → lay i ≠ r j := fun i f j hi hf hj z => by
      obtain ⟨q2, hq2⟩ := gW_pos (lay := lay) hi hf
      have hl := (List.getElem?_eq_some_iff.mp hq2).1
      obtain ⟨n2, f2, h3, h4⟩ := hpos j hj
      have := hD.1 q2 n2 (lay i, f) (r j, f2) (by rw [List.getElem?_append_left (by rw [List.length_append]; exact Nat.lt_of_lt_of_le hl (Nat.le_add_right _ _)), List.getElem?_append_left hl]; exact hq2) h4 z
      omega
    have hqr : ∀ j, j < 6 → q ≠ r j := fun j hj z => by
      obtain ⟨n2, f2, h3, h4⟩ := hpos j hj
      have := hD.1 (gW lay X).length n2 (q, _) (r j, f2) (by rw [List.getElem?_append_left (by rw [List.length_append]; exact Nat.lt_succ_self _), List.getElem?_append_right (Nat.le_refl _), Nat.sub_self]; rfl) h4 z
      omega
    -- where each cell's address comes from
    have hcase : ∀ i f, i < 128 → mnX cy lay' k0 kb X i = some f → (i = k0 ∧ lay' i = q) ∨ (∃ j, j < 6 ∧ i = kb + j ∧ lay' i = r j) ∨ (∃ g, X i = some g ∧ lay' i = lay i ∧ i ≠ k0 ∧ ¬ (kb ≤ i ∧ i < kb + 6)) := fun i f hi hf => by
      by_cases h1 : i = k0
      · exact Or.inl ⟨h1, by rw [h1]; exact hlay0⟩
      · by_cases h2 : kb ≤ i ∧ i < kb + 6
        · refine Or.inr (Or.inl ⟨i - kb, by omega, by omega, ?_⟩)
          have := hlayr (i - kb) (by omega)
          rw [show kb + (i - kb) = i by omega] at this
          exact this
        · unfold mnX at hf
          rw [if_neg h1, if_neg h2] at hf
          exact Or.inr (Or.inr ⟨f, hf, hlayo i h1 h2, h1, h2⟩)
    refine ⟨fun i f hi hf => va_P_mem hP (hmem i f hi hf), ⟨fun i j a b hi hj ha hb hab => ?_, fun i a hi ha => ?_⟩, hS⟩
    · rcases hcase i a hi ha with ⟨u1, u2⟩ | ⟨u, u1, u2, u3⟩ | ⟨g1, u1, u2, u3, u4⟩ <;> rcases hcase j b hj hb with ⟨v1, v2⟩ | ⟨v, v1, v2, v3⟩ | ⟨g2, v1, v2, v3, v4⟩
      · rw [u1, v1]
      · rw [u2, v3] at hab; exact absurd hab (hqr v v1)
      · rw [u2, v2] at hab; exact absurd hab.symm (hqn j g2 hj v1)
      · rw [u3, v2] at hab; exact absurd hab.symm (hqr u u1)
      · rw [u3, v3] at hab; rw [u2, v2, hinj u v u1 v1 hab]
      · rw [u3, v2] at hab; exact absurd hab.symm (hrn j g2 u hj v1 u1)
      · rw [u2, v2] at hab; exact absurd hab (hqn i g1 hi u1)
      · rw [u2, v3] at hab; exact absurd hab (hrn i g1 v hi u1 v1)
      · rw [u2, v2] at hab; exact G.2.1.1 i j g1 g2 hi hj u1 v1 hab
    · obtain ⟨n2, h2⟩ := List.getElem?_of_mem (hmem i a hi ha)
      exact hD.2 n2 _ h2
end GMNA
end
section
section GAALD
variable {p : Program} {l : Launch} {e : Env} {R : Room} {s : State} {m : MethodId} {args : Array Value} {below : List Frame} {meth : Method} {c : Code} {H : Heap} {locs : List Loc} {cells slots : Nat} {Q : State → Prop}
variable {cc : ByteArray} {pc nL : Nat} {ls : Array Slot} {rest : List Value} {D : va_G} {cy : Nat → ClassId} {lay : Nat → Nat} {X : Nat → Option va_E} {A : Nat → Prop} {H0 : Heap} {Ts : List Cond} {own : String}
theorem g_aalda (hC : CallFix p m c cc nL s args Ts own) (hT : gT D cy s) (G : gG D lay X A H0 H locs) {k : Nat} (hk : k < 128) {n a : Nat} {f : Nat → Option Nat} (he : X k = some (.inl (cy 6, n, .inr (.inr (.inr (.inr f)))))) {i : Int32} (hin : vp_in i n) (hf : f i.toNatClampNeg = some a) (hdg : decode cc pc = .ok (.aaload, 1))
    (kk : W p l e R s m args below meth c H locs cells slots Q (F0 m (pc + 1) ls (.ref a :: rest))) : W p l e R s m args below meth c H locs cells slots Q (F0 m pc ls (.int i :: .ref (lay k) :: rest)) := by
  have hlt : i.toNatClampNeg < n := vlt hin
  refine W.aald (v := va_rf (f i.toNatClampNeg)) (ty := .array .int) hC.1 hC.2.1 (G.1 k _ hk he) ((hT.1.2 6 _ rfl).1 n (fun j => va_rf (f j))) rfl (fun q => by cases q) (by show ¬ (i < 0 ∨ (arrV _ _ _).slots.size ≤ _); rw [arrV_size]; exact hin) (by show (arrV _ _ _).slots[_]? = _; rw [arrV_read _ _ hlt]) rfl rfl hdg ?_
  rw [hf]
  exact kk
end GAALD
def wy0 (a j : Nat) : Int32 := if a = j then 0 else -1
/-- row i of ways, as a rows are done and b places of row a -/
def wyR (a b i : Nat) : Nat → Int32 := fun j => if i < a ∨ (i = a ∧ j < b) then (if j < 6 then wy0 i j else 0) else 0
def rdX (cy : Nat → ClassId) (lay' : Nat → Nat) (X : Nat → Option va_E) (a b : Nat) : Nat → Option va_E := fun i =>
  if i = 5 then some (.inr (9, [.ref (lay' 15), .ref (lay' 16)]))
  else if i = 15 then some (.inl (cy 6, 6, .inr (.inr (.inr (.inr (fun j => if j < 6 then some (lay' (17 + j)) else none))))))
  else if i = 16 then some (.inl (cy 6, 6, .inr (.inr (.inr (.inr (fun j => if j < 6 then some (lay' (23 + j)) else none))))))
  else if 17 ≤ i ∧ i < 23 then some (.inl (cy 0, 6, .inl (fun _ => 0)))
  else if 23 ≤ i ∧ i < 29 then some (.inl (cy 0, 6, .inl (wyR a b (i - 23))))
  else X i
theorem wyR_0 (i : Nat) : wyR 0 0 i = fun _ => 0 := by
  funext j
  unfold wyR
  rw [if_neg (by omega)]
theorem wyR_s (a b i : Nat) (hb : b < 6) : wyR a (b + 1) i = if i = a then upd (wyR a b a) b (wy0 a b) else wyR a b i := by
  by_cases h : i = a
  · subst h
    rw [if_pos rfl]
    funext j
    unfold upd
    by_cases hj : j = b
    · subst hj
      rw [if_pos rfl]
      unfold wyR
      rw [if_pos (show i < i ∨ (i = i ∧ j < j + 1) by omega), if_pos hb]
    · rw [if_neg hj]
      unfold wyR
      by_cases h2 : j < b
      · rw [if_pos (show i < i ∨ (i = i ∧ j < b + 1) by omega), if_pos (show i < i ∨ (i = i ∧ j < b) by omega)]
      · rw [if_neg (show ¬ (i < i ∨ (i = i ∧ j < b + 1)) by omega), if_neg (show ¬ (i < i ∨ (i = i ∧ j < b)) by omega)]
  · rw [if_neg h]
    funext j
    unfold wyR
    by_cases h2 : i < a
    · rw [if_pos (show i < a ∨ (i = a ∧ j < b + 1) by omega), if_pos (show i < a ∨ (i = a ∧ j < b) by omega)]
    · rw [if_neg (show ¬ (i < a ∨ (i = a ∧ j < b + 1)) by omega), if_neg (show ¬ (i < a ∨ (i = a ∧ j < b)) by omega)]
theorem wyR_n (a i : Nat) : wyR (a + 1) 0 i = wyR a 6 i := by
  funext j
  unfold wyR
  by_cases h : i < a
  · rw [if_pos (show i < a + 1 ∨ (i = a + 1 ∧ j < 0) by omega), if_pos (show i < a ∨ (i = a ∧ j < 6) by omega)]
  · by_cases h2 : i = a
    · subst h2
      rw [if_pos (show i < i + 1 ∨ (i = i + 1 ∧ j < 0) by omega)]
      by_cases hj : j < 6
      · rw [if_pos (show i < i ∨ (i = i ∧ j < 6) by omega)]
      · rw [if_neg hj, if_neg (show ¬ (i < i ∨ (i = i ∧ j < 6)) by omega)]
    · rw [if_neg (show ¬ (i < a + 1 ∨ (i = a + 1 ∧ j < 0)) by omega), if_neg (show ¬ (i < a ∨ (i = a ∧ j < 6)) by omega)]
theorem rdX_5 {cy : Nat → ClassId} {lay' : Nat → Nat} {X : Nat → Option va_E} {a b : Nat} : rdX cy lay' X a b 5 = some (.inr (9, [.ref (lay' 15), .ref (lay' 16)])) := rfl
theorem rdX_16 {cy : Nat → ClassId} {lay' : Nat → Nat} {X : Nat → Option va_E} {a b : Nat} : rdX cy lay' X a b 16 = some (.inl (cy 6, 6, .inr (.inr (.inr (.inr (fun j => if j < 6 then some (lay' (23 + j)) else none)))))) := rfl
theorem rdX_w {cy : Nat → ClassId} {lay' : Nat → Nat} {X : Nat → Option va_E} {a b i : Nat} (h : i < 6) : rdX cy lay' X a b (23 + i) = some (.inl (cy 0, 6, .inl (wyR a b i))) := by
  unfold rdX
  rw [if_neg (by omega), if_neg (by omega), if_neg (by omega), if_neg (by omega), if_pos (by omega), show 23 + i - 23 = i by omega]
abbrev rm_X4_init : Room := { frames := 1, cells := 14, slots := 84, locals := 16 }
theorem i_X4_init_X4 : ∀ w ∈ wsX40, w ∈ wsX4_init := fun _ h => List.mem_cons_of_mem _ (List.mem_append_right _ h)
abbrev rdPost (cy : Nat → ClassId) (lay : Nat → Nat) (X : Nat → Option va_E) : GY → Prop := fun Y => (∀ i, i < 15 ∨ 29 ≤ i → Y.1 i = lay i) ∧ Y.2 = rdX cy Y.1 X 6 0
set_option maxHeartbeats 4000000 in
set_option maxRecDepth 100000 in
theorem l_X4_init_30 {p : Program} {l : Launch} {e : Env} {s : State} {m : MethodId} {args : Array Value} {below : List Frame} {meth : Method} {c : Code} {D : va_G} {cy : Nat → ClassId} {lay lay' : Nat → Nat} {X : Nat → Option va_E} (hC : CallFix p m c cX4_init 3 s args wsX4_init RX4) (hr : meth.sig.returnType = none) (hlocks : meth.locks = false) (hT : gT D cy s) (hlay : ∀ i, i < 15 ∨ 29 ≤ i → lay' i = lay i) :
    ∀ (d a : Nat), a + d = 6 → ∀ (H : Heap) (locs : List Loc) (ls : Array Slot), gG D lay' (rdX cy lay' X a 0) (gA lay X s.heap.size) s.heap H locs → lv_has ls 3 [(0, .ref (lay' 5)), (1, .int (nI a))] → W p l e rm_X4_init s m args below meth c H locs 14 84 (MQ below (va_Qv (rdPost cy lay X) (gO D (gA lay X s.heap.size)) (gA lay X s.heap.size)) args s 14 84 (gA lay X s.heap.size)) (F0 m 30 ls []) := by
  intro d
  induction d with
  | zero =>
    intro a ha H locs ls G hl
    obtain rfl : a = 6 := by omega
    refine lv_iload_n hC.1 hC.2.1 dX4_init_30 rfl (lv_at hl 1 rfl) ?_
    refine lv_bipush (v := 6) hC.1 hC.2.1 dX4_init_31 (by decide) ?_
    refine lv_icmp_ge (tgt := 74) hC.1 hC.2.1 dX4_init_33 (by decide) (fun _ => ?_) (fun c1 => absurd (show (6 : Int32) ≤ nI 6 by decide) c1)
    exact g_vret (Y := (lay', rdX cy lay' X 6 0)) hC hr hlocks G ⟨hlay, rfl⟩ dX4_init_74
  | succ d ih =>
    intro a ha H locs ls G hl
    have ha6 : a < 6 := by omega
    refine lv_iload_n hC.1 hC.2.1 dX4_init_30 rfl (lv_at hl 1 rfl) ?_
    refine lv_bipush (v := 6) hC.1 hC.2.1 dX4_init_31 (by decide) ?_
    refine lv_icmp_ge (tgt := 74) hC.1 hC.2.1 dX4_init_33 (by decide) (fun c1 => absurd c1 (nI_ge ha6 (by decide))) (fun _ => ?_)
    refine lv_iconst (v := 0) hC.1 hC.2.1 dX4_init_36 (by decide) ?_
    refine lv_istore_n (lv' := [(2, .int 0), (0, .ref (lay' 5)), (1, .int (nI a))]) hC.1 hC.2.1 dX4_init_37 rfl hl (by decide) rfl (fun ls hl => ?_)
    have inner : ∀ (d2 b : Nat), b + d2 = 6 → ∀ (H : Heap) (locs : List Loc) (ls : Array Slot), gG D lay' (rdX cy lay' X a b) (gA lay X s.heap.size) s.heap H locs → lv_has ls 3 [(0, .ref (lay' 5)), (1, .int (nI a)), (2, .int (nI b))] → W p l e rm_X4_init s m args below meth c H locs 14 84 (MQ below (va_Qv (rdPost cy lay X) (gO D (gA lay X s.heap.size)) (gA lay X s.heap.size)) args s 14 84 (gA lay X s.heap.size)) (F0 m 38 ls []) := by
      intro d2
      induction d2 with
      | zero =>
        intro b hb H locs ls G hl
        obtain rfl : b = 6 := by omega
        refine lv_iload_n hC.1 hC.2.1 dX4_init_38 rfl (lv_at hl 2 rfl) ?_
        refine lv_bipush (v := 6) hC.1 hC.2.1 dX4_init_39 (by decide) ?_
        refine lv_icmp_ge (tgt := 68) hC.1 hC.2.1 dX4_init_41 (by decide) (fun _ => ?_) (fun c1 => absurd (show (6 : Int32) ≤ nI 6 by decide) c1)
        refine lv_iinc (v := nI (a + 1)) (lv' := [(1, .int (nI (a + 1))), (0, .ref (lay' 5)), (2, .int (nI 6))]) hC.1 hC.2.1 dX4_init_68 hl (k := 1) rfl (nI_1 a) (by decide) rfl (fun ls hl => ?_)
        refine lv_goto (tgt := 30) hC.1 hC.2.1 dX4_init_71 (by decide) ?_
        refine ih (a + 1) (by omega) H locs ls (gG_eq (fun k hk => ?_) G) (lv_sub hl [1, 0] rfl)
        unfold rdX
        rw [wyR_n]
      | succ d2 ih2 =>
        intro b hb H locs ls G hl
        have hb6 : b < 6 := by omega
        refine lv_iload_n hC.1 hC.2.1 dX4_init_38 rfl (lv_at hl 2 rfl) ?_
        refine lv_bipush (v := 6) hC.1 hC.2.1 dX4_init_39 (by decide) ?_
        refine lv_icmp_ge (tgt := 68) hC.1 hC.2.1 dX4_init_41 (by decide) (fun c1 => absurd c1 (nI_ge hb6 (by decide))) (fun _ => ?_)
        refine lv_aload_n hC.1 hC.2.1 dX4_init_44 rfl (lv_at hl 0 rfl) ?_
        refine g_get hC hT.1 G (by decide) rdX_5 k_X4 i_X4_init_X4 1 (by decide) (wm 7 rfl) rfl dX4_init_45 ?_
        refine lv_iload_n hC.1 hC.2.1 dX4_init_48 rfl (lv_at hl 1 rfl) ?_
        refine g_aalda (a := lay' (23 + a)) hC hT G (by decide) rdX_16 (vp_in_nI ha6 (by decide)) (by rw [nI_clamp (by omega), if_pos ha6]) dX4_init_49 ?_
        refine lv_iload_n hC.1 hC.2.1 dX4_init_50 rfl (lv_at hl 2 rfl) ?_
        refine lv_iload_n hC.1 hC.2.1 dX4_init_51 rfl (lv_at hl 1 rfl) ?_
        refine lv_iload_n hC.1 hC.2.1 dX4_init_52 rfl (lv_at hl 2 rfl) ?_
        have key : W p l e rm_X4_init s m args below meth c H locs 14 84 (MQ below (va_Qv (rdPost cy lay X) (gO D (gA lay X s.heap.size)) (gA lay X s.heap.size)) args s 14 84 (gA lay X s.heap.size)) (F0 m 61 ls [.int (wy0 a b), .int (nI b), .ref (lay' (23 + a))]) := by
          refine g_iast hC hT.1 G 0 (by omega) (rdX_w ha6) rfl (vp_in_nI hb6 (by decide)) dX4_init_61 (fun H locs G => ?_)
          refine lv_iinc (v := nI (b + 1)) (lv' := [(2, .int (nI (b + 1))), (0, .ref (lay' 5)), (1, .int (nI a))]) hC.1 hC.2.1 dX4_init_62 hl (k := 2) rfl (nI_1 b) (by decide) rfl (fun ls hl => ?_)
          refine lv_goto (tgt := 38) hC.1 hC.2.1 dX4_init_65 (by decide) ?_
          refine ih2 (b + 1) (by omega) H locs ls (gG_eq (fun k hk => ?_) G) (lv_sub hl [1, 2, 0] rfl)
          rw [nI_clamp (by omega)]
          by_cases h9 : k = 23 + a
          · subst h9
            rw [gU_eq, rdX_w ha6, wyR_s a b a hb6, if_pos rfl]
          · rw [gU_ne h9]
            unfold rdX
            by_cases h8 : 23 ≤ k ∧ k < 29
            · rw [wyR_s a b (k - 23) hb6, if_neg (by omega : ¬ k - 23 = a)]
            · rw [if_neg h8, if_neg h8]
        refine lv_icmp_ne (tgt := 60) hC.1 hC.2.1 dX4_init_53 (by decide) (fun c1 => ?_) (fun c1 => ?_)
        · refine lv_iconst (v := -1) hC.1 hC.2.1 dX4_init_60 (by decide) ?_
          have hne : ¬ a = b := fun z => c1 (by rw [z])
          have e2 : wy0 a b = -1 := if_neg hne
          rw [e2] at key
          exact key
        · refine lv_iconst (v := 0) hC.1 hC.2.1 dX4_init_56 (by decide) ?_
          refine lv_goto (tgt := 61) hC.1 hC.2.1 dX4_init_57 (by decide) ?_
          have heq : a = b := (nI_eq (by omega) (by omega)).mp c1
          have e2 : wy0 a b = 0 := if_pos heq
          rw [e2] at key
          exact key
    exact inner 6 0 (by omega) H locs ls G (lv_sub hl [1, 2, 0] rfl)
set_option maxHeartbeats 4000000 in
set_option maxRecDepth 100000 in
theorem c_X4_init (l : Launch) (D : va_G) (cy : Nat → ClassId) (lay : Nat → Nat) (X : Nat → Option va_E) (h5 : X 5 = some (.inr (9, [.null, .null]))) (hn : ∀ i, 15 ≤ i → i < 29 → X i = none) (sz : Nat) : Met l yX4_init wsX4_init rm_X4_init (va_Pc [.ref (lay 5)] (gIn D cy lay X sz)) (va_Qv (rdPost cy lay X) (gO D (gA lay X sz)) (gA lay X sz)) 14 84 (gA lay X sz) := by
  refine g_ofW (cc := cX4_init) (maxL := 3) (ret := none) (own := RX4) (Qc := fun sz => va_Qv (rdPost cy lay X) (gO D (gA lay X sz)) (gA lay X sz)) (by decide) rfl (Nat.le_of_ble_eq_true rfl) rfl ?_
  intro p e s m args below meth c ls hC hr hlocks hname hT G hl
  have hl : lv_has ls 3 [(0, .ref (lay 5))] := hl
  have hA : ∀ q, s.heap.size ≤ q → gA lay X s.heap.size q := fun _ h => Or.inr h
  refine lv_aload_n hC.1 hC.2.1 dX4_init_0 rfl (lv_at hl 0 rfl) ?_
  refine W.objInit hC.1 hC.2.1 hC.2.2.2.1 (hC.2.2.2.2 _ (wm 1 rfl)) (hC.2.2.2.2 _ (wm 2 rfl)) (hC.2.2.2.2 _ (wm 3 rfl)) rfl (by rw [hC.2.2.1]; exact hl.1) rfl dX4_init_1 (Nat.le_of_ble_eq_true rfl) (Nat.le_of_ble_eq_true rfl) ?_
  refine W.eq (g2 := F0 m 4 ls []) rfl ?_
  refine lv_aload_n hC.1 hC.2.1 dX4_init_4 rfl (lv_at hl 0 rfl) ?_
  refine lv_bipush (v := 6) hC.1 hC.2.1 dX4_init_5 (by decide) ?_
  refine lv_bipush (v := 6) hC.1 hC.2.1 dX4_init_7 (by decide) ?_
  refine g_mna (k0 := 15) (kb := 17) hC hT G hA (by decide) (by decide) (hn 15 (by decide) (by decide)) (fun i h1 h2 => hn i (by omega) (by omega)) (by omega) (wm 4 rfl) (wm 5 rfl) (Nat.le_of_ble_eq_true rfl) (Nat.le_of_ble_eq_true rfl) dX4_init_9 (fun lay1 H hl1 G => ?_)
  have e5 : mnX cy lay1 15 17 X 5 = some (.inr (9, [.null, .null])) := by
    unfold mnX
    rw [if_neg (by decide), if_neg (by decide)]
    exact h5
  refine g_putFA (k := 5) (hl1 5 (by decide) (by omega)) hC hT.1 G (by decide) e5 k_X4 i_X4_init_X4 0 (by decide) (wm 6 rfl) rfl hname rfl rfl rfl (by simp) dX4_init_13 (fun H locs G => ?_)
  have G : gG D lay1 (gU (mnX cy lay1 15 17 X) 5 (some (.inr (9, [.ref (lay1 15), .null])))) _ s.heap H locs := G
  refine lv_aload_n hC.1 hC.2.1 dX4_init_16 rfl (lv_at hl 0 rfl) ?_
  refine lv_bipush (v := 6) hC.1 hC.2.1 dX4_init_17 (by decide) ?_
  refine lv_bipush (v := 6) hC.1 hC.2.1 dX4_init_19 (by decide) ?_
  have hX2 : ∀ i, i ≠ 5 → i ≠ 15 → ¬ (17 ≤ i ∧ i < 17 + 6) → gU (mnX cy lay1 15 17 X) 5 (some (.inr (9, [.ref (lay1 15), .null]))) i = X i := fun i h1 h2 h3 => by
    rw [gU_ne h1]
    unfold mnX
    rw [if_neg h2, if_neg h3]
  refine g_mna (k0 := 16) (kb := 23) hC hT G hA (by decide) (by decide) ((hX2 16 (by decide) (by decide) (by omega)).trans (hn 16 (by decide) (by decide))) (fun i h1 h2 => (hX2 i (by omega) (by omega) (by omega)).trans (hn i (by omega) (by omega))) (by omega) (wm 4 rfl) (wm 5 rfl) (Nat.le_of_ble_eq_true rfl) (Nat.le_of_ble_eq_true rfl) dX4_init_21 (fun lay2 H hl2 G => ?_)
  have e5 : mnX cy lay2 16 23 (gU (mnX cy lay1 15 17 X) 5 (some (.inr (9, [.ref (lay1 15), .null])))) 5 = some (.inr (9, [.ref (lay1 15), .null])) := by
    unfold mnX
    rw [if_neg (by decide), if_neg (by decide)]
    exact gU_eq
  have h25 : lay2 5 = lay 5 := (hl2 5 (by decide) (by omega)).trans (hl1 5 (by decide) (by omega))
  refine g_putFA (k := 5) h25 hC hT.1 G (by decide) e5 k_X4 i_X4_init_X4 1 (by decide) (wm 7 rfl) rfl hname rfl rfl rfl (by simp) dX4_init_25 (fun H locs G => ?_)
  have G : gG D lay2 (gU (mnX cy lay2 16 23 (gU (mnX cy lay1 15 17 X) 5 (some (.inr (9, [.ref (lay1 15), .null]))))) 5 (some (.inr (9, [.ref (lay1 15), .ref (lay2 16)])))) _ s.heap H locs := G
  refine lv_iconst (v := 0) hC.1 hC.2.1 dX4_init_28 (by decide) ?_
  rw [← h25] at hl
  refine lv_istore_n (lv' := [(1, .int 0), (0, .ref (lay2 5))]) hC.1 hC.2.1 dX4_init_29 rfl hl (by decide) rfl (fun ls hl => ?_)
  refine l_X4_init_30 hC hr hlocks hT (fun i hi => (hl2 i (by omega) (by omega)).trans (hl1 i (by omega) (by omega))) 6 0 (by omega) H locs ls (gG_eq (fun k hk => ?_) G) (lv_sub hl [1, 0] rfl)
  have h15 : lay2 15 = lay1 15 := hl2 15 (by decide) (by omega)
  unfold rdX
  by_cases k5 : k = 5
  · subst k5
    rw [gU_eq, if_pos rfl, h15]
  rw [gU_ne k5, if_neg k5]
  unfold mnX
  by_cases k16 : k = 16
  · subst k16
    rfl
  rw [if_neg k16, if_neg k16]
  by_cases k23 : 23 ≤ k ∧ k < 23 + 6
  · rw [if_pos k23, if_neg (by omega), if_neg (by omega), if_pos (by omega), wyR_0]
  rw [if_neg k23, gU_ne k5]
  by_cases k15 : k = 15
  · subst k15
    rw [if_pos rfl, if_pos rfl]
    have hf : (fun j => if j < 6 then some (lay1 (17 + j)) else none) = (fun j => if j < 6 then some (lay2 (17 + j)) else none) := by
      funext j
      by_cases hj : j < 6
      · rw [if_pos hj, if_pos hj, hl2 (17 + j) (by omega) (by omega)]
      · rw [if_neg hj, if_neg hj]
    rw [hf]
  rw [if_neg k15, if_neg k15]
  by_cases k17 : 17 ≤ k ∧ k < 17 + 6
  · rw [if_pos k17, if_pos (by omega)]
  rw [if_neg k17, if_neg (by omega), if_neg (by omega)]
end
section
section GAAST
variable {p : Program} {l : Launch} {e : Env} {R : Room} {s : State} {m : MethodId} {args : Array Value} {below : List Frame} {meth : Method} {c : Code} {H : Heap} {locs : List Loc} {cells slots : Nat} {Q : State → Prop}
variable {cc : ByteArray} {pc nL : Nat} {ls : Array Slot} {rest : List Value} {D : va_G} {cy : Nat → ClassId} {lay : Nat → Nat} {X : Nat → Option va_E} {A : Nat → Prop} {H0 : Heap} {Ts : List Cond} {own : String}
theorem g_aastA {k kv a v : Nat} (ha : lay k = a) (hv : lay kv = v) (hC : CallFix p m c cc nL s args Ts own) (hT : gT D cy s) (G : gG D lay X A H0 H locs) (hk : k < 128) (hkv : kv < 128) (t0 ci : Nat) {cA : ClassId} {r : vw_C} {n : Nat} {vs : List Value} {f : Nat → Option Nat} (he : X k = some (.inl (cA, n, .inr (.inr (.inr (.inr f)))))) (ht : (fdT cy)[t0]? = some (cA, .object r.1)) (hev : X kv = some (.inr (ci, vs))) (hc : vwCl[ci]? = some r) {i : Int32} (hin : vp_in i n) (hdg : decode cc pc = .ok (.aastore, 1))
    (kk : ∀ (H1 : Heap) (locs1 : List Loc), gG D lay (gU X k (some (.inl (cA, n, .inr (.inr (.inr (.inr (va_up f i.toNatClampNeg (some v))))))))) A H0 H1 locs1 → W p l e R s m args below meth c H1 locs1 cells slots Q (F0 m (pc + 1) ls rest)) : W p l e R s m args below meth c H locs cells slots Q (F0 m pc ls (.ref v :: .int i :: .ref a :: rest)) := by
  subst ha
  subst hv
  obtain ⟨q0, hq⟩ := gW_pos (lay := lay) hk he
  obtain ⟨qv, hqv⟩ := gW_pos (lay := lay) hkv hev
  exact va_astq hC.1 hC.2.1 hT.1 (gP_list G.1) (gI_list G.2.1) G.2.2 q0 t0 qv ci hq ht hqv hc hin hdg (fun H1 locs1 hP hD hS => kk H1 locs1 ⟨gP_set G.2.1 hk he hq hP, gI_set G.2.1 he, hS⟩)
end GAAST
/-- the numbers of a new agency -/
def σ0 : MS := fun k j =>
  if k = 9 then (if j < 2 then -1 else 0)
  else if 23 ≤ k ∧ k < 29 then (if j < 6 then wy0 (k - 23) j else 0)
  else if 39 ≤ k ∧ k < 55 then (if j = 0 then nI (k - 39) - nI (k - 39) / 12 * 12 else if j = 1 then 5 else if j = 2 then 3 else 0)
  else 0
def rfs (lay : Nat → Nat) (b n : Nat) : Nat → Option Nat := fun j => if j < n then some (lay (b + j)) else none
def inX (cy : Nat → ClassId) (lay : Nat → Nat) (X : Nat → Option va_E) (a b c d : Nat) : Nat → Option va_E := fun i =>
  if i = 0 then some (.inr (12, Lag lay (fun _ => 0)))
  else if i = 1 then some (.inl (cy 2, 10, .inr (.inr (.inr (.inr (rfs lay 29 a))))))
  else if i = 2 then some (.inl (cy 3, 16, .inr (.inr (.inr (.inr (rfs lay 39 b))))))
  else if i = 3 then some (.inl (cy 4, 6, .inr (.inr (.inr (.inr (rfs lay 55 c))))))
  else if i = 4 then some (.inl (cy 5, 14, .inr (.inr (.inr (.inr (rfs lay 73 d))))))
  else if i = 5 then some (.inr (9, [.ref (lay 15), .ref (lay 16)]))
  else if i = 10 then some (.inr (6, Lbs lay (fun _ => 0)))
  else if i = 15 then some (.inl (cy 6, 6, .inr (.inr (.inr (.inr (rfs lay 17 6))))))
  else if i = 16 then some (.inl (cy 6, 6, .inr (.inr (.inr (.inr (rfs lay 23 6))))))
  else if i < 29 then some (agR cy (fun _ => 0) (σ0 i) i)
  else if i < 39 then (if i < 29 + a then some (.inr (8, [.int 0, .int 0, .int 0, .int 0, .int 0, .int 0, .int 0, .int 0])) else none)
  else if i < 55 then (if i < 39 + b then some (.inr (10, [.int (nI (i - 39) - nI (i - 39) / 12 * 12), .int 5, .int 3, .int 0])) else none)
  else if i < 61 then (if i < 55 + c then some (.inr (5, [.ref (lay (61 + (i - 55))), .ref (lay (67 + (i - 55))), .int 0])) else none)
  else if i < 67 then (if i < 61 + c then some (.inl (cy 0, 6, .inl (fun _ => 0))) else none)
  else if i < 73 then (if i < 67 + c then some (.inl (cy 0, 5, .inl (fun _ => 0))) else none)
  else if i < 87 then (if i < 73 + d then some (.inr (11, [.int 0, .int 0, .int 0, .int 0, .int 0, .int 0, .int 0, .int 0, .int 0, .int 0, .int 0, .int 0])) else none)
  else X i
def inDone (a b c d r : Nat) : Prop := r < 29 ∨ (29 ≤ r ∧ r < 29 + a) ∨ (39 ≤ r ∧ r < 39 + b) ∨ (55 ≤ r ∧ r < 55 + c) ∨ (61 ≤ r ∧ r < 61 + c) ∨ (67 ≤ r ∧ r < 67 + c) ∨ (73 ≤ r ∧ r < 73 + d)
theorem rfs_lay {lay lay' : Nat → Nat} {b n : Nat} (h : ∀ j, j < n → lay (b + j) = lay' (b + j)) : rfs lay b n = rfs lay' b n := by
  funext j
  unfold rfs
  by_cases hj : j < n
  · rw [if_pos hj, if_pos hj, h j hj]
  · rw [if_neg hj, if_neg hj]
theorem inX_lay {cy : Nat → ClassId} {lay lay' : Nat → Nat} {X : Nat → Option va_E} {a b c d : Nat} (h : ∀ r, inDone a b c d r → lay r = lay' r) (i : Nat) : inX cy lay X a b c d i = inX cy lay' X a b c d i := by
  have h0 : ∀ r, r < 29 → lay r = lay' r := fun r hr => h r (Or.inl hr)
  have h1 : rfs lay 29 a = rfs lay' 29 a := rfs_lay fun j hj => h _ (by unfold inDone; omega)
  have h2 : rfs lay 39 b = rfs lay' 39 b := rfs_lay fun j hj => h _ (by unfold inDone; omega)
  have h3 : rfs lay 55 c = rfs lay' 55 c := rfs_lay fun j hj => h _ (by unfold inDone; omega)
  have h4 : rfs lay 73 d = rfs lay' 73 d := rfs_lay fun j hj => h _ (by unfold inDone; omega)
  have h5 : rfs lay 17 6 = rfs lay' 17 6 := rfs_lay fun j hj => h0 _ (by omega)
  have h6 : rfs lay 23 6 = rfs lay' 23 6 := rfs_lay fun j hj => h0 _ (by omega)
  have e0 : Lag lay (fun _ => 0) = Lag lay' (fun _ => 0) := by
    unfold Lag
    rw [h0 1 (by decide), h0 2 (by decide), h0 3 (by decide), h0 4 (by decide), h0 5 (by decide), h0 6 (by decide), h0 7 (by decide), h0 8 (by decide), h0 9 (by decide), h0 10 (by decide)]
  have e1 : Lbs lay (fun _ => 0) = Lbs lay' (fun _ => 0) := by
    unfold Lbs
    rw [h0 11 (by decide), h0 12 (by decide), h0 13 (by decide), h0 14 (by decide)]
  unfold inX
  rw [h1, h2, h3, h4, h5, h6, e0, e1, h0 15 (by decide), h0 16 (by decide)]
  by_cases hb : 55 ≤ i ∧ i < 55 + c
  · rw [h (61 + (i - 55)) (by unfold inDone; omega), h (67 + (i - 55)) (by unfold inDone; omega)]
  · by_cases h55 : i < 55
    · have q1 : ∀ (x y z : Option va_E), (if i < 55 then x else y) = if i < 55 then x else z := fun x y z => by rw [if_pos h55, if_pos h55]
      rw [q1 _ _ none, q1 _ (if i < 61 then _ else _) none]
    · by_cases h61 : i < 61
      · have q : ¬ i < 55 + c := by omega
        rw [if_neg q, if_neg q]
      · have q1 : ∀ (x y z : Option va_E), (if i < 61 then x else y) = if i < 61 then z else y := fun x y z => by rw [if_neg h61, if_neg h61]
        rw [q1 _ _ none, q1 (if i < 55 + c then _ else _) _ none]
end
section
theorem ite_lt_s {α : Type} {i b a : Nat} {x y : α} (h : i ≠ b + a) : (if i < b + (a + 1) then x else y) = if i < b + a then x else y := by
  by_cases q : i < b + a
  · rw [if_pos q, if_pos (by omega)]
  · rw [if_neg q, if_neg (by omega)]
theorem inX_no {cy : Nat → ClassId} {lay : Nat → Nat} {X : Nat → Option va_E} {a b c d i : Nat} (hi : i < 87) (h : ¬ inDone a b c d i) : inX cy lay X a b c d i = none := by
  unfold inDone at h
  unfold inX
  rw [if_neg (by omega), if_neg (by omega), if_neg (by omega), if_neg (by omega), if_neg (by omega), if_neg (by omega), if_neg (by omega), if_neg (by omega), if_neg (by omega), if_neg (by omega)]
  by_cases g1 : i < 39
  · rw [if_pos g1, if_neg (by omega)]
  rw [if_neg g1]
  by_cases g2 : i < 55
  · rw [if_pos g2, if_neg (by omega)]
  rw [if_neg g2]
  by_cases g3 : i < 61
  · rw [if_pos g3, if_neg (by omega)]
  rw [if_neg g3]
  by_cases g4 : i < 67
  · rw [if_pos g4, if_neg (by omega)]
  rw [if_neg g4]
  by_cases g5 : i < 73
  · rw [if_pos g5, if_neg (by omega)]
  rw [if_neg g5, if_pos hi, if_neg (by omega)]
theorem rfs_s {lay : Nat → Nat} {b n q : Nat} (h : lay (b + n) = q) : rfs lay b (n + 1) = va_up (rfs lay b n) n (some q) := by
  funext j
  unfold rfs va_up
  by_cases hj : j = n
  · subst hj
    rw [if_pos (by omega), if_pos rfl, h]
  · rw [if_neg hj]
    show _ = if j < n then some (lay (b + j)) else none
    by_cases h2 : j < n
    · rw [if_pos h2, if_pos (by omega)]
    · rw [if_neg h2, if_neg (by omega)]
theorem inX_sa {cy : Nat → ClassId} {lay : Nat → Nat} {X : Nat → Option va_E} {a b c d : Nat} (ha : a < 10) (i : Nat) : inX cy lay X (a + 1) b c d i = gU (gU (inX cy lay X a b c d) (29 + a) (some (.inr (8, [.int 0, .int 0, .int 0, .int 0, .int 0, .int 0, .int 0, .int 0])))) 1 (some (.inl (cy 2, 10, .inr (.inr (.inr (.inr (rfs lay 29 (a + 1)))))))) i := by
  by_cases h1 : i = 1
  · subst h1; rw [gU_eq]; rfl
  rw [gU_ne h1]
  by_cases h2 : i = 29 + a
  · subst h2
    rw [gU_eq]
    unfold inX
    rw [if_neg (by omega), if_neg (by omega), if_neg (by omega), if_neg (by omega), if_neg (by omega), if_neg (by omega), if_neg (by omega), if_neg (by omega), if_neg (by omega), if_neg (by omega), if_pos (by omega), if_pos (by omega)]
  rw [gU_ne h2]
  unfold inX
  rw [ite_lt_s h2, if_neg h1, if_neg h1]
theorem inX_sb {cy : Nat → ClassId} {lay : Nat → Nat} {X : Nat → Option va_E} {a b c d : Nat} (hb : b < 16) (i : Nat) : inX cy lay X a (b + 1) c d i = gU (gU (inX cy lay X a b c d) (39 + b) (some (.inr (10, [.int (nI b - nI b / 12 * 12), .int 5, .int 3, .int 0])))) 2 (some (.inl (cy 3, 16, .inr (.inr (.inr (.inr (rfs lay 39 (b + 1)))))))) i := by
  by_cases h1 : i = 2
  · subst h1; rw [gU_eq]; rfl
  rw [gU_ne h1]
  by_cases h2 : i = 39 + b
  · subst h2
    rw [gU_eq]
    unfold inX
    rw [if_neg (by omega), if_neg (by omega), if_neg (by omega), if_neg (by omega), if_neg (by omega), if_neg (by omega), if_neg (by omega), if_neg (by omega), if_neg (by omega), if_neg (by omega), if_neg (by omega), if_pos (by omega), if_pos (by omega), show 39 + b - 39 = b by omega]
  rw [gU_ne h2]
  unfold inX
  rw [ite_lt_s h2, if_neg h1, if_neg h1]
theorem inX_sc {cy : Nat → ClassId} {lay : Nat → Nat} {X : Nat → Option va_E} {a b c d : Nat} (hc : c < 6) (i : Nat) : inX cy lay X a b (c + 1) d i = gU (gU (gU (gU (inX cy lay X a b c d) (61 + c) (some (.inl (cy 0, 6, .inl (fun _ => 0))))) (67 + c) (some (.inl (cy 0, 5, .inl (fun _ => 0))))) (55 + c) (some (.inr (5, [.ref (lay (61 + c)), .ref (lay (67 + c)), .int 0])))) 3 (some (.inl (cy 4, 6, .inr (.inr (.inr (.inr (rfs lay 55 (c + 1)))))))) i := by
  by_cases h1 : i = 3
  · subst h1; rw [gU_eq]; rfl
  rw [gU_ne h1]
  by_cases h2 : i = 55 + c
  · subst h2
    rw [gU_eq]
    unfold inX
    rw [if_neg (by omega), if_neg (by omega), if_neg (by omega), if_neg (by omega), if_neg (by omega), if_neg (by omega), if_neg (by omega), if_neg (by omega), if_neg (by omega), if_neg (by omega), if_neg (by omega), if_neg (by omega), if_pos (by omega), if_pos (by omega), show 55 + c - 55 = c by omega]
  rw [gU_ne h2]
  by_cases h3 : i = 67 + c
  · subst h3
    rw [gU_eq]
    unfold inX
    rw [if_neg (by omega), if_neg (by omega), if_neg (by omega), if_neg (by omega), if_neg (by omega), if_neg (by omega), if_neg (by omega), if_neg (by omega), if_neg (by omega), if_neg (by omega), if_neg (by omega), if_neg (by omega), if_neg (by omega), if_neg (by omega), if_pos (by omega), if_pos (by omega)]
  rw [gU_ne h3]
  by_cases h4 : i = 61 + c
  · subst h4
    rw [gU_eq]
    unfold inX
    rw [if_neg (by omega), if_neg (by omega), if_neg (by omega), if_neg (by omega), if_neg (by omega), if_neg (by omega), if_neg (by omega), if_neg (by omega), if_neg (by omega), if_neg (by omega), if_neg (by omega), if_neg (by omega), if_neg (by omega), if_pos (by omega), if_pos (by omega)]
  rw [gU_ne h4]
  unfold inX
  rw [ite_lt_s h2, ite_lt_s h3, ite_lt_s h4, if_neg h1, if_neg h1]
theorem inX_sd {cy : Nat → ClassId} {lay : Nat → Nat} {X : Nat → Option va_E} {a b c d : Nat} (hd : d < 14) (i : Nat) : inX cy lay X a b c (d + 1) i = gU (gU (inX cy lay X a b c d) (73 + d) (some (.inr (11, [.int 0, .int 0, .int 0, .int 0, .int 0, .int 0, .int 0, .int 0, .int 0, .int 0, .int 0, .int 0])))) 4 (some (.inl (cy 5, 14, .inr (.inr (.inr (.inr (rfs lay 73 (d + 1)))))))) i := by
  by_cases h1 : i = 4
  · subst h1; rw [gU_eq]; rfl
  rw [gU_ne h1]
  by_cases h2 : i = 73 + d
  · subst h2
    rw [gU_eq]
    unfold inX
    rw [if_neg (by omega), if_neg (by omega), if_neg (by omega), if_neg (by omega), if_neg (by omega), if_neg (by omega), if_neg (by omega), if_neg (by omega), if_neg (by omega), if_neg (by omega), if_neg (by omega), if_neg (by omega), if_neg (by omega), if_neg (by omega), if_neg (by omega), if_pos (by omega), if_pos (by omega)]
  rw [gU_ne h2]
  unfold inX
  rw [ite_lt_s h2, if_neg h1, if_neg h1]
/-- one step of a loop: the world of the step before, at the addresses of before, is that of now -/
theorem inX_mv {cy : Nat → ClassId} {lay lay' : Nat → Nat} {X : Nat → Option va_E} {a b c d : Nat} (h : ∀ r, inDone a b c d r → lay' r = lay r) : inX cy lay' X a b c d = inX cy lay X a b c d := funext fun i => inX_lay h i
theorem i_X7_init_X7 : ∀ w ∈ wsX70, w ∈ wsX7_init := fun w h => by unfold wsX7_init; simp only [List.mem_cons, List.mem_append, h, true_or, or_true]
theorem i_X7_init_X4 : ∀ w ∈ wsX40, w ∈ wsX7_init := fun w h => by unfold wsX7_init; simp only [List.mem_cons, List.mem_append, h, true_or, or_true]
theorem i_X7_init_X2 : ∀ w ∈ wsX20, w ∈ wsX7_init := fun w h => by unfold wsX7_init; simp only [List.mem_cons, List.mem_append, h, true_or, or_true]
theorem i_X7_init_X1 : ∀ w ∈ wsX10, w ∈ wsX7_init := fun w h => by unfold wsX7_init; simp only [List.mem_cons, List.mem_append, h, true_or, or_true]
theorem i_X7_init_X3 : ∀ w ∈ wsX30, w ∈ wsX7_init := fun w h => by unfold wsX7_init; simp only [List.mem_cons, List.mem_append, h, true_or, or_true]
theorem i_X7_init_X5 : ∀ w ∈ wsX50, w ∈ wsX7_init := fun w h => by unfold wsX7_init; simp only [List.mem_cons, List.mem_append, h, true_or, or_true]
theorem i_X7_init_X0 : ∀ w ∈ wsX00, w ∈ wsX7_init := fun w h => by unfold wsX7_init; simp only [List.mem_cons, List.mem_append, h, true_or, or_true]
theorem i_X7_init_X6 : ∀ w ∈ wsX60, w ∈ wsX7_init := fun w h => by unfold wsX7_init; simp only [List.mem_cons, List.mem_append, h, true_or, or_true]
theorem hdI_X0 : yX0_init.cls ≠ "java/lang/invoke/MethodHandle" ∧ yX0_init.cls ≠ "java/lang/invoke/VarHandle" ∧ (parseMethodDescriptor yX0_init.desc).map (fun d => d.parameters.length) = some 0 := by decide +kernel
theorem hdI_X1 : yX1_init.cls ≠ "java/lang/invoke/MethodHandle" ∧ yX1_init.cls ≠ "java/lang/invoke/VarHandle" ∧ (parseMethodDescriptor yX1_init.desc).map (fun d => d.parameters.length) = some 0 := by decide +kernel
theorem hdI_X2 : yX2_init.cls ≠ "java/lang/invoke/MethodHandle" ∧ yX2_init.cls ≠ "java/lang/invoke/VarHandle" ∧ (parseMethodDescriptor yX2_init.desc).map (fun d => d.parameters.length) = some 0 := by decide +kernel
theorem hdI_X3 : yX3_init.cls ≠ "java/lang/invoke/MethodHandle" ∧ yX3_init.cls ≠ "java/lang/invoke/VarHandle" ∧ (parseMethodDescriptor yX3_init.desc).map (fun d => d.parameters.length) = some 0 := by decide +kernel
theorem hdI_X4 : yX4_init.cls ≠ "java/lang/invoke/MethodHandle" ∧ yX4_init.cls ≠ "java/lang/invoke/VarHandle" ∧ (parseMethodDescriptor yX4_init.desc).map (fun d => d.parameters.length) = some 0 := by decide +kernel
theorem hdI_X5 : yX5_init.cls ≠ "java/lang/invoke/MethodHandle" ∧ yX5_init.cls ≠ "java/lang/invoke/VarHandle" ∧ (parseMethodDescriptor yX5_init.desc).map (fun d => d.parameters.length) = some 1 := by decide +kernel
theorem hdI_X6 : yX6_init.cls ≠ "java/lang/invoke/MethodHandle" ∧ yX6_init.cls ≠ "java/lang/invoke/VarHandle" ∧ (parseMethodDescriptor yX6_init.desc).map (fun d => d.parameters.length) = some 0 := by decide +kernel
theorem df_X4 : ∀ j, j < 2 → defaultValue (tyX4 j) = vp_V [.null, .null] j := by decide
theorem df_X2 : ∀ j, j < 6 → defaultValue (tyX2 j) = vp_V [.int 0, .int 0, .int 0, .int 0, .int 0, .int 0] j := by decide
theorem df_X1 : ∀ j, j < 7 → defaultValue (tyX1 j) = vp_V [.null, .int 0, .int 0, .null, .null, .null, .int 0] j := by decide
theorem df_X3 : ∀ j, j < 8 → defaultValue (tyX3 j) = vp_V [.int 0, .int 0, .int 0, .int 0, .int 0, .int 0, .int 0, .int 0] j := by decide
theorem df_X5 : ∀ j, j < 4 → defaultValue (tyX5 j) = vp_V [.int 0, .int 0, .int 0, .int 0] j := by decide
theorem df_X0 : ∀ j, j < 3 → defaultValue (tyX0 j) = vp_V [.null, .null, .int 0] j := by decide
theorem df_X6 : ∀ j, j < 12 → defaultValue (tyX6 j) = vp_V [.int 0, .int 0, .int 0, .int 0, .int 0, .int 0, .int 0, .int 0, .int 0, .int 0, .int 0, .int 0] j := by decide
end
section
abbrev rm_X7_init : Room := { frames := 2, cells := 86, slots := 2009, locals := 48 }
abbrev inPost (cy : Nat → ClassId) (lay : Nat → Nat) (X : Nat → Option va_E) : GY → Prop := fun Y => (Y.1 0 = lay 0 ∧ ∀ i, 87 ≤ i → Y.1 i = lay i) ∧ Y.2 = inX cy Y.1 X 10 16 6 14
theorem rdX_lo {cy : Nat → ClassId} {lay' : Nat → Nat} {X : Nat → Option va_E} {a b i : Nat} (h5 : i ≠ 5) (h : i < 15 ∨ 29 ≤ i) (_h : True) : rdX cy lay' X a b i = X i := by
  unfold rdX
  rw [if_neg h5, if_neg (by omega), if_neg (by omega), if_neg (by omega), if_neg (by omega)]
set_option maxHeartbeats 4000000 in
set_option maxRecDepth 100000 in
theorem l_X7_init_211 {p : Program} {l : Launch} {e : Env} {s : State} {m : MethodId} {args : Array Value} {below : List Frame} {meth : Method} {c : Code} {D : va_G} {cy : Nat → ClassId} {lay : Nat → Nat} {X : Nat → Option va_E} (hC : CallFix p m c cX7_init 2 s args wsX7_init RX7) (hr : meth.sig.returnType = none) (hlocks : meth.locks = false) (hT : gT D cy s) :
    ∀ (d a : Nat), a + d = 14 → ∀ (lay' : Nat → Nat) (H : Heap) (locs : List Loc) (ls : Array Slot), (lay' 0 = lay 0 ∧ ∀ i, 87 ≤ i → lay' i = lay i) → gG D lay' (inX cy lay' X 10 16 6 a) (gA lay X s.heap.size) s.heap H locs → lv_has ls 2 [(0, .ref (lay 0)), (1, .int (nI a))] → W p l e rm_X7_init s m args below meth c H locs (72 + 1 * a) (1841 + 12 * a) (MQ below (va_Qv (inPost cy lay X) (gO D (gA lay X s.heap.size)) (gA lay X s.heap.size)) args s 86 2009 (gA lay X s.heap.size)) (F0 m 211 ls []) := by
  intro d
  have hA : ∀ q, s.heap.size ≤ q → gA lay X s.heap.size q := fun _ h => Or.inr h
  induction d with
  | zero =>
    intro a ha lay' H locs ls hf G hl
    obtain rfl : a = 14 := by omega
    refine lv_iload_n hC.1 hC.2.1 dX7_init_211 rfl (lv_at hl 1 rfl) ?_
    refine lv_bipush (v := 14) hC.1 hC.2.1 dX7_init_212 (by decide) ?_
    refine lv_icmp_ge (tgt := 236) hC.1 hC.2.1 dX7_init_214 (by decide) (fun _ => ?_) (fun c1 => absurd (show (14 : Int32) ≤ nI 14 by decide) c1)
    exact g_vret (Y := (lay', inX cy lay' X 10 16 6 14)) hC hr hlocks G ⟨hf, rfl⟩ dX7_init_236
  | succ d ih =>
    intro a ha lay' H locs ls hf G hl
    have ha0 : a < 14 := by omega
    refine lv_iload_n hC.1 hC.2.1 dX7_init_211 rfl (lv_at hl 1 rfl) ?_
    refine lv_bipush (v := 14) hC.1 hC.2.1 dX7_init_212 (by decide) ?_
    refine lv_icmp_ge (tgt := 236) hC.1 hC.2.1 dX7_init_214 (by decide) (fun c1 => absurd c1 (nI_ge ha0 (by decide))) (fun _ => ?_)
    refine lv_aload_n hC.1 hC.2.1 dX7_init_217 rfl (lv_at hl 0 rfl) ?_
    rw [← hf.1]
    refine g_get (k := 0) (fs := Lag lay' (fun _ => 0)) hC hT.1 G (by decide) rfl k_X7 i_X7_init_X7 3 (by decide) (wm 11 rfl) rfl dX7_init_218 ?_
    refine lv_iload_n hC.1 hC.2.1 dX7_init_221 rfl (lv_at hl 1 rfl) ?_
    have hno : ∀ i, i < 87 → ¬ inDone 10 16 6 a i → inX cy lay' X 10 16 6 a i = none := fun i h1 h2 => inX_no h1 h2
    refine g_new (k := (73 + a)) (fs := [.int 0, .int 0, .int 0, .int 0, .int 0, .int 0, .int 0, .int 0, .int 0, .int 0, .int 0, .int 0]) hC hT.1 G hA (hno (73 + a) (by omega) (by unfold inDone; omega)) k_X6 i_X7_init_X6 (wm 10 rfl) (wm 40 rfl) (wm 41 rfl) df_X6 (show (72 + 1 * a) + 1 ≤ 86 by omega) (show (1841 + 12 * a) + 12 ≤ 2009 by omega) dX7_init_222 (fun q H G => ?_)
    have hlk : gU lay' (73 + a) q (73 + a) = q := gU_eq
    rw [hlk]
    refine lv_dup hC.1 hC.2.1 dX7_init_225 rfl ?_
    refine g_v G hA (g_runIN (host := RX7) (b := gU lay' (73 + a) q (73 + a)) (As := []) (rest := [.ref q, .int (nI a), .ref (lay' 4)]) hC hT G (c_X6_init l D cy _ _ (k := (73 + a)) (by omega) gU_eq _) ⟨va_cnB 0 hC.2.2.2.2 ggX7_init_X6_init rfl rfl rfl (hT.2.1 _ (wm 32 rfl)) (hC.2.2.2.2 (.initialized RX6) (wm 41 rfl)) hdI_X6 ⟨Nat.le_of_ble_eq_true rfl, Nat.le_of_ble_eq_true rfl⟩, rfl, hC.2.2.2.2 (.instanceMethod yX6_init) (wm 93 rfl)⟩ rfl hl.1 (by rw [hlk]; rfl) (Nat.le_of_ble_eq_true rfl) dX7_init_226 ⟨show (72 + 1 * a) + 1 + 0 ≤ 86 by omega, show (1841 + 12 * a) + 12 + 0 ≤ 2009 by omega⟩) (fun Y H locs hY G => ?_)
    subst hY
    dsimp only at G
    refine g_aastA (k := 4) (kv := (73 + a)) (n := 14) (f := rfs lay' 73 a) (gU_ne (by omega)) hlk hC hT G (by decide) (by omega) 5 11 ((gU_ne (by omega)).trans ((gU_ne (by omega)).trans rfl)) rfl gU_eq rfl (vp_in_nI ha0 (by decide)) dX7_init_229 (fun H locs G => ?_)
    refine lv_iinc (v := nI (a + 1)) (lv' := [(1, .int (nI (a + 1))), (0, .ref (lay 0))]) hC.1 hC.2.1 dX7_init_230 hl (k := 1) rfl (nI_1 a) (by decide) rfl (fun ls hl => ?_)
    refine lv_goto (tgt := 211) hC.1 hC.2.1 dX7_init_233 (by decide) ?_
    refine ih (a + 1) (by omega) (gU lay' (73 + a) q) H locs ls ⟨(gU_ne (by omega)).trans hf.1, fun i hi => (gU_ne (by omega)).trans (hf.2 i hi)⟩ (gG_eq (fun k hk => ?_) G) (lv_sub hl [1, 0] rfl)
    have hmv : inX cy (gU lay' (73 + a) q) X 10 16 6 a = inX cy lay' X 10 16 6 a := inX_mv fun r hr => by
      unfold inDone at hr
      exact (gU_ne (by omega)).trans rfl
    rw [inX_sd ha0, hmv, rfs_s (q := q) gU_eq, nI_clamp (by omega)]
    have hrf : rfs (gU lay' (73 + a) q) 73 a = rfs lay' 73 a := rfs_lay fun j hj => (gU_ne (by omega)).trans rfl
    rw [hrf]
    rw [gU_gU]
set_option maxHeartbeats 4000000 in
set_option maxRecDepth 100000 in
theorem l_X7_init_184 {p : Program} {l : Launch} {e : Env} {s : State} {m : MethodId} {args : Array Value} {below : List Frame} {meth : Method} {c : Code} {D : va_G} {cy : Nat → ClassId} {lay : Nat → Nat} {X : Nat → Option va_E} (hC : CallFix p m c cX7_init 2 s args wsX7_init RX7) (hr : meth.sig.returnType = none) (hlocks : meth.locks = false) (hT : gT D cy s) :
    ∀ (d a : Nat), a + d = 6 → ∀ (lay' : Nat → Nat) (H : Heap) (locs : List Loc) (ls : Array Slot), (lay' 0 = lay 0 ∧ ∀ i, 87 ≤ i → lay' i = lay i) → gG D lay' (inX cy lay' X 10 16 a 0) (gA lay X s.heap.size) s.heap H locs → lv_has ls 2 [(0, .ref (lay 0)), (1, .int (nI a))] → W p l e rm_X7_init s m args below meth c H locs (54 + 3 * a) (1757 + 14 * a) (MQ below (va_Qv (inPost cy lay X) (gO D (gA lay X s.heap.size)) (gA lay X s.heap.size)) args s 86 2009 (gA lay X s.heap.size)) (F0 m 184 ls []) := by
  intro d
  have hA : ∀ q, s.heap.size ≤ q → gA lay X s.heap.size q := fun _ h => Or.inr h
  induction d with
  | zero =>
    intro a ha lay' H locs ls hf G hl
    obtain rfl : a = 6 := by omega
    refine lv_iload_n hC.1 hC.2.1 dX7_init_184 rfl (lv_at hl 1 rfl) ?_
    refine lv_bipush (v := 6) hC.1 hC.2.1 dX7_init_185 (by decide) ?_
    refine lv_icmp_ge (tgt := 209) hC.1 hC.2.1 dX7_init_187 (by decide) (fun _ => ?_) (fun c1 => absurd (show (6 : Int32) ≤ nI 6 by decide) c1)
    refine lv_iconst (v := 0) hC.1 hC.2.1 dX7_init_209 (by decide) ?_
    refine lv_istore_n (lv' := [(1, .int 0), (0, .ref (lay 0))]) hC.1 hC.2.1 dX7_init_210 rfl hl (by decide) rfl (fun ls hl => ?_)
    exact l_X7_init_211 hC hr hlocks hT 14 0 (by omega) lay' H locs ls hf G (lv_sub hl [1, 0] rfl)
  | succ d ih =>
    intro a ha lay' H locs ls hf G hl
    have ha0 : a < 6 := by omega
    refine lv_iload_n hC.1 hC.2.1 dX7_init_184 rfl (lv_at hl 1 rfl) ?_
    refine lv_bipush (v := 6) hC.1 hC.2.1 dX7_init_185 (by decide) ?_
    refine lv_icmp_ge (tgt := 209) hC.1 hC.2.1 dX7_init_187 (by decide) (fun c1 => absurd c1 (nI_ge ha0 (by decide))) (fun _ => ?_)
    refine lv_aload_n hC.1 hC.2.1 dX7_init_190 rfl (lv_at hl 0 rfl) ?_
    rw [← hf.1]
    refine g_get (k := 0) (fs := Lag lay' (fun _ => 0)) hC hT.1 G (by decide) rfl k_X7 i_X7_init_X7 2 (by decide) (wm 9 rfl) rfl dX7_init_191 ?_
    refine lv_iload_n hC.1 hC.2.1 dX7_init_194 rfl (lv_at hl 1 rfl) ?_
    have hno : ∀ i, i < 87 → ¬ inDone 10 16 a 0 i → inX cy lay' X 10 16 a 0 i = none := fun i h1 h2 => inX_no h1 h2
    refine g_new (k := (55 + a)) (fs := [.null, .null, .int 0]) hC hT.1 G hA (hno (55 + a) (by omega) (by unfold inDone; omega)) k_X0 i_X7_init_X0 (wm 8 rfl) (wm 38 rfl) (wm 39 rfl) df_X0 (show (54 + 3 * a) + 1 ≤ 86 by omega) (show (1757 + 14 * a) + 3 ≤ 2009 by omega) dX7_init_195 (fun q H G => ?_)
    have hlk : gU lay' (55 + a) q (55 + a) = q := gU_eq
    rw [hlk]
    refine lv_dup hC.1 hC.2.1 dX7_init_198 rfl ?_
    refine g_v G hA (g_runIN (host := RX7) (b := gU lay' (55 + a) q (55 + a)) (As := []) (rest := [.ref q, .int (nI a), .ref (lay' 3)]) hC hT G (c_X0_init l D cy _ _ (k := (55 + a)) (by omega) gU_eq (k1 := 61 + a) ((gU_ne (by omega)).trans (hno (61 + a) (by omega) (by unfold inDone; omega))) (k2 := 67 + a) ((gU_ne (by omega)).trans (hno (67 + a) (by omega) (by unfold inDone; omega))) (by omega) (by omega) (by omega) (by omega) (by omega) (by omega) _) ⟨va_cnB 0 hC.2.2.2.2 ggX7_init_X0_init rfl rfl rfl (hT.2.1 _ (wm 31 rfl)) (hC.2.2.2.2 (.initialized RX0) (wm 39 rfl)) hdI_X0 ⟨Nat.le_of_ble_eq_true rfl, Nat.le_of_ble_eq_true rfl⟩, rfl, hC.2.2.2.2 (.instanceMethod yX0_init) (wm 87 rfl)⟩ rfl hl.1 (by rw [hlk]; rfl) (Nat.le_of_ble_eq_true rfl) dX7_init_199 ⟨show (54 + 3 * a) + 1 + 2 ≤ 86 by omega, show (1757 + 14 * a) + 3 + 11 ≤ 2009 by omega⟩) (fun Y H locs hY G => ?_)
    obtain ⟨q1, q2, hY⟩ := hY
    subst hY
    dsimp only at G
    refine g_aastA (k := 3) (kv := (55 + a)) (n := 6) (f := rfs lay' 55 a) ((gU_ne (by omega)).trans ((gU_ne (by omega)).trans (gU_ne (by omega)))) ((gU_ne (by omega)).trans ((gU_ne (by omega)).trans hlk)) hC hT G (by decide) (by omega) 4 5 ((gU_ne (by omega)).trans ((gU_ne (by omega)).trans ((gU_ne (by omega)).trans ((gU_ne (by omega)).trans ((gU_ne (by omega)).trans rfl))))) rfl gU_eq rfl (vp_in_nI ha0 (by decide)) dX7_init_202 (fun H locs G => ?_)
    refine lv_iinc (v := nI (a + 1)) (lv' := [(1, .int (nI (a + 1))), (0, .ref (lay 0))]) hC.1 hC.2.1 dX7_init_203 hl (k := 1) rfl (nI_1 a) (by decide) rfl (fun ls hl => ?_)
    refine lv_goto (tgt := 184) hC.1 hC.2.1 dX7_init_206 (by decide) ?_
    refine ih (a + 1) (by omega) (gU (gU (gU lay' (55 + a) q) (61 + a) q1) (67 + a) q2) H locs ls ⟨(gU_ne (by omega)).trans ((gU_ne (by omega)).trans ((gU_ne (by omega)).trans hf.1)), fun i hi => (gU_ne (by omega)).trans ((gU_ne (by omega)).trans ((gU_ne (by omega)).trans (hf.2 i hi)))⟩ (gG_eq (fun k hk => ?_) G) (lv_sub hl [1, 0] rfl)
    have hmv : inX cy (gU (gU (gU lay' (55 + a) q) (61 + a) q1) (67 + a) q2) X 10 16 a 0 = inX cy lay' X 10 16 a 0 := inX_mv fun r hr => by
      unfold inDone at hr
      exact (gU_ne (by omega)).trans ((gU_ne (by omega)).trans ((gU_ne (by omega)).trans rfl))
    rw [inX_sc ha0, hmv, rfs_s (q := q) ((gU_ne (by omega)).trans ((gU_ne (by omega)).trans gU_eq)), nI_clamp (by omega)]
    have hrf : rfs (gU (gU (gU lay' (55 + a) q) (61 + a) q1) (67 + a) q2) 55 a = rfs lay' 55 a := rfs_lay fun j hj => (gU_ne (by omega)).trans ((gU_ne (by omega)).trans ((gU_ne (by omega)).trans rfl))
    rw [hrf]
    have u1 : (gU (gU (gU lay' (55 + a) q) (61 + a) q1) (67 + a) q2) (61 + a) = q1 := (gU_ne (by omega)).trans gU_eq
    have u2 : (gU (gU (gU lay' (55 + a) q) (61 + a) q1) (67 + a) q2) (67 + a) = q2 := gU_eq
    rw [u1, u2]
    by_cases z1 : k = 3
    · subst z1; rw [gU_eq, gU_eq]
    rw [gU_ne z1, gU_ne z1]
    by_cases z2 : k = 55 + a
    · subst z2; rw [gU_eq, gU_eq]
    rw [gU_ne z2, gU_ne z2]
    by_cases z3 : k = 67 + a
    · subst z3; rw [gU_eq, gU_eq]
    rw [gU_ne z3, gU_ne z3, gU_ne z2]
    by_cases z4 : k = 61 + a
    · subst z4; rw [gU_eq, gU_eq]
    rw [gU_ne z4, gU_ne z4, gU_ne z2]
set_option maxHeartbeats 4000000 in
set_option maxRecDepth 100000 in
theorem l_X7_init_153 {p : Program} {l : Launch} {e : Env} {s : State} {m : MethodId} {args : Array Value} {below : List Frame} {meth : Method} {c : Code} {D : va_G} {cy : Nat → ClassId} {lay : Nat → Nat} {X : Nat → Option va_E} (hC : CallFix p m c cX7_init 2 s args wsX7_init RX7) (hr : meth.sig.returnType = none) (hlocks : meth.locks = false) (hT : gT D cy s) :
    ∀ (d a : Nat), a + d = 16 → ∀ (lay' : Nat → Nat) (H : Heap) (locs : List Loc) (ls : Array Slot), (lay' 0 = lay 0 ∧ ∀ i, 87 ≤ i → lay' i = lay i) → gG D lay' (inX cy lay' X 10 a 0 0) (gA lay X s.heap.size) s.heap H locs → lv_has ls 2 [(0, .ref (lay 0)), (1, .int (nI a))] → W p l e rm_X7_init s m args below meth c H locs (38 + 1 * a) (1693 + 4 * a) (MQ below (va_Qv (inPost cy lay X) (gO D (gA lay X s.heap.size)) (gA lay X s.heap.size)) args s 86 2009 (gA lay X s.heap.size)) (F0 m 153 ls []) := by
  intro d
  have hA : ∀ q, s.heap.size ≤ q → gA lay X s.heap.size q := fun _ h => Or.inr h
  induction d with
  | zero =>
    intro a ha lay' H locs ls hf G hl
    obtain rfl : a = 16 := by omega
    refine lv_iload_n hC.1 hC.2.1 dX7_init_153 rfl (lv_at hl 1 rfl) ?_
    refine lv_bipush (v := 16) hC.1 hC.2.1 dX7_init_154 (by decide) ?_
    refine lv_icmp_ge (tgt := 182) hC.1 hC.2.1 dX7_init_156 (by decide) (fun _ => ?_) (fun c1 => absurd (show (16 : Int32) ≤ nI 16 by decide) c1)
    refine lv_iconst (v := 0) hC.1 hC.2.1 dX7_init_182 (by decide) ?_
    refine lv_istore_n (lv' := [(1, .int 0), (0, .ref (lay 0))]) hC.1 hC.2.1 dX7_init_183 rfl hl (by decide) rfl (fun ls hl => ?_)
    exact l_X7_init_184 hC hr hlocks hT 6 0 (by omega) lay' H locs ls hf G (lv_sub hl [1, 0] rfl)
  | succ d ih =>
    intro a ha lay' H locs ls hf G hl
    have ha0 : a < 16 := by omega
    refine lv_iload_n hC.1 hC.2.1 dX7_init_153 rfl (lv_at hl 1 rfl) ?_
    refine lv_bipush (v := 16) hC.1 hC.2.1 dX7_init_154 (by decide) ?_
    refine lv_icmp_ge (tgt := 182) hC.1 hC.2.1 dX7_init_156 (by decide) (fun c1 => absurd c1 (nI_ge ha0 (by decide))) (fun _ => ?_)
    refine lv_aload_n hC.1 hC.2.1 dX7_init_159 rfl (lv_at hl 0 rfl) ?_
    rw [← hf.1]
    refine g_get (k := 0) (fs := Lag lay' (fun _ => 0)) hC hT.1 G (by decide) rfl k_X7 i_X7_init_X7 1 (by decide) (wm 7 rfl) rfl dX7_init_160 ?_
    refine lv_iload_n hC.1 hC.2.1 dX7_init_163 rfl (lv_at hl 1 rfl) ?_
    have hno : ∀ i, i < 87 → ¬ inDone 10 a 0 0 i → inX cy lay' X 10 a 0 0 i = none := fun i h1 h2 => inX_no h1 h2
    refine g_new (k := (39 + a)) (fs := [.int 0, .int 0, .int 0, .int 0]) hC hT.1 G hA (hno (39 + a) (by omega) (by unfold inDone; omega)) k_X5 i_X7_init_X5 (wm 6 rfl) (wm 36 rfl) (wm 37 rfl) df_X5 (show (38 + 1 * a) + 1 ≤ 86 by omega) (show (1693 + 4 * a) + 4 ≤ 2009 by omega) dX7_init_164 (fun q H G => ?_)
    have hlk : gU lay' (39 + a) q (39 + a) = q := gU_eq
    rw [hlk]
    refine lv_dup hC.1 hC.2.1 dX7_init_167 rfl ?_
    refine lv_iload_n hC.1 hC.2.1 dX7_init_168 rfl (lv_at hl 1 rfl) ?_
    refine lv_bipush (v := 12) hC.1 hC.2.1 dX7_init_169 (by decide) ?_
    refine lv_irem hC.1 hC.2.1 dX7_init_171 (by decide) ?_
    refine g_v G hA (g_runI (b := gU lay' (39 + a) q (39 + a)) (As := [.int (nI a - nI a / 12 * 12)]) (rest := [.ref q, .int (nI a), .ref (lay' 2)]) hC hT G (c_X5_init l D cy _ _ (k := (39 + a)) (by omega) gU_eq (nI a - nI a / 12 * 12) _) ⟨callB_of 1 hC.2.2.2.2 ggX7_init_X5_init rfl rfl rfl (hC.2.2.2.2 (.initialized RX5) (wm 37 rfl)) (hC.2.2.2.2 (.methodLink RX7 82 yX5_init) (wm 79 rfl)) hdI_X5 ⟨Nat.le_of_ble_eq_true rfl, Nat.le_of_ble_eq_true rfl⟩, rfl, hC.2.2.2.2 (.instanceMethod yX5_init) (wm 80 rfl)⟩ rfl hl.1 (by rw [hlk]; rfl) (Nat.le_of_ble_eq_true rfl) dX7_init_172 ⟨show (38 + 1 * a) + 1 + 0 ≤ 86 by omega, show (1693 + 4 * a) + 4 + 0 ≤ 2009 by omega⟩) (fun Y H locs hY G => ?_)
    subst hY
    dsimp only at G
    refine g_aastA (k := 2) (kv := (39 + a)) (n := 16) (f := rfs lay' 39 a) (gU_ne (by omega)) hlk hC hT G (by decide) (by omega) 3 10 ((gU_ne (by omega)).trans ((gU_ne (by omega)).trans rfl)) rfl gU_eq rfl (vp_in_nI ha0 (by decide)) dX7_init_175 (fun H locs G => ?_)
    refine lv_iinc (v := nI (a + 1)) (lv' := [(1, .int (nI (a + 1))), (0, .ref (lay 0))]) hC.1 hC.2.1 dX7_init_176 hl (k := 1) rfl (nI_1 a) (by decide) rfl (fun ls hl => ?_)
    refine lv_goto (tgt := 153) hC.1 hC.2.1 dX7_init_179 (by decide) ?_
    refine ih (a + 1) (by omega) (gU lay' (39 + a) q) H locs ls ⟨(gU_ne (by omega)).trans hf.1, fun i hi => (gU_ne (by omega)).trans (hf.2 i hi)⟩ (gG_eq (fun k hk => ?_) G) (lv_sub hl [1, 0] rfl)
    have hmv : inX cy (gU lay' (39 + a) q) X 10 a 0 0 = inX cy lay' X 10 a 0 0 := inX_mv fun r hr => by
      unfold inDone at hr
      exact (gU_ne (by omega)).trans rfl
    rw [inX_sb ha0, hmv, rfs_s (q := q) gU_eq, nI_clamp (by omega)]
    have hrf : rfs (gU lay' (39 + a) q) 39 a = rfs lay' 39 a := rfs_lay fun j hj => (gU_ne (by omega)).trans rfl
    rw [hrf]
    rw [gU_gU]
set_option maxHeartbeats 4000000 in
set_option maxRecDepth 100000 in
theorem l_X7_init_126 {p : Program} {l : Launch} {e : Env} {s : State} {m : MethodId} {args : Array Value} {below : List Frame} {meth : Method} {c : Code} {D : va_G} {cy : Nat → ClassId} {lay : Nat → Nat} {X : Nat → Option va_E} (hC : CallFix p m c cX7_init 2 s args wsX7_init RX7) (hr : meth.sig.returnType = none) (hlocks : meth.locks = false) (hT : gT D cy s) :
    ∀ (d a : Nat), a + d = 10 → ∀ (lay' : Nat → Nat) (H : Heap) (locs : List Loc) (ls : Array Slot), (lay' 0 = lay 0 ∧ ∀ i, 87 ≤ i → lay' i = lay i) → gG D lay' (inX cy lay' X a 0 0 0) (gA lay X s.heap.size) s.heap H locs → lv_has ls 2 [(0, .ref (lay 0)), (1, .int (nI a))] → W p l e rm_X7_init s m args below meth c H locs (28 + 1 * a) (1613 + 8 * a) (MQ below (va_Qv (inPost cy lay X) (gO D (gA lay X s.heap.size)) (gA lay X s.heap.size)) args s 86 2009 (gA lay X s.heap.size)) (F0 m 126 ls []) := by
  intro d
  have hA : ∀ q, s.heap.size ≤ q → gA lay X s.heap.size q := fun _ h => Or.inr h
  induction d with
  | zero =>
    intro a ha lay' H locs ls hf G hl
    obtain rfl : a = 10 := by omega
    refine lv_iload_n hC.1 hC.2.1 dX7_init_126 rfl (lv_at hl 1 rfl) ?_
    refine lv_bipush (v := 10) hC.1 hC.2.1 dX7_init_127 (by decide) ?_
    refine lv_icmp_ge (tgt := 151) hC.1 hC.2.1 dX7_init_129 (by decide) (fun _ => ?_) (fun c1 => absurd (show (10 : Int32) ≤ nI 10 by decide) c1)
    refine lv_iconst (v := 0) hC.1 hC.2.1 dX7_init_151 (by decide) ?_
    refine lv_istore_n (lv' := [(1, .int 0), (0, .ref (lay 0))]) hC.1 hC.2.1 dX7_init_152 rfl hl (by decide) rfl (fun ls hl => ?_)
    exact l_X7_init_153 hC hr hlocks hT 16 0 (by omega) lay' H locs ls hf G (lv_sub hl [1, 0] rfl)
  | succ d ih =>
    intro a ha lay' H locs ls hf G hl
    have ha0 : a < 10 := by omega
    refine lv_iload_n hC.1 hC.2.1 dX7_init_126 rfl (lv_at hl 1 rfl) ?_
    refine lv_bipush (v := 10) hC.1 hC.2.1 dX7_init_127 (by decide) ?_
    refine lv_icmp_ge (tgt := 151) hC.1 hC.2.1 dX7_init_129 (by decide) (fun c1 => absurd c1 (nI_ge ha0 (by decide))) (fun _ => ?_)
    refine lv_aload_n hC.1 hC.2.1 dX7_init_132 rfl (lv_at hl 0 rfl) ?_
    rw [← hf.1]
    refine g_get (k := 0) (fs := Lag lay' (fun _ => 0)) hC hT.1 G (by decide) rfl k_X7 i_X7_init_X7 0 (by decide) (wm 5 rfl) rfl dX7_init_133 ?_
    refine lv_iload_n hC.1 hC.2.1 dX7_init_136 rfl (lv_at hl 1 rfl) ?_
    have hno : ∀ i, i < 87 → ¬ inDone a 0 0 0 i → inX cy lay' X a 0 0 0 i = none := fun i h1 h2 => inX_no h1 h2
    refine g_new (k := (29 + a)) (fs := [.int 0, .int 0, .int 0, .int 0, .int 0, .int 0, .int 0, .int 0]) hC hT.1 G hA (hno (29 + a) (by omega) (by unfold inDone; omega)) k_X3 i_X7_init_X3 (wm 4 rfl) (wm 34 rfl) (wm 35 rfl) df_X3 (show (28 + 1 * a) + 1 ≤ 86 by omega) (show (1613 + 8 * a) + 8 ≤ 2009 by omega) dX7_init_137 (fun q H G => ?_)
    have hlk : gU lay' (29 + a) q (29 + a) = q := gU_eq
    rw [hlk]
    refine lv_dup hC.1 hC.2.1 dX7_init_140 rfl ?_
    refine g_v G hA (g_runIN (host := RX7) (b := gU lay' (29 + a) q (29 + a)) (As := []) (rest := [.ref q, .int (nI a), .ref (lay' 1)]) hC hT G (c_X3_init l D cy _ _ (k := (29 + a)) (by omega) gU_eq _) ⟨va_cnB 0 hC.2.2.2.2 ggX7_init_X3_init rfl rfl rfl (hT.2.1 _ (wm 30 rfl)) (hC.2.2.2.2 (.initialized RX3) (wm 35 rfl)) hdI_X3 ⟨Nat.le_of_ble_eq_true rfl, Nat.le_of_ble_eq_true rfl⟩, rfl, hC.2.2.2.2 (.instanceMethod yX3_init) (wm 68 rfl)⟩ rfl hl.1 (by rw [hlk]; rfl) (Nat.le_of_ble_eq_true rfl) dX7_init_141 ⟨show (28 + 1 * a) + 1 + 0 ≤ 86 by omega, show (1613 + 8 * a) + 8 + 0 ≤ 2009 by omega⟩) (fun Y H locs hY G => ?_)
    subst hY
    dsimp only at G
    refine g_aastA (k := 1) (kv := (29 + a)) (n := 10) (f := rfs lay' 29 a) (gU_ne (by omega)) hlk hC hT G (by decide) (by omega) 2 8 ((gU_ne (by omega)).trans ((gU_ne (by omega)).trans rfl)) rfl gU_eq rfl (vp_in_nI ha0 (by decide)) dX7_init_144 (fun H locs G => ?_)
    refine lv_iinc (v := nI (a + 1)) (lv' := [(1, .int (nI (a + 1))), (0, .ref (lay 0))]) hC.1 hC.2.1 dX7_init_145 hl (k := 1) rfl (nI_1 a) (by decide) rfl (fun ls hl => ?_)
    refine lv_goto (tgt := 126) hC.1 hC.2.1 dX7_init_148 (by decide) ?_
    refine ih (a + 1) (by omega) (gU lay' (29 + a) q) H locs ls ⟨(gU_ne (by omega)).trans hf.1, fun i hi => (gU_ne (by omega)).trans (hf.2 i hi)⟩ (gG_eq (fun k hk => ?_) G) (lv_sub hl [1, 0] rfl)
    have hmv : inX cy (gU lay' (29 + a) q) X a 0 0 0 = inX cy lay' X a 0 0 0 := inX_mv fun r hr => by
      unfold inDone at hr
      exact (gU_ne (by omega)).trans rfl
    rw [inX_sa ha0, hmv, rfs_s (q := q) gU_eq, nI_clamp (by omega)]
    have hrf : rfs (gU lay' (29 + a) q) 29 a = rfs lay' 29 a := rfs_lay fun j hj => (gU_ne (by omega)).trans rfl
    rw [hrf]
    rw [gU_gU]
end
section
set_option maxHeartbeats 8000000 in
set_option maxRecDepth 100000 in
theorem c_X7_init (l : Launch) (D : va_G) (cy : Nat → ClassId) (lay : Nat → Nat) (X : Nat → Option va_E) (h0 : X 0 = some (.inr (12, [.null, .null, .null, .null, .null, .null, .int 0, .int 0, .int 0, .int 0, .int 0, .null, .null, .null, .null]))) (hn : ∀ i, 1 ≤ i → i < 87 → X i = none) (sz : Nat) : Met l yX7_init wsX7_init rm_X7_init (va_Pc [.ref (lay 0)] (gIn D cy lay X sz)) (va_Qv (inPost cy lay X) (gO D (gA lay X sz)) (gA lay X sz)) 86 2009 (gA lay X sz) := by
  refine g_ofW (cc := cX7_init) (maxL := 2) (ret := none) (own := RX7) (Qc := fun sz => va_Qv (inPost cy lay X) (gO D (gA lay X sz)) (gA lay X sz)) (by decide) rfl (Nat.le_of_ble_eq_true rfl) rfl ?_
  intro p e s m args below meth c ls hC hr hlocks hname hT G hl
  have hl : lv_has ls 2 [(0, .ref (lay 0))] := hl
  have hA : ∀ q, s.heap.size ≤ q → gA lay X s.heap.size q := fun _ h => Or.inr h
  refine lv_aload_n hC.1 hC.2.1 dX7_init_0 rfl (lv_at hl 0 rfl) ?_
  refine W.objInit hC.1 hC.2.1 hC.2.2.2.1 (hC.2.2.2.2 _ (wm 1 rfl)) (hC.2.2.2.2 _ (wm 2 rfl)) (hC.2.2.2.2 _ (wm 3 rfl)) rfl (by rw [hC.2.2.1]; exact hl.1) rfl dX7_init_1 (Nat.le_of_ble_eq_true rfl) (Nat.le_of_ble_eq_true rfl) ?_
  refine W.eq (g2 := F0 m 4 ls []) rfl ?_
  refine lv_aload_n hC.1 hC.2.1 dX7_init_4 rfl (lv_at hl 0 rfl) ?_
  refine lv_bipush (v := 10) hC.1 hC.2.1 dX7_init_5 (by decide) ?_
  refine g_newq (k := 1) (t := 2) (C := RX3) (N := 10) hC hT G hA (hn 1 (by decide) (by decide)) rfl (List.mem_of_getElem? (i := 0) rfl) (wm 4 rfl) (by decide) (by decide) (by decide) (Nat.le_of_ble_eq_true rfl) (Nat.le_of_ble_eq_true rfl) dX7_init_7 (fun q1 H G => ?_)
  rw [gU_eq]
  refine g_putFA (k := 0) rfl hC hT.1 G (by decide) ((gU_ne (by decide)).trans h0) k_X7 i_X7_init_X7 0 (by decide) (wm 5 rfl) rfl hname rfl rfl rfl (by simp) dX7_init_10 (fun H locs G => ?_)
  refine lv_aload_n hC.1 hC.2.1 dX7_init_13 rfl (lv_at hl 0 rfl) ?_
  refine lv_bipush (v := 16) hC.1 hC.2.1 dX7_init_14 (by decide) ?_
  refine g_newq (k := 2) (t := 3) (C := RX5) (N := 16) hC hT G hA ((gU_ne (by decide)).trans ((gU_ne (by decide)).trans (hn 2 (by decide) (by decide)))) rfl (List.mem_of_getElem? (i := 1) rfl) (wm 6 rfl) (by decide) (by decide) (by decide) (Nat.le_of_ble_eq_true rfl) (Nat.le_of_ble_eq_true rfl) dX7_init_16 (fun q2 H G => ?_)
  rw [gU_eq]
  refine g_putFA (k := 0) rfl hC hT.1 G (by decide) ((gU_ne (by decide)).trans gU_eq) k_X7 i_X7_init_X7 1 (by decide) (wm 7 rfl) rfl hname rfl rfl rfl (by simp) dX7_init_19 (fun H locs G => ?_)
  refine lv_aload_n hC.1 hC.2.1 dX7_init_22 rfl (lv_at hl 0 rfl) ?_
  refine lv_bipush (v := 6) hC.1 hC.2.1 dX7_init_23 (by decide) ?_
  refine g_newq (k := 3) (t := 4) (C := RX0) (N := 6) hC hT G hA ((gU_ne (by decide)).trans ((gU_ne (by decide)).trans ((gU_ne (by decide)).trans ((gU_ne (by decide)).trans (hn 3 (by decide) (by decide)))))) rfl (List.mem_of_getElem? (i := 2) rfl) (wm 8 rfl) (by decide) (by decide) (by decide) (Nat.le_of_ble_eq_true rfl) (Nat.le_of_ble_eq_true rfl) dX7_init_25 (fun q3 H G => ?_)
  rw [gU_eq]
  refine g_putFA (k := 0) rfl hC hT.1 G (by decide) ((gU_ne (by decide)).trans gU_eq) k_X7 i_X7_init_X7 2 (by decide) (wm 9 rfl) rfl hname rfl rfl rfl (by simp) dX7_init_28 (fun H locs G => ?_)
  refine lv_aload_n hC.1 hC.2.1 dX7_init_31 rfl (lv_at hl 0 rfl) ?_
  refine lv_bipush (v := 14) hC.1 hC.2.1 dX7_init_32 (by decide) ?_
  refine g_newq (k := 4) (t := 5) (C := RX6) (N := 14) hC hT G hA ((gU_ne (by decide)).trans ((gU_ne (by decide)).trans ((gU_ne (by decide)).trans ((gU_ne (by decide)).trans ((gU_ne (by decide)).trans ((gU_ne (by decide)).trans (hn 4 (by decide) (by decide)))))))) rfl (List.mem_of_getElem? (i := 3) rfl) (wm 10 rfl) (by decide) (by decide) (by decide) (Nat.le_of_ble_eq_true rfl) (Nat.le_of_ble_eq_true rfl) dX7_init_34 (fun q4 H G => ?_)
  rw [gU_eq]
  refine g_putFA (k := 0) rfl hC hT.1 G (by decide) ((gU_ne (by decide)).trans gU_eq) k_X7 i_X7_init_X7 3 (by decide) (wm 11 rfl) rfl hname rfl rfl rfl (by simp) dX7_init_37 (fun H locs G => ?_)
  refine lv_aload_n hC.1 hC.2.1 dX7_init_40 rfl (lv_at hl 0 rfl) ?_
  refine g_new (k := 5) (fs := [.null, .null]) hC hT.1 G hA ((gU_ne (by decide)).trans ((gU_ne (by decide)).trans ((gU_ne (by decide)).trans ((gU_ne (by decide)).trans ((gU_ne (by decide)).trans ((gU_ne (by decide)).trans ((gU_ne (by decide)).trans ((gU_ne (by decide)).trans (hn 5 (by decide) (by decide)))))))))) k_X4 i_X7_init_X4 (wm 12 rfl) (wm 13 rfl) (wm 14 rfl) df_X4 (Nat.le_of_ble_eq_true rfl) (Nat.le_of_ble_eq_true rfl) dX7_init_41 (fun q5 H G => ?_)
  rw [gU_eq]
  refine lv_dup hC.1 hC.2.1 dX7_init_44 rfl ?_
  refine g_v (post := rdPost cy _ _) G hA (g_runI (b := gU (gU (gU (gU (gU lay 1 q1) 2 q2) 3 q3) 4 q4) 5 q5 5) (As := []) (rest := [.ref q5, .ref (lay 0)]) hC hT G (c_X4_init l D cy _ _ gU_eq (fun i h1 h2 => ((gU_ne (by omega)).trans ((gU_ne (by omega)).trans ((gU_ne (by omega)).trans ((gU_ne (by omega)).trans ((gU_ne (by omega)).trans ((gU_ne (by omega)).trans ((gU_ne (by omega)).trans ((gU_ne (by omega)).trans ((gU_ne (by omega)).trans (hn i (by omega) (by omega)))))))))))) _) ⟨callB_of 0 hC.2.2.2.2 ggX7_init_X4_init rfl rfl rfl (hC.2.2.2.2 (.initialized RX4) (wm 14 rfl)) (hC.2.2.2.2 (.methodLink RX7 35 yX4_init) (wm 42 rfl)) hdI_X4 ⟨Nat.le_of_ble_eq_true rfl, Nat.le_of_ble_eq_true rfl⟩, rfl, hC.2.2.2.2 (.instanceMethod yX4_init) (wm 43 rfl)⟩ rfl hl.1 rfl (Nat.le_of_ble_eq_true rfl) dX7_init_45 ⟨Nat.le_of_ble_eq_true rfl, Nat.le_of_ble_eq_true rfl⟩) (fun Y H locs hY G => ?_)
  obtain ⟨lay5, Z5⟩ := Y
  obtain ⟨hl5, hZ5⟩ := hY
  dsimp only at hl5 hZ5 G
  subst hZ5
  have e0 : lay5 0 = lay 0 := hl5 0 (by decide)
  have e1 : lay5 1 = q1 := hl5 1 (by decide)
  have e2 : lay5 2 = q2 := hl5 2 (by decide)
  have e3 : lay5 3 = q3 := hl5 3 (by decide)
  have e4 : lay5 4 = q4 := hl5 4 (by decide)
  have e5 : lay5 5 = q5 := hl5 5 (by decide)
  have e87 : ∀ i, 87 ≤ i → lay5 i = lay i := fun i hi => (hl5 i (by omega)).trans ((gU_ne (by omega)).trans ((gU_ne (by omega)).trans ((gU_ne (by omega)).trans ((gU_ne (by omega)).trans ((gU_ne (by omega)))))))
  refine g_putFA (k := 0) e0 hC hT.1 G (by decide) ((rdX_lo (by decide) (by decide) (by decide)).trans ((gU_ne (by decide)).trans gU_eq)) k_X7 i_X7_init_X7 4 (by decide) (wm 15 rfl) rfl hname rfl rfl rfl (by simp) dX7_init_48 (fun H locs G => ?_)
  refine lv_aload_n hC.1 hC.2.1 dX7_init_51 rfl (lv_at hl 0 rfl) ?_
  refine lv_sipush (v := 366) hC.1 hC.2.1 dX7_init_52 (by decide) ?_
  refine g_newa_i (k := 6) (N := 366) hC hT G hA ((gU_ne (by decide)).trans ((rdX_lo (by decide) (by decide) (by decide)).trans ((gU_ne (by decide)).trans ((gU_ne (by decide)).trans ((gU_ne (by decide)).trans ((gU_ne (by decide)).trans ((gU_ne (by decide)).trans ((gU_ne (by decide)).trans ((gU_ne (by decide)).trans ((gU_ne (by decide)).trans ((gU_ne (by decide)).trans (hn 6 (by decide) (by decide))))))))))))) (wm 16 rfl) (by decide) (by decide) (by decide) (Nat.le_of_ble_eq_true rfl) (Nat.le_of_ble_eq_true rfl) dX7_init_55 (fun q6 H G => ?_)
  rw [gU_eq]
  refine g_putFA (k := 0) ((gU_ne (by decide)).trans e0) hC hT.1 G (by decide) ((gU_ne (by decide)).trans gU_eq) k_X7 i_X7_init_X7 5 (by decide) (wm 17 rfl) rfl hname rfl rfl rfl (by simp) dX7_init_57 (fun H locs G => ?_)
  refine lv_aload_n hC.1 hC.2.1 dX7_init_60 rfl (lv_at hl 0 rfl) ?_
  refine lv_iconst (v := 0) hC.1 hC.2.1 dX7_init_61 (by decide) ?_
  refine g_putA (k := 0) ((gU_ne (by decide)).trans e0) hC hT.1 G (by decide) gU_eq k_X7 i_X7_init_X7 6 (by decide) (wm 18 rfl) rfl rfl rfl (by simp) dX7_init_62 (fun H locs G => ?_)
  refine lv_aload_n hC.1 hC.2.1 dX7_init_65 rfl (lv_at hl 0 rfl) ?_
  refine lv_iconst (v := 0) hC.1 hC.2.1 dX7_init_66 (by decide) ?_
  refine g_putA (k := 0) ((gU_ne (by decide)).trans e0) hC hT.1 G (by decide) gU_eq k_X7 i_X7_init_X7 7 (by decide) (wm 19 rfl) rfl rfl rfl (by simp) dX7_init_67 (fun H locs G => ?_)
  refine lv_aload_n hC.1 hC.2.1 dX7_init_70 rfl (lv_at hl 0 rfl) ?_
  refine lv_iconst (v := 0) hC.1 hC.2.1 dX7_init_71 (by decide) ?_
  refine g_putA (k := 0) ((gU_ne (by decide)).trans e0) hC hT.1 G (by decide) gU_eq k_X7 i_X7_init_X7 8 (by decide) (wm 20 rfl) rfl rfl rfl (by simp) dX7_init_72 (fun H locs G => ?_)
  refine lv_aload_n hC.1 hC.2.1 dX7_init_75 rfl (lv_at hl 0 rfl) ?_
  refine lv_iconst (v := 0) hC.1 hC.2.1 dX7_init_76 (by decide) ?_
  refine g_putA (k := 0) ((gU_ne (by decide)).trans e0) hC hT.1 G (by decide) gU_eq k_X7 i_X7_init_X7 9 (by decide) (wm 21 rfl) rfl rfl rfl (by simp) dX7_init_77 (fun H locs G => ?_)
  refine lv_aload_n hC.1 hC.2.1 dX7_init_80 rfl (lv_at hl 0 rfl) ?_
  refine lv_iconst (v := 0) hC.1 hC.2.1 dX7_init_81 (by decide) ?_
  refine g_putA (k := 0) ((gU_ne (by decide)).trans e0) hC hT.1 G (by decide) gU_eq k_X7 i_X7_init_X7 10 (by decide) (wm 22 rfl) rfl rfl rfl (by simp) dX7_init_82 (fun H locs G => ?_)
  refine lv_aload_n hC.1 hC.2.1 dX7_init_85 rfl (lv_at hl 0 rfl) ?_
  refine lv_bipush (v := 14) hC.1 hC.2.1 dX7_init_86 (by decide) ?_
  refine g_newa_i (k := 7) (N := 14) hC hT G hA ((gU_ne (by decide)).trans ((gU_ne (by decide)).trans ((gU_ne (by decide)).trans ((gU_ne (by decide)).trans ((gU_ne (by decide)).trans ((gU_ne (by decide)).trans ((gU_ne (by decide)).trans ((gU_ne (by decide)).trans ((rdX_lo (by decide) (by decide) (by decide)).trans ((gU_ne (by decide)).trans ((gU_ne (by decide)).trans ((gU_ne (by decide)).trans ((gU_ne (by decide)).trans ((gU_ne (by decide)).trans ((gU_ne (by decide)).trans ((gU_ne (by decide)).trans ((gU_ne (by decide)).trans ((gU_ne (by decide)).trans (hn 7 (by decide) (by decide)))))))))))))))))))) (wm 16 rfl) (by decide) (by decide) (by decide) (Nat.le_of_ble_eq_true rfl) (Nat.le_of_ble_eq_true rfl) dX7_init_88 (fun q7 H G => ?_)
  rw [gU_eq]
  refine g_putFA (k := 0) ((gU_ne (by decide)).trans ((gU_ne (by decide)).trans e0)) hC hT.1 G (by decide) ((gU_ne (by decide)).trans gU_eq) k_X7 i_X7_init_X7 11 (by decide) (wm 23 rfl) rfl hname rfl rfl rfl (by simp) dX7_init_90 (fun H locs G => ?_)
  refine lv_aload_n hC.1 hC.2.1 dX7_init_93 rfl (lv_at hl 0 rfl) ?_
  refine lv_sipush (v := 1024) hC.1 hC.2.1 dX7_init_94 (by decide) ?_
  refine g_newa_z (k := 8) (N := 1024) hC hT G hA ((gU_ne (by decide)).trans ((gU_ne (by decide)).trans ((gU_ne (by decide)).trans ((gU_ne (by decide)).trans ((gU_ne (by decide)).trans ((gU_ne (by decide)).trans ((gU_ne (by decide)).trans ((gU_ne (by decide)).trans ((gU_ne (by decide)).trans ((gU_ne (by decide)).trans ((rdX_lo (by decide) (by decide) (by decide)).trans ((gU_ne (by decide)).trans ((gU_ne (by decide)).trans ((gU_ne (by decide)).trans ((gU_ne (by decide)).trans ((gU_ne (by decide)).trans ((gU_ne (by decide)).trans ((gU_ne (by decide)).trans ((gU_ne (by decide)).trans ((gU_ne (by decide)).trans (hn 8 (by decide) (by decide)))))))))))))))))))))) (wm 24 rfl) (by decide) (by decide) (by decide) (Nat.le_of_ble_eq_true rfl) (Nat.le_of_ble_eq_true rfl) dX7_init_97 (fun q8 H G => ?_)
  rw [gU_eq]
  refine g_putFA (k := 0) ((gU_ne (by decide)).trans ((gU_ne (by decide)).trans ((gU_ne (by decide)).trans e0))) hC hT.1 G (by decide) ((gU_ne (by decide)).trans gU_eq) k_X7 i_X7_init_X7 12 (by decide) (wm 25 rfl) rfl hname rfl rfl rfl (by simp) dX7_init_99 (fun H locs G => ?_)
  refine lv_aload_n hC.1 hC.2.1 dX7_init_102 rfl (lv_at hl 0 rfl) ?_
  refine g_new (k := 9) (fs := [.int 0, .int 0, .int 0, .int 0, .int 0, .int 0]) hC hT.1 G hA ((gU_ne (by decide)).trans ((gU_ne (by decide)).trans ((gU_ne (by decide)).trans ((gU_ne (by decide)).trans ((gU_ne (by decide)).trans ((gU_ne (by decide)).trans ((gU_ne (by decide)).trans ((gU_ne (by decide)).trans ((gU_ne (by decide)).trans ((gU_ne (by decide)).trans ((gU_ne (by decide)).trans ((gU_ne (by decide)).trans ((rdX_lo (by decide) (by decide) (by decide)).trans ((gU_ne (by decide)).trans ((gU_ne (by decide)).trans ((gU_ne (by decide)).trans ((gU_ne (by decide)).trans ((gU_ne (by decide)).trans ((gU_ne (by decide)).trans ((gU_ne (by decide)).trans ((gU_ne (by decide)).trans ((gU_ne (by decide)).trans (hn 9 (by decide) (by decide)))))))))))))))))))))))) k_X2 i_X7_init_X2 (wm 26 rfl) (wm 27 rfl) (wm 28 rfl) df_X2 (Nat.le_of_ble_eq_true rfl) (Nat.le_of_ble_eq_true rfl) dX7_init_103 (fun q9 H G => ?_)
  rw [gU_eq]
  refine lv_dup hC.1 hC.2.1 dX7_init_106 rfl ?_
  refine g_v G hA (g_runIN (host := RX7) (b := (gU (gU (gU (gU lay5 6 q6) 7 q7) 8 q8) 9 q9) 9) (As := []) (rest := [.ref q9, .ref (lay 0)]) hC hT G (c_X2_init l D cy _ _ (k := 9) (by decide) gU_eq  _) ⟨va_cnB 0 hC.2.2.2.2 ggX7_init_X2_init rfl rfl rfl (hT.2.1 _ (wm 28 rfl)) (hC.2.2.2.2 (.initialized RX2) (wm 28 rfl)) hdI_X2 ⟨Nat.le_of_ble_eq_true rfl, Nat.le_of_ble_eq_true rfl⟩, rfl, hC.2.2.2.2 (.instanceMethod yX2_init) (wm 49 rfl)⟩ rfl hl.1 rfl (Nat.le_of_ble_eq_true rfl) dX7_init_107 ⟨Nat.le_of_ble_eq_true rfl, Nat.le_of_ble_eq_true rfl⟩) (fun Y H locs hY G => ?_)
  subst hY
  dsimp only at G
  refine g_putFA (k := 0) ((gU_ne (by decide)).trans ((gU_ne (by decide)).trans ((gU_ne (by decide)).trans ((gU_ne (by decide)).trans e0)))) hC hT.1 G (by decide) ((gU_ne (by decide)).trans ((gU_ne (by decide)).trans gU_eq)) k_X7 i_X7_init_X7 13 (by decide) (wm 29 rfl) rfl hname rfl rfl rfl (by simp) dX7_init_110 (fun H locs G => ?_)
  refine lv_aload_n hC.1 hC.2.1 dX7_init_113 rfl (lv_at hl 0 rfl) ?_
  refine g_new (k := 10) (fs := [.null, .int 0, .int 0, .null, .null, .null, .int 0]) hC hT.1 G hA ((gU_ne (by decide)).trans ((gU_ne (by decide)).trans ((gU_ne (by decide)).trans ((gU_ne (by decide)).trans ((gU_ne (by decide)).trans ((gU_ne (by decide)).trans ((gU_ne (by decide)).trans ((gU_ne (by decide)).trans ((gU_ne (by decide)).trans ((gU_ne (by decide)).trans ((gU_ne (by decide)).trans ((gU_ne (by decide)).trans ((gU_ne (by decide)).trans ((gU_ne (by decide)).trans ((gU_ne (by decide)).trans ((rdX_lo (by decide) (by decide) (by decide)).trans ((gU_ne (by decide)).trans ((gU_ne (by decide)).trans ((gU_ne (by decide)).trans ((gU_ne (by decide)).trans ((gU_ne (by decide)).trans ((gU_ne (by decide)).trans ((gU_ne (by decide)).trans ((gU_ne (by decide)).trans ((gU_ne (by decide)).trans (hn 10 (by decide) (by decide))))))))))))))))))))))))))) k_X1 i_X7_init_X1 (wm 30 rfl) (wm 31 rfl) (wm 32 rfl) df_X1 (Nat.le_of_ble_eq_true rfl) (Nat.le_of_ble_eq_true rfl) dX7_init_114 (fun q10 H G => ?_)
  rw [gU_eq]
  refine lv_dup hC.1 hC.2.1 dX7_init_117 rfl ?_
  refine g_v G hA (g_runIN (host := RX7) (b := (gU (gU (gU (gU (gU lay5 6 q6) 7 q7) 8 q8) 9 q9) 10 q10) 10) (As := []) (rest := [.ref q10, .ref (lay 0)]) hC hT G (c_X1_init l D cy _ _ (k := 10) (by decide) gU_eq (k1 := 11) ((gU_ne (by decide)).trans ((gU_ne (by decide)).trans ((gU_ne (by decide)).trans ((gU_ne (by decide)).trans ((gU_ne (by decide)).trans ((gU_ne (by decide)).trans ((gU_ne (by decide)).trans ((gU_ne (by decide)).trans ((gU_ne (by decide)).trans ((gU_ne (by decide)).trans ((gU_ne (by decide)).trans ((gU_ne (by decide)).trans ((gU_ne (by decide)).trans ((gU_ne (by decide)).trans ((gU_ne (by decide)).trans ((gU_ne (by decide)).trans ((rdX_lo (by decide) (by decide) (by decide)).trans ((gU_ne (by decide)).trans ((gU_ne (by decide)).trans ((gU_ne (by decide)).trans ((gU_ne (by decide)).trans ((gU_ne (by decide)).trans ((gU_ne (by decide)).trans ((gU_ne (by decide)).trans ((gU_ne (by decide)).trans ((gU_ne (by decide)).trans (hn 11 (by decide) (by decide)))))))))))))))))))))))))))) (k2 := 12) ((gU_ne (by decide)).trans ((gU_ne (by decide)).trans ((gU_ne (by decide)).trans ((gU_ne (by decide)).trans ((gU_ne (by decide)).trans ((gU_ne (by decide)).trans ((gU_ne (by decide)).trans ((gU_ne (by decide)).trans ((gU_ne (by decide)).trans ((gU_ne (by decide)).trans ((gU_ne (by decide)).trans ((gU_ne (by decide)).trans ((gU_ne (by decide)).trans ((gU_ne (by decide)).trans ((gU_ne (by decide)).trans ((gU_ne (by decide)).trans ((rdX_lo (by decide) (by decide) (by decide)).trans ((gU_ne (by decide)).trans ((gU_ne (by decide)).trans ((gU_ne (by decide)).trans ((gU_ne (by decide)).trans ((gU_ne (by decide)).trans ((gU_ne (by decide)).trans ((gU_ne (by decide)).trans ((gU_ne (by decide)).trans ((gU_ne (by decide)).trans (hn 12 (by decide) (by decide)))))))))))))))))))))))))))) (k3 := 13) ((gU_ne (by decide)).trans ((gU_ne (by decide)).trans ((gU_ne (by decide)).trans ((gU_ne (by decide)).trans ((gU_ne (by decide)).trans ((gU_ne (by decide)).trans ((gU_ne (by decide)).trans ((gU_ne (by decide)).trans ((gU_ne (by decide)).trans ((gU_ne (by decide)).trans ((gU_ne (by decide)).trans ((gU_ne (by decide)).trans ((gU_ne (by decide)).trans ((gU_ne (by decide)).trans ((gU_ne (by decide)).trans ((gU_ne (by decide)).trans ((rdX_lo (by decide) (by decide) (by decide)).trans ((gU_ne (by decide)).trans ((gU_ne (by decide)).trans ((gU_ne (by decide)).trans ((gU_ne (by decide)).trans ((gU_ne (by decide)).trans ((gU_ne (by decide)).trans ((gU_ne (by decide)).trans ((gU_ne (by decide)).trans ((gU_ne (by decide)).trans (hn 13 (by decide) (by decide)))))))))))))))))))))))))))) (k4 := 14) ((gU_ne (by decide)).trans ((gU_ne (by decide)).trans ((gU_ne (by decide)).trans ((gU_ne (by decide)).trans ((gU_ne (by decide)).trans ((gU_ne (by decide)).trans ((gU_ne (by decide)).trans ((gU_ne (by decide)).trans ((gU_ne (by decide)).trans ((gU_ne (by decide)).trans ((gU_ne (by decide)).trans ((gU_ne (by decide)).trans ((gU_ne (by decide)).trans ((gU_ne (by decide)).trans ((gU_ne (by decide)).trans ((gU_ne (by decide)).trans ((rdX_lo (by decide) (by decide) (by decide)).trans ((gU_ne (by decide)).trans ((gU_ne (by decide)).trans ((gU_ne (by decide)).trans ((gU_ne (by decide)).trans ((gU_ne (by decide)).trans ((gU_ne (by decide)).trans ((gU_ne (by decide)).trans ((gU_ne (by decide)).trans ((gU_ne (by decide)).trans (hn 14 (by decide) (by decide)))))))))))))))))))))))))))) (by decide) (by decide) (by decide) (by decide) (by decide) (by decide) (by decide) (by decide) (by decide) (by decide) (by decide) (by decide) (by decide) (by decide) (by decide) (by decide) (by decide) (by decide) (by decide) (by decide) _) ⟨va_cnB 0 hC.2.2.2.2 ggX7_init_X1_init rfl rfl rfl (hT.2.1 _ (wm 29 rfl)) (hC.2.2.2.2 (.initialized RX1) (wm 32 rfl)) hdI_X1 ⟨Nat.le_of_ble_eq_true rfl, Nat.le_of_ble_eq_true rfl⟩, rfl, hC.2.2.2.2 (.instanceMethod yX1_init) (wm 58 rfl)⟩ rfl hl.1 rfl (Nat.le_of_ble_eq_true rfl) dX7_init_118 ⟨Nat.le_of_ble_eq_true rfl, Nat.le_of_ble_eq_true rfl⟩) (fun Y H locs hY G => ?_)
  obtain ⟨q11, q12, q13, q14, hY⟩ := hY
  subst hY
  dsimp only at G
  refine g_putFA (k := 0) ((gU_ne (by decide)).trans ((gU_ne (by decide)).trans ((gU_ne (by decide)).trans ((gU_ne (by decide)).trans ((gU_ne (by decide)).trans ((gU_ne (by decide)).trans ((gU_ne (by decide)).trans ((gU_ne (by decide)).trans ((gU_ne (by decide)).trans e0))))))))) hC hT.1 G (by decide) ((gU_ne (by decide)).trans ((gU_ne (by decide)).trans ((gU_ne (by decide)).trans ((gU_ne (by decide)).trans ((gU_ne (by decide)).trans ((gU_ne (by decide)).trans ((gU_ne (by decide)).trans ((gU_ne (by decide)).trans ((gU_ne (by decide)).trans gU_eq))))))))) k_X7 i_X7_init_X7 14 (by decide) (wm 33 rfl) rfl hname rfl rfl rfl (by simp) dX7_init_121 (fun H locs G => ?_)
  refine lv_iconst (v := 0) hC.1 hC.2.1 dX7_init_124 (by decide) ?_
  refine lv_istore_n (lv' := [(1, .int 0), (0, .ref (lay 0))]) hC.1 hC.2.1 dX7_init_125 rfl hl (by decide) rfl (fun ls hl => ?_)
  refine l_X7_init_126 hC hr hlocks hT 10 0 (by omega) (gU (gU (gU (gU (gU (gU (gU (gU (gU lay5 6 q6) 7 q7) 8 q8) 9 q9) 10 q10) 11 q11) 12 q12) 13 q13) 14 q14) H locs ls ⟨by show lay5 0 = lay 0; exact e0, fun i hi => ?_⟩ (gG_eq (fun k hk => ?_) G) (lv_sub hl [1, 0] rfl)
  · rw [gU_ne (by omega : i ≠ 14), gU_ne (by omega : i ≠ 13), gU_ne (by omega : i ≠ 12), gU_ne (by omega : i ≠ 11), gU_ne (by omega : i ≠ 10), gU_ne (by omega : i ≠ 9), gU_ne (by omega : i ≠ 8), gU_ne (by omega : i ≠ 7), gU_ne (by omega : i ≠ 6)]
    exact e87 i hi
  · subst e1 e2 e3 e4 e5
    by_cases k29 : 29 ≤ k
    · refine Eq.trans (b := X k) ?_ ?_
      · repeat first | rw [gU_ne (by omega)] | rw [rdX_lo (by omega) (by omega) trivial]
      · by_cases k87 : k < 87
        · rw [hn k (by omega) k87, inX_no k87 (by unfold inDone; omega)]
        · unfold inX
          repeat rw [if_neg (by omega)]
    · have k29 : k < 29 := by omega
      clear hl5 G hl
      match k, k29 with
      | 0, _ => rfl
      | 1, _ => rfl
      | 2, _ => rfl
      | 3, _ => rfl
      | 4, _ => rfl
      | 5, _ => rfl
      | 6, _ => rfl
      | 7, _ => rfl
      | 8, _ => rfl
      | 9, _ => rfl
      | 10, _ => rfl
      | 11, _ => rfl
      | 12, _ => rfl
      | 13, _ => rfl
      | 14, _ => rfl
      | 15, _ => exact congrArg (fun z => some (Sum.inl (cy 6, 6, Sum.inr (Sum.inr (Sum.inr (Sum.inr z)))))) (rfs_lay (lay := lay5) fun j hj => by repeat rw [gU_ne (by omega)])
      | 16, _ => exact congrArg (fun z => some (Sum.inl (cy 6, 6, Sum.inr (Sum.inr (Sum.inr (Sum.inr z)))))) (rfs_lay (lay := lay5) fun j hj => by repeat rw [gU_ne (by omega)])
      | 17, _ => rfl
      | 18, _ => rfl
      | 19, _ => rfl
      | 20, _ => rfl
      | 21, _ => rfl
      | 22, _ => rfl
      | 23, _ => rfl
      | 24, _ => rfl
      | 25, _ => rfl
      | 26, _ => rfl
      | 27, _ => rfl
      | 28, _ => rfl
      | n + 29, h => exact absurd h (by omega)
end
section
theorem va_at_rf {D : va_G} {q n : Nat} {cA : ClassId} {f g : Nat → Option Nat} {H : Heap} (hfg : ∀ j, j < n → f j = g j) (h : va_at D vwCl (q, .inl (cA, n, .inr (.inr (.inr (.inr f))))) H) : va_at D vwCl (q, .inl (cA, n, .inr (.inr (.inr (.inr g))))) H := by
  have h2 : H[q]? = some (arrV cA n (fun j => va_rf (f j))) := h
  show H[q]? = some (arrV cA n (fun j => va_rf (g j)))
  rw [h2]
  unfold arrV
  congr 2
  refine congrArg Array.ofFn (funext fun j => ?_)
  show va_rf (f j.val) = va_rf (g j.val)
  rw [hfg j.val j.isLt]
theorem rfs_in {lay : Nat → Nat} {b n j : Nat} (h : j < n) : rfs lay b n j = some (lay (b + j)) := if_pos h
set_option maxHeartbeats 4000000 in
set_option maxRecDepth 100000 in
theorem inX_is (cy : Nat → ClassId) (lay : Nat → Nat) (X : Nat → Option va_E) (k : Nat) (hk : k < 87) : ∃ e, inX cy lay X 10 16 6 14 k = some e ∧ ∀ (D : va_G) (H : Heap) (q : Nat), va_at D vwCl (q, e) H → va_at D vwCl (q, agR cy lay (σ0 k) k) H := by
  match k, hk with
  | 0, _ => exact ⟨_, rfl, fun _ _ _ h => h⟩
  | 1, _ => exact ⟨_, rfl, fun _ _ _ h => va_at_rf (fun j hj => rfs_in hj) h⟩
  | 2, _ => exact ⟨_, rfl, fun _ _ _ h => va_at_rf (fun j hj => rfs_in hj) h⟩
  | 3, _ => exact ⟨_, rfl, fun _ _ _ h => va_at_rf (fun j hj => rfs_in hj) h⟩
  | 4, _ => exact ⟨_, rfl, fun _ _ _ h => va_at_rf (fun j hj => rfs_in hj) h⟩
  | 5, _ => exact ⟨_, rfl, fun _ _ _ h => h⟩
  | 6, _ => exact ⟨_, rfl, fun _ _ _ h => h⟩
  | 7, _ => exact ⟨_, rfl, fun _ _ _ h => h⟩
  | 8, _ => exact ⟨_, rfl, fun _ _ _ h => h⟩
  | 9, _ => exact ⟨_, rfl, fun _ _ _ h => h⟩
  | 10, _ => exact ⟨_, rfl, fun _ _ _ h => h⟩
  | 11, _ => exact ⟨_, rfl, fun _ _ _ h => h⟩
  | 12, _ => exact ⟨_, rfl, fun _ _ _ h => h⟩
  | 13, _ => exact ⟨_, rfl, fun _ _ _ h => h⟩
  | 14, _ => exact ⟨_, rfl, fun _ _ _ h => h⟩
  | 15, _ => exact ⟨_, rfl, fun _ _ _ h => va_at_rf (fun j hj => rfs_in hj) h⟩
  | 16, _ => exact ⟨_, rfl, fun _ _ _ h => va_at_rf (fun j hj => rfs_in hj) h⟩
  | 17, _ => exact ⟨_, rfl, fun _ _ _ h => h⟩
  | 18, _ => exact ⟨_, rfl, fun _ _ _ h => h⟩
  | 19, _ => exact ⟨_, rfl, fun _ _ _ h => h⟩
  | 20, _ => exact ⟨_, rfl, fun _ _ _ h => h⟩
  | 21, _ => exact ⟨_, rfl, fun _ _ _ h => h⟩
  | 22, _ => exact ⟨_, rfl, fun _ _ _ h => h⟩
  | 23, _ => exact ⟨_, rfl, fun _ _ _ h => h⟩
  | 24, _ => exact ⟨_, rfl, fun _ _ _ h => h⟩
  | 25, _ => exact ⟨_, rfl, fun _ _ _ h => h⟩
  | 26, _ => exact ⟨_, rfl, fun _ _ _ h => h⟩
  | 27, _ => exact ⟨_, rfl, fun _ _ _ h => h⟩
  | 28, _ => exact ⟨_, rfl, fun _ _ _ h => h⟩
  | 29, _ => exact ⟨_, rfl, fun _ _ _ h => h⟩
  | 30, _ => exact ⟨_, rfl, fun _ _ _ h => h⟩
  | 31, _ => exact ⟨_, rfl, fun _ _ _ h => h⟩
  | 32, _ => exact ⟨_, rfl, fun _ _ _ h => h⟩
  | 33, _ => exact ⟨_, rfl, fun _ _ _ h => h⟩
  | 34, _ => exact ⟨_, rfl, fun _ _ _ h => h⟩
  | 35, _ => exact ⟨_, rfl, fun _ _ _ h => h⟩
  | 36, _ => exact ⟨_, rfl, fun _ _ _ h => h⟩
  | 37, _ => exact ⟨_, rfl, fun _ _ _ h => h⟩
  | 38, _ => exact ⟨_, rfl, fun _ _ _ h => h⟩
  | 39, _ => exact ⟨_, rfl, fun _ _ _ h => h⟩
  | 40, _ => exact ⟨_, rfl, fun _ _ _ h => h⟩
  | 41, _ => exact ⟨_, rfl, fun _ _ _ h => h⟩
  | 42, _ => exact ⟨_, rfl, fun _ _ _ h => h⟩
  | 43, _ => exact ⟨_, rfl, fun _ _ _ h => h⟩
  | 44, _ => exact ⟨_, rfl, fun _ _ _ h => h⟩
  | 45, _ => exact ⟨_, rfl, fun _ _ _ h => h⟩
  | 46, _ => exact ⟨_, rfl, fun _ _ _ h => h⟩
  | 47, _ => exact ⟨_, rfl, fun _ _ _ h => h⟩
  | 48, _ => exact ⟨_, rfl, fun _ _ _ h => h⟩
  | 49, _ => exact ⟨_, rfl, fun _ _ _ h => h⟩
  | 50, _ => exact ⟨_, rfl, fun _ _ _ h => h⟩
  | 51, _ => exact ⟨_, rfl, fun _ _ _ h => h⟩
  | 52, _ => exact ⟨_, rfl, fun _ _ _ h => h⟩
  | 53, _ => exact ⟨_, rfl, fun _ _ _ h => h⟩
  | 54, _ => exact ⟨_, rfl, fun _ _ _ h => h⟩
  | 55, _ => exact ⟨_, rfl, fun _ _ _ h => h⟩
  | 56, _ => exact ⟨_, rfl, fun _ _ _ h => h⟩
  | 57, _ => exact ⟨_, rfl, fun _ _ _ h => h⟩
  | 58, _ => exact ⟨_, rfl, fun _ _ _ h => h⟩
  | 59, _ => exact ⟨_, rfl, fun _ _ _ h => h⟩
  | 60, _ => exact ⟨_, rfl, fun _ _ _ h => h⟩
  | 61, _ => exact ⟨_, rfl, fun _ _ _ h => h⟩
  | 62, _ => exact ⟨_, rfl, fun _ _ _ h => h⟩
  | 63, _ => exact ⟨_, rfl, fun _ _ _ h => h⟩
  | 64, _ => exact ⟨_, rfl, fun _ _ _ h => h⟩
  | 65, _ => exact ⟨_, rfl, fun _ _ _ h => h⟩
  | 66, _ => exact ⟨_, rfl, fun _ _ _ h => h⟩
  | 67, _ => exact ⟨_, rfl, fun _ _ _ h => h⟩
  | 68, _ => exact ⟨_, rfl, fun _ _ _ h => h⟩
  | 69, _ => exact ⟨_, rfl, fun _ _ _ h => h⟩
  | 70, _ => exact ⟨_, rfl, fun _ _ _ h => h⟩
  | 71, _ => exact ⟨_, rfl, fun _ _ _ h => h⟩
  | 72, _ => exact ⟨_, rfl, fun _ _ _ h => h⟩
  | 73, _ => exact ⟨_, rfl, fun _ _ _ h => h⟩
  | 74, _ => exact ⟨_, rfl, fun _ _ _ h => h⟩
  | 75, _ => exact ⟨_, rfl, fun _ _ _ h => h⟩
  | 76, _ => exact ⟨_, rfl, fun _ _ _ h => h⟩
  | 77, _ => exact ⟨_, rfl, fun _ _ _ h => h⟩
  | 78, _ => exact ⟨_, rfl, fun _ _ _ h => h⟩
  | 79, _ => exact ⟨_, rfl, fun _ _ _ h => h⟩
  | 80, _ => exact ⟨_, rfl, fun _ _ _ h => h⟩
  | 81, _ => exact ⟨_, rfl, fun _ _ _ h => h⟩
  | 82, _ => exact ⟨_, rfl, fun _ _ _ h => h⟩
  | 83, _ => exact ⟨_, rfl, fun _ _ _ h => h⟩
  | 84, _ => exact ⟨_, rfl, fun _ _ _ h => h⟩
  | 85, _ => exact ⟨_, rfl, fun _ _ _ h => h⟩
  | 86, _ => exact ⟨_, rfl, fun _ _ _ h => h⟩
  | n + 87, h => exact absurd h (by omega)
/-- the world that the constructor leaves is the class's world with the numbers of a new agency -/
theorem inX_ag {D : va_G} {cy : Nat → ClassId} {lay : Nat → Nat} {X : Nat → Option va_E} {A : Nat → Prop} {H : Heap} (hP : gP D lay (inX cy lay X 10 16 6 14) H) (hI : gI A lay (inX cy lay X 10 16 6 14)) : va_P D vwCl (agW cy lay σ0) H ∧ va_D A (agW cy lay σ0) := by
  refine ⟨fun k q hq => ?_, fun i j p q hi hj he => ?_, fun k q hq => ?_⟩
  · obtain ⟨hk, rfl⟩ := ag_of hq
    obtain ⟨e, he, h⟩ := inX_is cy lay X k hk
    exact h D H (lay k) (hP k e (by omega) he)
  · obtain ⟨hi2, rfl⟩ := ag_of hi
    obtain ⟨hj2, rfl⟩ := ag_of hj
    obtain ⟨e, h1, -⟩ := inX_is cy lay X i hi2
    obtain ⟨f, h2, -⟩ := inX_is cy lay X j hj2
    exact hI.1 i j e f (by omega) (by omega) h1 h2 he
  · obtain ⟨hk, rfl⟩ := ag_of hq
    obtain ⟨e, he, -⟩ := inX_is cy lay X k hk
    exact hI.2 k e (by omega) he
end
