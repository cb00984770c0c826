theorem va_P_mem {D : va_G} {ws : va_W} {H : Heap} {x : Nat × va_E} (h : va_P D vwCl ws H) (hm : x ∈ ws) : va_at D vwCl x H := by
  obtain ⟨i, hi⟩ := List.getElem?_of_mem hm
  exact h i x hi
/-- new int[6][6] as cells k0 and kb to kb + 5 -/
def mnX (cy : Nat → ClassId) (lay' : Nat → Nat) (k0 kb : Nat) (X : Nat → Option va_E) : Nat → Option va_E := fun i =>
  if i = k0 then some (.inl (cy 6, 6, .inr (.inr (.inr (.inr (fun j => if j < 6 then some (lay' (kb + j)) else none))))))
  else if kb ≤ i ∧ i < kb + 6 then some (.inl (cy 0, 6, .inl (fun _ => 0))) else X i
section GMNA
variable {p : Program} {l : Launch} {e : Env} {R : Room} {s : State} {m : MethodId} {args : Array Value} {below : List Frame} {meth : Method} {c : Code} {H : Heap} {locs : List Loc} {cells slots : Nat} {Q : State → Prop}
variable {cc : ByteArray} {pc nL index : Nat} {ls : Array Slot} {rest : List Value} {D : va_G} {cy : Nat → ClassId} {lay : Nat → Nat} {X : Nat → Option va_E} {A : Nat → Prop} {H0 : Heap} {Ts : List Cond} {own : String}
theorem g_mna (hC : CallFix p m c cc nL s args Ts own) (hT : gT D cy s) (G : gG D lay X A H0 H locs) (hA : ∀ q, H0.size ≤ q → A q) {k0 kb : Nat} (hk0 : k0 < 128) (hkb : kb + 6 ≤ 128) (h0 : X k0 = none) (hb : ∀ i, kb ≤ i → i < kb + 6 → X i = none) (h0b : ¬ (kb ≤ k0 ∧ k0 < kb + 6)) (hlk : Cond.classLink own index "[[I" ∈ Ts) (harr : Cond.arrayClass .int ∈ Ts) (hcells : cells + 7 ≤ R.cells) (hslots : slots + 42 ≤ R.slots) (hdg : decode cc pc = .ok (.multianewarray index 2, 4))
    (kk : ∀ (lay' : Nat → Nat) (H1 : Heap), (∀ i, i ≠ k0 → ¬ (kb ≤ i ∧ i < kb + 6) → lay' i = lay i) → gG D lay' (mnX cy lay' k0 kb X) A H0 H1 locs → W p l e R s m args below meth c H1 locs (cells + 1 + 6) (slots + 6 + 6 * 6) Q (F0 m (pc + 4) ls (.ref (lay' k0) :: rest))) : W p l e R s m args below meth c H locs cells slots Q (F0 m pc ls (.int 6 :: .int 6 :: rest)) := by
  have e1 : "[" ++ (FieldType.array FieldType.int).toString = "[[I" := by decide +kernel
  have hcl := hC.2.2.2.2 _ hlk
  rw [← e1] at hcl
  have hcy : s.vm.findClass (FieldType.array FieldType.int).toString = some (cy 0) := (hT.1.2 0 (cy 0, .int) rfl).2
  have hP0 : va_P D vwCl (gW lay X ++ va_pl [] (fun _ => .inr (0, []))) H := by
    have := gP_list G.1
    unfold va_pl
    rw [List.map_nil, List.append_nil]
    exact this
  have hD0 : va_D A (gW lay X ++ va_pl [] (fun _ => .inr (0, []))) := by
    have := gI_list G.2.1
    unfold va_pl
    rw [List.map_nil, List.append_nil]
    exact this
  refine va_mna (X := gW lay X) (L := []) (f := fun _ => .inr (0, [])) (ty := .int) (cy := cy 0) (N' := 6) (K' := 6) (z := (6, .inl (fun _ => 0))) hC.1 hC.2.1 hC.2.2.2.1 hcl hT.2.2.2 (hC.2.2.2.2 _ harr) hcy hT.1 hP0 hD0 G.2.2 hA (by decide) (by decide) (by decide) (by decide) (by decide) (by decide) (by decide) (by decide) (by decide) (by omega) (by omega) (fun c => by rw [vp_cell_i, ← arrV_new]; rfl) hdg (fun q r cA H1 hinj _ hK' hP hD hS => ?_)
  have h1 := (hK'.2 (fdT cy).length (cA, .array .int) (by rw [List.getElem?_append_right (Nat.le_refl _), Nat.sub_self]; rfl)).2
  have h2 := (hT.1.2 6 (cy 6, .array .int) rfl).2
  have hc : cA = cy 6 := Option.some.inj (Eq.trans (Eq.symm h1) h2)
  subst hc
  rw [List.nil_append] at hP hD
  have h := kk (fun i => if i = k0 then q else if kb ≤ i ∧ i < kb + 6 then r (i - kb) else lay i) H1 (fun i h1 h2 => by rw [if_neg h1, if_neg h2]) ?_
  · rw [if_pos rfl] at h
    exact h
  · have hlay0 : (fun i => if i = k0 then q else if kb ≤ i ∧ i < kb + 6 then r (i - kb) else lay i) k0 = q := if_pos rfl
    have hlayr : ∀ j, j < 6 → (fun i => if i = k0 then q else if kb ≤ i ∧ i < kb + 6 then r (i - kb) else lay i) (kb + j) = r j := fun j hj => by
      show (if kb + j = k0 then q else if kb ≤ kb + j ∧ kb + j < kb + 6 then r (kb + j - kb) else lay (kb + j)) = r j
      rw [if_neg (by omega), if_pos (by omega), show kb + j - kb = j by omega]
    have hlayo : ∀ i, i ≠ k0 → ¬ (kb ≤ i ∧ i < kb + 6) → (fun i => if i = k0 then q else if kb ≤ i ∧ i < kb + 6 then r (i - kb) else lay i) i = lay i := fun i h1 h2 => by
      show (if i = k0 then q else if kb ≤ i ∧ i < kb + 6 then r (i - kb) else lay i) = lay i
      rw [if_neg h1, if_neg h2]
    generalize (fun i => if i = k0 then q else if kb ≤ i ∧ i < kb + 6 then r (i - kb) else lay i) = lay' at hlay0 hlayr hlayo
    have hpl : ∀ j, j < 6 → (r j, (.inl (cy 0, 6, .inl (fun _ => 0)) : va_E)) ∈ va_pl ((List.range 6).map r) (vr_up (fun _ => .inr (0, [])) ((List.range 6).map r) (.inl (cy 0, 6, .inl (fun _ => 0)))) := fun j hj => by
      have hm : r j ∈ (List.range 6).map r := List.mem_map.mpr ⟨j, List.mem_range.mpr hj, rfl⟩
      unfold va_pl
      refine List.mem_map.mpr ⟨r j, hm, ?_⟩
      rw [vr_up_in hm]
    have hout : (.inl (cy 6, 6, .inr (.inr (.inr (.inr (fun i => if i < 6 then some (r i) else none))))) : va_E) = .inl (cy 6, 6, .inr (.inr (.inr (.inr (fun j => if j < 6 then some (lay' (kb + j)) else none))))) := by
      have hf : (fun i => if i < 6 then some (r i) else none) = (fun j => if j < 6 then some (lay' (kb + j)) else none) := by
        funext j
        by_cases hj : j < 6
        · rw [if_pos hj, if_pos hj, hlayr j hj]
        · rw [if_neg hj, if_neg hj]
      rw [hf]
    rw [hout] at hP hD
    -- each cell of the new world stands in the list
    have hmem : ∀ i f, i < 128 → mnX cy lay' k0 kb X i = some f → (lay' i, f) ∈ (gW lay X ++ [(q, .inl (cy 6, 6, .inr (.inr (.inr (.inr (fun j => if j < 6 then some (lay' (kb + j)) else none))))))]) ++ va_pl ((List.range 6).map r) (vr_up (fun _ => .inr (0, [])) ((List.range 6).map r) (.inl (cy 0, 6, .inl (fun _ => 0)))) := fun i f hi hf => by
      unfold mnX at hf
      by_cases h1 : i = k0
      · rw [if_pos h1] at hf
        cases hf
        rw [h1, hlay0]
        exact List.mem_append_left _ (List.mem_append_right _ List.mem_cons_self)
      · rw [if_neg h1] at hf
        by_cases h2 : kb ≤ i ∧ i < kb + 6
        · rw [if_pos h2] at hf
          cases hf
          have := hlayr (i - kb) (by omega)
          rw [show kb + (i - kb) = i by omega] at this
          rw [this]
          exact List.mem_append_right _ (hpl _ (by omega))
        · rw [if_neg h2] at hf
          rw [hlayo i h1 h2]
          obtain ⟨q2, hq2⟩ := gW_pos (lay := lay) hi hf
          exact List.mem_append_left _ (List.mem_append_left _ (List.mem_of_getElem? hq2))
    have hqn : ∀ i f, i < 128 → X i = some f → lay i ≠ q := fun i f hi hf z => by
      obtain ⟨q2, hq2⟩ := gW_pos (lay := lay) hi hf
      have hl := (List.getElem?_eq_some_iff.mp hq2).1
      have := hD.1 q2 (gW lay X).length (lay i, f) (q, _) (by rw [List.getElem?_append_left (by rw [List.length_append]; exact Nat.lt_of_lt_of_le hl (Nat.le_add_right _ _)), List.getElem?_append_left hl]; exact hq2) (by rw [List.getElem?_append_left (by rw [List.length_append]; exact Nat.lt_succ_self _), List.getElem?_append_right (Nat.le_refl _), Nat.sub_self]; rfl) z
      omega
    have hpos : ∀ j, j < 6 → ∃ n2 f, (gW lay X).length + 1 ≤ n2 ∧ ((gW lay X ++ [(q, .inl (cy 6, 6, .inr (.inr (.inr (.inr (fun j => if j < 6 then some (lay' (kb + j)) else none))))))]) ++ va_pl ((List.range 6).map r) (vr_up (fun _ => .inr (0, [])) ((List.range 6).map r) (.inl (cy 0, 6, .inl (fun _ => 0)))))[n2]? = some (r j, f) := fun j hj => by
      have h9 := List.getElem?_of_mem (hpl j hj)
      obtain ⟨n3, h3⟩ := h9
      have h10 : ((gW lay X ++ [(q, .inl (cy 6, 6, .inr (.inr (.inr (.inr (fun j => if j < 6 then some (lay' (kb + j)) else none))))))]) ++ va_pl ((List.range 6).map r) (vr_up (fun _ => .inr (0, [])) ((List.range 6).map r) (.inl (cy 0, 6, .inl (fun _ => 0)))))[(gW lay X).length + 1 + n3]? = some (r j, .inl (cy 0, 6, .inl (fun _ => 0))) := by
        rw [List.getElem?_append_right (by rw [List.length_append]; exact Nat.le_add_right _ _), List.length_append, List.length_singleton, Nat.add_sub_cancel_left]
        exact h3
      exact ⟨(gW lay X).length + 1 + n3, _, Nat.le_add_right _ _, h10⟩
    have hrn : ∀ i f j, i < 128 → X i = some f → j < 6 → lay i ≠ r j := fun i f j hi hf hj z => by
      obtain ⟨q2, hq2⟩ := gW_pos (lay := lay) hi hf
      have hl := (List.getElem?_eq_some_iff.mp hq2).1
      obtain ⟨n2, f2, h3, h4⟩ := hpos j hj
      have := hD.1 q2 n2 (lay i, f) (r j, f2) (by rw [List.getElem?_append_left (by rw [List.length_append]; exact Nat.lt_of_lt_of_le hl (Nat.le_add_right _ _)), List.getElem?_append_left hl]; exact hq2) h4 z
      omega
    have hqr : ∀ j, j < 6 → q ≠ r j := fun j hj z => by
      obtain ⟨n2, f2, h3, h4⟩ := hpos j hj
      have := hD.1 (gW lay X).length n2 (q, _) (r j, f2) (by rw [List.getElem?_append_left (by rw [List.length_append]; exact Nat.lt_succ_self _), List.getElem?_append_right (Nat.le_refl _), Nat.sub_self]; rfl) h4 z
      omega
    -- where each cell's address comes from
    have hcase : ∀ i f, i < 128 → mnX cy lay' k0 kb X i = some f → (i = k0 ∧ lay' i = q) ∨ (∃ j, j < 6 ∧ i = kb + j ∧ lay' i = r j) ∨ (∃ g, X i = some g ∧ lay' i = lay i ∧ i ≠ k0 ∧ ¬ (kb ≤ i ∧ i < kb + 6)) := fun i f hi hf => by
      by_cases h1 : i = k0
      · exact Or.inl ⟨h1, by rw [h1]; exact hlay0⟩
      · by_cases h2 : kb ≤ i ∧ i < kb + 6
        · refine Or.inr (Or.inl ⟨i - kb, by omega, by omega, ?_⟩)
          have := hlayr (i - kb) (by omega)
          rw [show kb + (i - kb) = i by omega] at this
          exact this
        · unfold mnX at hf
          rw [if_neg h1, if_neg h2] at hf
          exact Or.inr (Or.inr ⟨f, hf, hlayo i h1 h2, h1, h2⟩)
    refine ⟨fun i f hi hf => va_P_mem hP (hmem i f hi hf), ⟨fun i j a b hi hj ha hb hab => ?_, fun i a hi ha => ?_⟩, hS⟩
    · rcases hcase i a hi ha with ⟨u1, u2⟩ | ⟨u, u1, u2, u3⟩ | ⟨g1, u1, u2, u3, u4⟩ <;> rcases hcase j b hj hb with ⟨v1, v2⟩ | ⟨v, v1, v2, v3⟩ | ⟨g2, v1, v2, v3, v4⟩
      · rw [u1, v1]
      · rw [u2, v3] at hab; exact absurd hab (hqr v v1)
      · rw [u2, v2] at hab; exact absurd hab.symm (hqn j g2 hj v1)
      · rw [u3, v2] at hab; exact absurd hab.symm (hqr u u1)
      · rw [u3, v3] at hab; rw [u2, v2, hinj u v u1 v1 hab]
      · rw [u3, v2] at hab; exact absurd hab.symm (hrn j g2 u hj v1 u1)
      · rw [u2, v2] at hab; exact absurd hab (hqn i g1 hi u1)
      · rw [u2, v3] at hab; exact absurd hab (hrn i g1 v hi u1 v1)
      · rw [u2, v2] at hab; exact G.2.1.1 i j g1 g2 hi hj u1 v1 hab
    · obtain ⟨n2, h2⟩ := List.getElem?_of_mem (hmem i a hi ha)
      exact hD.2 n2 _ h2
end GMNA
