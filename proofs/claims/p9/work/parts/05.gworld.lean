/-! A WORLD OF NUMBERED CELLS, SOME OF THEM THERE: 'X k = some e': cell k is there and holds e, at the address lay k. For constructors, for the reference, for rows that a method makes. -/
def gW (lay : Nat → Nat) (X : Nat → Option va_E) : va_W := (List.range 128).filterMap fun k => (X k).map fun e => (lay k, e)
def gP (D : va_G) (lay : Nat → Nat) (X : Nat → Option va_E) (H : Heap) : Prop := ∀ k e, k < 128 → X k = some e → va_at D vwCl (lay k, e) H
def gI (A : Nat → Prop) (lay : Nat → Nat) (X : Nat → Option va_E) : Prop := (∀ i j e f, i < 128 → j < 128 → X i = some e → X j = some f → lay i = lay j → i = j) ∧ ∀ k e, k < 128 → X k = some e → A (lay k)
def gU {α : Type} (f : Nat → α) (k : Nat) (v : α) : Nat → α := fun i => if i = k then v else f i
theorem gU_eq {α : Type} {f : Nat → α} {k : Nat} {v : α} : gU f k v k = v := if_pos rfl
theorem gU_ne {α : Type} {f : Nat → α} {k i : Nat} {v : α} (h : i ≠ k) : gU f k v i = f i := if_neg h
theorem gW_pos {lay : Nat → Nat} {X : Nat → Option va_E} {k : Nat} {e : va_E} (hk : k < 128) (h : X k = some e) : ∃ q : Nat, (gW lay X)[q]? = some (lay k, e) := by
  have hm : (lay k, e) ∈ gW lay X := List.mem_filterMap.mpr ⟨k, List.mem_range.mpr hk, by rw [h]; rfl⟩
  exact List.getElem?_of_mem hm
theorem gW_inv {lay : Nat → Nat} {X : Nat → Option va_E} {q : Nat} {x : Nat × va_E} (h : (gW lay X)[q]? = some x) : ∃ k e, k < 128 ∧ X k = some e ∧ x = (lay k, e) := by
  obtain ⟨k, hk, h2⟩ := List.mem_filterMap.mp (List.mem_of_getElem? h)
  cases hX : X k with
  | none => rw [hX] at h2; cases h2
  | some e =>
    rw [hX] at h2
    exact ⟨k, e, List.mem_range.mp hk, hX, (Option.some.inj h2).symm⟩
theorem gP_list {D : va_G} {lay : Nat → Nat} {X : Nat → Option va_E} {H : Heap} (h : gP D lay X H) : va_P D vwCl (gW lay X) H := by
  intro q x hx
  obtain ⟨k, e, hk, hX, rfl⟩ := gW_inv hx
  exact h k e hk hX
theorem gI_list {A : Nat → Prop} {lay : Nat → Nat} {X : Nat → Option va_E} (h : gI A lay X) : va_D A (gW lay X) := by
  refine ⟨?_, fun q x hx => ?_⟩
  · have hp : (gW lay X).Pairwise (fun a b => a.1 ≠ b.1) := by
      unfold gW
      refine List.Pairwise.filterMap _ ?_ (List.Pairwise.and_mem.mp (List.pairwise_lt_range (n := 128)))
      intro a a' haa b hb b' hb' e
      obtain ⟨ha, ha', hlt⟩ := haa
      cases h1 : X a with
      | none => rw [h1] at hb; cases hb
      | some e1 =>
        cases h2 : X a' with
        | none => rw [h2] at hb'; cases hb'
        | some e2 =>
          rw [h1] at hb
          rw [h2] at hb'
          cases hb
          cases hb'
          exact absurd (h.1 a a' e1 e2 (List.mem_range.mp ha) (List.mem_range.mp ha') h1 h2 e) (Nat.ne_of_lt hlt)
    have hpw := List.pairwise_iff_getElem.mp hp
    intro i j x y hi hj hxy
    obtain ⟨hi1, hi2⟩ := List.getElem?_eq_some_iff.mp hi
    obtain ⟨hj1, hj2⟩ := List.getElem?_eq_some_iff.mp hj
    rcases Nat.lt_trichotomy i j with q | q | q
    · exact absurd (by rw [hi2, hj2]; exact hxy) (hpw i j hi1 hj1 q)
    · exact q
    · exact absurd (by rw [hi2, hj2]; exact hxy.symm) (hpw j i hj1 hi1 q)
  · obtain ⟨k, e, hk, hX, rfl⟩ := gW_inv hx
    exact h.2 k e hk hX
/-- one cell written: the rest stays -/
theorem gP_set {D : va_G} {lay : Nat → Nat} {X : Nat → Option va_E} {A : Nat → Prop} {H1 : Heap} {k q0 : Nat} {e0 e : va_E} (hI : gI A lay X) (hk : k < 128) (hX : X k = some e0) (hq : (gW lay X)[q0]? = some (lay k, e0)) (h : va_P D vwCl ((gW lay X).set q0 (lay k, e)) H1) : gP D lay (gU X k (some e)) H1 := by
  have hl := (List.getElem?_eq_some_iff.mp hq).1
  intro i f hi hf
  by_cases hik : i = k
  · subst hik
    rw [gU_eq] at hf
    cases hf
    exact h q0 _ (by rw [List.getElem?_set_self hl])
  · rw [gU_ne hik] at hf
    obtain ⟨q, hq2⟩ := gW_pos (lay := lay) hi hf
    have hne : q0 ≠ q := fun z => by
      subst z
      rw [hq] at hq2
      exact hik (hI.1 i k f e0 hi hk hf hX (congrArg Prod.fst (Option.some.inj hq2)).symm)
    exact h q _ (by rw [List.getElem?_set_ne hne]; exact hq2)
theorem gI_set {A : Nat → Prop} {lay : Nat → Nat} {X : Nat → Option va_E} {k : Nat} {e0 e : va_E} (hI : gI A lay X) (hX : X k = some e0) : gI A lay (gU X k (some e)) := by
  have key : ∀ i f, gU X k (some e) i = some f → ∃ g, X i = some g := fun i f hf => by
    by_cases hik : i = k
    · subst hik; exact ⟨e0, hX⟩
    · rw [gU_ne hik] at hf; exact ⟨f, hf⟩
  refine ⟨fun i j a b hi hj ha hb hab => ?_, fun i a hi ha => ?_⟩
  · obtain ⟨a', ha'⟩ := key i a ha
    obtain ⟨b', hb'⟩ := key j b hb
    exact hI.1 i j a' b' hi hj ha' hb' hab
  · obtain ⟨a', ha'⟩ := key i a ha
    exact hI.2 i a' hi ha'
/-- one cell made -/
theorem gP_new {D : va_G} {lay : Nat → Nat} {X : Nat → Option va_E} {H1 : Heap} {k q : Nat} {e : va_E} (hX : X k = none) (h : va_P D vwCl (gW lay X ++ [(q, e)]) H1) : gP D (gU lay k q) (gU X k (some e)) H1 := by
  intro i f hi hf
  by_cases hik : i = k
  · subst hik
    rw [gU_eq] at hf
    cases hf
    rw [gU_eq]
    exact h (gW lay X).length _ (by rw [List.getElem?_append_right (Nat.le_refl _), Nat.sub_self]; rfl)
  · rw [gU_ne hik] at hf
    rw [gU_ne hik]
    obtain ⟨q2, hq2⟩ := gW_pos (lay := lay) hi hf
    exact h q2 _ (by rw [List.getElem?_append_left (List.getElem?_eq_some_iff.mp hq2).1]; exact hq2)
theorem gI_new {A : Nat → Prop} {lay : Nat → Nat} {X : Nat → Option va_E} {k q : Nat} {e : va_E} (hI : gI A lay X) (hX : X k = none) (h : va_D A (gW lay X ++ [(q, e)])) : gI A (gU lay k q) (gU X k (some e)) := by
  have hnew : (gW lay X ++ [(q, e)])[(gW lay X).length]? = some (q, e) := by rw [List.getElem?_append_right (Nat.le_refl _), Nat.sub_self]; rfl
  have hq : ∀ i f, i < 128 → X i = some f → lay i ≠ q := fun i f hi hf z => by
    obtain ⟨q2, hq2⟩ := gW_pos (lay := lay) hi hf
    have hl := (List.getElem?_eq_some_iff.mp hq2).1
    have := h.1 q2 (gW lay X).length (lay i, f) (q, e) (by rw [List.getElem?_append_left hl]; exact hq2) hnew z
    omega
  refine ⟨fun i j a b hi hj ha hb hab => ?_, fun i a hi ha => ?_⟩
  · by_cases hik : i = k <;> by_cases hjk : j = k
    · rw [hik, hjk]
    · subst hik
      rw [gU_ne hjk] at hb hab
      rw [gU_eq] at hab
      exact absurd hab.symm (hq j b hj hb)
    · subst hjk
      rw [gU_ne hik] at ha hab
      rw [gU_eq] at hab
      exact absurd hab (hq i a hi ha)
    · rw [gU_ne hik] at ha hab
      rw [gU_ne hjk] at hb hab
      exact hI.1 i j a b hi hj ha hb hab
  · by_cases hik : i = k
    · subst hik
      rw [gU_eq]
      exact h.2 _ _ hnew
    · rw [gU_ne hik] at ha ⊢
      exact hI.2 i a hi ha
/-- the world at heap H, within a method that began at H0 -/
def gG (D : va_G) (lay : Nat → Nat) (X : Nat → Option va_E) (A : Nat → Prop) (H0 H : Heap) (locs : List Loc) : Prop := gP D lay X H ∧ gI A lay X ∧ va_S A H0 H locs
theorem gG_eq {D : va_G} {lay : Nat → Nat} {X Y : Nat → Option va_E} {A : Nat → Prop} {H0 H : Heap} {locs : List Loc} (h : ∀ k, k < 128 → X k = Y k) (G : gG D lay X A H0 H locs) : gG D lay Y A H0 H locs :=
  ⟨fun k e hk hY => G.1 k e hk (by rw [h k hk]; exact hY), ⟨fun i j a b hi hj ha hb hab => G.2.1.1 i j a b hi hj (by rw [h i hi]; exact ha) (by rw [h j hj]; exact hb) hab, fun k e hk hY => G.2.1.2 k e hk (by rw [h k hk]; exact hY)⟩, G.2.2⟩
section GROWS
variable {p : Program} {l : Launch} {e : Env} {R : Room} {s : State} {m : MethodId} {args : Array Value} {below : List Frame} {meth : Method} {c : Code} {H : Heap} {locs : List Loc} {cells slots : Nat} {Q : State → Prop}
variable {cc : ByteArray} {pc nL : Nat} {ls : Array Slot} {rest : List Value} {D : va_G} {lay : Nat → Nat} {X : Nat → Option va_E} {A : Nat → Prop} {H0 : Heap} {Ts : List Cond} {own : String} {tys : List (ClassId × FieldType)}
theorem g_get {C : String} {T : u_T} {N ci index : Nat} {ty : Nat → FieldType} (hC : CallFix p m c cc nL s args Ts own) (hK : va_K D vwCl tys s) (G : gG D lay X A H0 H locs) {k : Nat} (hk : k < 128) {fs : List Value} (he : X k = some (.inr (ci, fs))) (hcl : agCl C T N ci ty) (hin : ∀ w ∈ u_ws C T N, w ∈ Ts) (j : Nat) (hj : j < N) (hl : Cond.fieldLink own index (T j).1 (T j).2.1 (T j).2.2.1 ∈ Ts) {v : Value} (hv : fs[j]? = some v) (hdg : decode cc pc = .ok (.getfield index, 3))
    (kk : W p l e R s m args below meth c H locs cells slots Q (F0 m (pc + 3) ls (v :: rest))) : W p l e R s m args below meth c H locs cells slots Q (F0 m pc ls (.ref (lay k) :: rest)) := by
  obtain ⟨q0, hq⟩ := gW_pos (lay := lay) hk he
  exact va_get hC.1 hC.2.1 hC.2.2.2.2 hin hC.2.2.2.1 hK (gP_list G.1) q0 hq hcl.1 j hj (hC.2.2.2.2 _ hl) (fun _ h => h) hv hdg kk
/-- the same by a nest mate's private field -/
theorem g_getN {C host : String} {T : u_T} {N ci index : Nat} {ty : Nat → FieldType} (hC : CallFix p m c cc nL s args Ts own) (hK : va_K D vwCl tys s) (G : gG D lay X A H0 H locs) {k : Nat} (hk : k < 128) {fs : List Value} (he : X k = some (.inr (ci, fs))) (hcl : agCl C T N ci ty) (hin : ∀ w ∈ u_ws C T N, w ∈ Ts) (j : Nat) (hj : j < N) (hl : (Cond.fieldLinkNest own index (T j).1 (T j).2.1 (T j).2.2.1 host).before args s = true) {v : Value} (hv : fs[j]? = some v) (hdg : decode cc pc = .ok (.getfield index, 3))
    (kk : W p l e R s m args below meth c H locs cells slots Q (F0 m (pc + 3) ls (v :: rest))) : W p l e R s m args below meth c H locs cells slots Q (F0 m pc ls (.ref (lay k) :: rest)) := by
  obtain ⟨q0, hq⟩ := gW_pos (lay := lay) hk he
  exact va_getN hC.1 hC.2.1 hC.2.2.2.2 hin hC.2.2.2.1 hK (gP_list G.1) q0 hq hcl.1 j hj hl (fun _ h => h) hv hdg kk
theorem g_put {C : String} {T : u_T} {N ci index : Nat} {ty : Nat → FieldType} (hC : CallFix p m c cc nL s args Ts own) (hK : va_K D vwCl tys s) (G : gG D lay X A H0 H locs) {k : Nat} (hk : k < 128) {fs : List Value} (he : X k = some (.inr (ci, fs))) (hcl : agCl C T N ci ty) (hin : ∀ w ∈ u_ws C T N, w ∈ Ts) (j : Nat) (hj : j < N) (hl : Cond.fieldLink own index (T j).1 (T j).2.1 (T j).2.2.1 ∈ Ts) (hfin : (T j).2.2.2 = false) {v : Value} (hn : narrow (ty j) v = v) (hfit : fits (ty j) v = true) (hjl : j < fs.length) (hdg : decode cc pc = .ok (.putfield index, 3))
    (kk : ∀ (H1 : Heap) (locs1 : List Loc), gG D lay (gU X k (some (.inr (ci, fs.set j v)))) A H0 H1 locs1 → W p l e R s m args below meth c H1 locs1 cells slots Q (F0 m (pc + 3) ls rest)) : W p l e R s m args below meth c H locs cells slots Q (F0 m pc ls (v :: .ref (lay k) :: rest)) := by
  obtain ⟨q0, hq⟩ := gW_pos (lay := lay) hk he
  exact va_put hC.1 hC.2.1 hC.2.2.2.2 hin ty hcl.2.1 hcl.2.2 hC.2.2.2.1 hK (gP_list G.1) (gI_list G.2.1) G.2.2 q0 hq hcl.1 j hj (hC.2.2.2.2 _ hl) (fun _ h => h) hfin (hcl.2.1 j hj) hn hfit hjl hdg (fun H1 locs1 hP hD hS => kk H1 locs1 ⟨gP_set G.2.1 hk he hq hP, gI_set G.2.1 he, hS⟩)
theorem g_putN {C host : String} {T : u_T} {N ci index : Nat} {ty : Nat → FieldType} (hC : CallFix p m c cc nL s args Ts own) (hK : va_K D vwCl tys s) (G : gG D lay X A H0 H locs) {k : Nat} (hk : k < 128) {fs : List Value} (he : X k = some (.inr (ci, fs))) (hcl : agCl C T N ci ty) (hin : ∀ w ∈ u_ws C T N, w ∈ Ts) (j : Nat) (hj : j < N) (hl : (Cond.fieldLinkNest own index (T j).1 (T j).2.1 (T j).2.2.1 host).before args s = true) (hfin : (T j).2.2.2 = false) {v : Value} (hn : narrow (ty j) v = v) (hfit : fits (ty j) v = true) (hjl : j < fs.length) (hdg : decode cc pc = .ok (.putfield index, 3))
    (kk : ∀ (H1 : Heap) (locs1 : List Loc), gG D lay (gU X k (some (.inr (ci, fs.set j v)))) A H0 H1 locs1 → W p l e R s m args below meth c H1 locs1 cells slots Q (F0 m (pc + 3) ls rest)) : W p l e R s m args below meth c H locs cells slots Q (F0 m pc ls (v :: .ref (lay k) :: rest)) := by
  obtain ⟨q0, hq⟩ := gW_pos (lay := lay) hk he
  exact va_putN hC.1 hC.2.1 hC.2.2.2.2 hin ty hcl.2.1 hcl.2.2 hC.2.2.2.1 hK (gP_list G.1) (gI_list G.2.1) G.2.2 q0 hq hcl.1 j hj hl (fun _ h => h) hfin (hcl.2.1 j hj) hn hfit hjl hdg (fun H1 locs1 hP hD hS => kk H1 locs1 ⟨gP_set G.2.1 hk he hq hP, gI_set G.2.1 he, hS⟩)
theorem g_putF {C : String} {T : u_T} {N ci index : Nat} {ty : Nat → FieldType} (hC : CallFix p m c cc nL s args Ts own) (hK : va_K D vwCl tys s) (G : gG D lay X A H0 H locs) {k : Nat} (hk : k < 128) {fs : List Value} (he : X k = some (.inr (ci, fs))) (hcl : agCl C T N ci ty) (hin : ∀ w ∈ u_ws C T N, w ∈ Ts) (j : Nat) (hj : j < N) (hl : Cond.fieldLink own index (T j).1 (T j).2.1 (T j).2.2.1 ∈ Ts) (hfin : (T j).2.2.2 = true) (hin2 : meth.name = "<init>") (hdecl : (T j).1 = own) {v : Value} (hn : narrow (ty j) v = v) (hfit : fits (ty j) v = true) (hjl : j < fs.length) (hdg : decode cc pc = .ok (.putfield index, 3))
    (kk : ∀ (H1 : Heap) (locs1 : List Loc), gG D lay (gU X k (some (.inr (ci, fs.set j v)))) A H0 H1 locs1 → W p l e R s m args below meth c H1 locs1 cells slots Q (F0 m (pc + 3) ls rest)) : W p l e R s m args below meth c H locs cells slots Q (F0 m pc ls (v :: .ref (lay k) :: rest)) := by
  obtain ⟨q0, hq⟩ := gW_pos (lay := lay) hk he
  exact va_putF hC.1 hC.2.1 hC.2.2.2.2 hin ty hcl.2.1 hcl.2.2 hC.2.2.2.1 hK (gP_list G.1) (gI_list G.2.1) G.2.2 q0 hq hcl.1 j hj (hC.2.2.2.2 _ hl) (fun _ h => h) hfin hin2 hdecl (hcl.2.1 j hj) hn hfit hjl hdg (fun H1 locs1 hP hD hS => kk H1 locs1 ⟨gP_set G.2.1 hk he hq hP, gI_set G.2.1 he, hS⟩)
theorem g_iald (hC : CallFix p m c cc nL s args Ts own) (hK : va_K D vwCl tys s) (G : gG D lay X A H0 H locs) (t0 : Nat) {k : Nat} (hk : k < 128) {cA : ClassId} {n : Nat} {f : Nat → Int32} (he : X k = some (.inl (cA, n, .inl f))) (ht : tys[t0]? = some (cA, .int)) {i : Int32} (hin : vp_in i n) (hdg : decode cc pc = .ok (.iaload, 1))
    (kk : W p l e R s m args below meth c H locs cells slots Q (F0 m (pc + 1) ls (.int (f i.toNatClampNeg) :: rest))) : W p l e R s m args below meth c H locs cells slots Q (F0 m pc ls (.int i :: .ref (lay k) :: rest)) := by
  obtain ⟨q0, hq⟩ := gW_pos (lay := lay) hk he
  exact va_iald hC.1 hC.2.1 hK (gP_list G.1) q0 t0 hq ht hin hdg kk
theorem g_zald (hC : CallFix p m c cc nL s args Ts own) (hK : va_K D vwCl tys s) (G : gG D lay X A H0 H locs) (t0 : Nat) {k : Nat} (hk : k < 128) {cA : ClassId} {n : Nat} {f : Nat → Int32} (he : X k = some (.inl (cA, n, .inl f))) (ht : tys[t0]? = some (cA, .boolean)) {i : Int32} (hin : vp_in i n) (hdg : decode cc pc = .ok (.baload, 1))
    (kk : W p l e R s m args below meth c H locs cells slots Q (F0 m (pc + 1) ls (.int (f i.toNatClampNeg) :: rest))) : W p l e R s m args below meth c H locs cells slots Q (F0 m pc ls (.int i :: .ref (lay k) :: rest)) := by
  obtain ⟨q0, hq⟩ := gW_pos (lay := lay) hk he
  exact va_zald hC.1 hC.2.1 hK (gP_list G.1) q0 t0 hq ht hin hdg kk
theorem g_iast (hC : CallFix p m c cc nL s args Ts own) (hK : va_K D vwCl tys s) (G : gG D lay X A H0 H locs) (t0 : Nat) {k : Nat} (hk : k < 128) {cA : ClassId} {n : Nat} {f : Nat → Int32} (he : X k = some (.inl (cA, n, .inl f))) (ht : tys[t0]? = some (cA, .int)) {i x : Int32} (hin : vp_in i n) (hdg : decode cc pc = .ok (.iastore, 1))
    (kk : ∀ (H1 : Heap) (locs1 : List Loc), gG D lay (gU X k (some (.inl (cA, n, .inl (upd f i.toNatClampNeg x))))) A H0 H1 locs1 → W p l e R s m args below meth c H1 locs1 cells slots Q (F0 m (pc + 1) ls rest)) : W p l e R s m args below meth c H locs cells slots Q (F0 m pc ls (.int x :: .int i :: .ref (lay k) :: rest)) := by
  obtain ⟨q0, hq⟩ := gW_pos (lay := lay) hk he
  exact va_iast hC.1 hC.2.1 hK (gP_list G.1) (gI_list G.2.1) G.2.2 q0 t0 hq ht hin hdg (fun H1 locs1 hP hD hS => kk H1 locs1 ⟨gP_set G.2.1 hk he hq hP, gI_set G.2.1 he, hS⟩)
theorem g_zast (hC : CallFix p m c cc nL s args Ts own) (hK : va_K D vwCl tys s) (G : gG D lay X A H0 H locs) (t0 : Nat) {k : Nat} (hk : k < 128) {cA : ClassId} {n : Nat} {f : Nat → Int32} (he : X k = some (.inl (cA, n, .inl f))) (ht : tys[t0]? = some (cA, .boolean)) {i x : Int32} (hin : vp_in i n) (hdg : decode cc pc = .ok (.bastore, 1))
    (kk : ∀ (H1 : Heap) (locs1 : List Loc), gG D lay (gU X k (some (.inl (cA, n, .inl (upd f i.toNatClampNeg (vp_nar .boolean x)))))) A H0 H1 locs1 → W p l e R s m args below meth c H1 locs1 cells slots Q (F0 m (pc + 1) ls rest)) : W p l e R s m args below meth c H locs cells slots Q (F0 m pc ls (.int x :: .int i :: .ref (lay k) :: rest)) := by
  obtain ⟨q0, hq⟩ := gW_pos (lay := lay) hk he
  exact va_zast hC.1 hC.2.1 hK (gP_list G.1) (gI_list G.2.1) G.2.2 q0 t0 hq ht hin hdg (fun H1 locs1 hP hD hS => kk H1 locs1 ⟨gP_set G.2.1 hk he hq hP, gI_set G.2.1 he, hS⟩)
theorem g_new {C : String} {T : u_T} {N ci index : Nat} {ty : Nat → FieldType} (hC : CallFix p m c cc nL s args Ts own) (hK : va_K D vwCl tys s) (G : gG D lay X A H0 H locs) (hA : ∀ q, H0.size ≤ q → A q) {k : Nat} (hX : X k = none) (hcl : agCl C T N ci ty) (hin : ∀ w ∈ u_ws C T N, w ∈ Ts) (hlk : Cond.classLink own index C ∈ Ts) (hins : Cond.instantiable C N ∈ Ts) (hini : Cond.initialized C ∈ Ts) {fs : List Value} (hfs : ∀ j, j < N → defaultValue (ty j) = vp_V fs j) (hcells : cells + 1 ≤ R.cells) (hslots : slots + N ≤ R.slots) (hdg : decode cc pc = .ok (.new index, 3))
    (kk : ∀ (q : Nat) (H1 : Heap), gG D (gU lay k q) (gU X k (some (.inr (ci, fs)))) A H0 H1 locs → W p l e R s m args below meth c H1 locs (cells + 1) (slots + N) Q (F0 m (pc + 3) ls (.ref (gU lay k q k) :: rest))) : W p l e R s m args below meth c H locs cells slots Q (F0 m pc ls rest) :=
  va_new hC.1 hC.2.1 hC.2.2.2.2 hin ty hcl.2.1 hC.2.2.2.1 (hC.2.2.2.2 _ hlk) (hC.2.2.2.2 _ hins) (hC.2.2.2.2 _ hini) hK (gP_list G.1) (gI_list G.2.1) G.2.2 hA hcl.1 hfs hcells hslots hdg (fun q H1 hP hD hS => by
    have h := kk q H1 ⟨gP_new hX hP, gI_new G.2.1 hX hD, hS⟩
    rw [gU_eq] at h
    exact h)
end GROWS
