/-! THE REFERENCE: what a method makes for itself, in cells 64 on -/
def Lsm (lay lay' : Nat → Nat) : Prop := ∀ j, j < 64 → lay' j = lay j
theorem rX_lay {cy : Nat → ClassId} {lay lay' : Nat → Nat} {Γ : RG} {tm tm' : Nat → Option (Nat × Nat)} {σ : MS} (hB : rB Γ) (h : Lsm lay lay') {k : Nat} (hk : k < 64) : rX cy lay' Γ tm' σ k = rX cy lay Γ tm σ k := by
  have e1 : (fun i => if i < Γ.1 then some (lay' (13 + i)) else none) = (fun i => if i < Γ.1 then some (lay (13 + i)) else none) := funext fun i => by
    by_cases c : i < Γ.1
    · rw [if_pos c, if_pos c, h _ (by have := hB.1; omega)]
    · rw [if_neg c, if_neg c]
  have e2 : (fun i => if i < Γ.2.2.1 then some (lay' (33 + i)) else none) = (fun i => if i < Γ.2.2.1 then some (lay (33 + i)) else none) := funext fun i => by
    by_cases c : i < Γ.2.2.1
    · rw [if_pos c, if_pos c, h _ (by have := hB.2.2; omega)]
    · rw [if_neg c, if_neg c]
  unfold rX rL
  by_cases c0 : k = 0
  · rw [if_pos c0, if_pos c0]
    unfold Lmo
    rw [h 1 (by decide), h 2 (by decide), h 3 (by decide), h 7 (by decide), h 8 (by decide), h 9 (by decide), h 10 (by decide), h 11 (by decide), h 12 (by decide)]
  rw [if_neg c0, if_neg c0, h 4 (by decide), h 5 (by decide), h 6 (by decide), e1, e2]
  by_cases c1 : k = 1
  · simp [c1]
  by_cases c2 : k = 2
  · simp [c2]
  by_cases c3 : k = 3
  · simp [c3]
  by_cases c4 : k = 4
  · simp [c4]
  by_cases c5 : k = 5
  · simp [c5]
  by_cases c6 : k = 6
  · simp [c6]
  by_cases c7 : k < 11
  · simp [c0, c1, c2, c3, c4, c5, c6, c7]
  by_cases c8 : k < 13
  · simp [c0, c1, c2, c3, c4, c5, c6, c7, c8]
  by_cases c9 : k < 23
  · have e3 : lay' (23 + (k - 13)) = lay (23 + (k - 13)) := h _ (by omega)
    simp [c0, c1, c2, c3, c4, c5, c6, c7, c8, c9, Lrp, e3]
  by_cases c10 : k < 33
  · simp [c0, c1, c2, c3, c4, c5, c6, c7, c8, c9, c10]
  by_cases c11 : k < 47
  · simp [c0, c1, c2, c3, c4, c5, c6, c7, c8, c9, c10, c11]
  simp [c0, c1, c2, c3, c4, c5, c6, c7, c8, c9, c10, c11, hk]
theorem rA_lay {cy : Nat → ClassId} {lay lay' : Nat → Nat} {Γ : RG} (h : Lsm lay lay') (n : Nat) : rA cy lay' Γ n = rA cy lay Γ n := by
  funext q
  apply propext
  unfold rA
  constructor
  · rintro (⟨k, hk, hs, rfl⟩ | z)
    · exact Or.inl ⟨k, hk, by rw [r_some (lay' := lay') (tm' := tn) (σ' := fun _ _ => 0) hk]; exact hs, h k hk⟩
    · exact Or.inr z
  · rintro (⟨k, hk, hs, rfl⟩ | z)
    · exact Or.inl ⟨k, hk, by rw [r_some (lay' := lay) (tm' := tn) (σ' := fun _ _ => 0) hk]; exact hs, (h k hk).symm⟩
    · exact Or.inr z
theorem rX_tn {cy : Nat → ClassId} {lay : Nat → Nat} {Γ : RG} {σ : MS} {k : Nat} {e : va_E} (h : rX cy lay Γ tn σ k = some e) : k < 64 := by
  by_cases h64 : k < 64
  · exact h64
  · rw [r_tm (by omega)] at h
    exact absurd h (by unfold tn; simp)
theorem gP_lay {D : va_G} {cy : Nat → ClassId} {lay lay' : Nat → Nat} {Γ : RG} {σ : MS} {H : Heap} (hB : rB Γ) (h : Lsm lay lay') (hP : gP D lay (rX cy lay Γ tn σ) H) : gP D lay' (rX cy lay' Γ tn σ) H := fun k e hk hX => by
  have h64 := rX_tn hX
  rw [h k h64]
  rw [rX_lay (tm := tn) hB h h64] at hX
  exact hP k e hk hX
theorem gI_lay {A : Nat → Prop} {cy : Nat → ClassId} {lay lay' : Nat → Nat} {Γ : RG} {σ : MS} (hB : rB Γ) (h : Lsm lay lay') (hI : gI A lay (rX cy lay Γ tn σ)) : gI A lay' (rX cy lay' Γ tn σ) := by
  refine ⟨fun i j e f hi hj hX hY hq => ?_, fun k e hk hX => ?_⟩
  · have h1 := rX_tn hX
    have h2 := rX_tn hY
    rw [rX_lay (tm := tn) hB h h1] at hX
    rw [rX_lay (tm := tn) hB h h2] at hY
    rw [h i h1, h j h2] at hq
    exact hI.1 i j e f hi hj hX hY hq
  · have h1 := rX_tn hX
    rw [rX_lay (tm := tn) hB h h1] at hX
    rw [h k h1]
    exact hI.2 k e hk hX
theorem Lsm.sy {lay lay' : Nat → Nat} (h : Lsm lay lay') : Lsm lay' lay := fun j hj => (h j hj).symm
theorem rO_lay {D : va_G} {cy : Nat → ClassId} {lay lay' : Nat → Nat} {Γ : RG} (hB : rB Γ) (h : Lsm lay lay') : rO D cy lay' Γ = rO D cy lay Γ := by
  funext σ t
  apply propext
  exact ⟨fun z => ⟨gP_lay hB h.sy z.1, gI_lay hB h.sy z.2⟩, fun z => ⟨gP_lay hB h z.1, gI_lay hB h z.2⟩⟩
theorem rT_lay {D : va_G} {cy : Nat → ClassId} {lay lay' : Nat → Nat} {Γ : RG} {s : State} (h : Lsm lay lay') (hT : rT D cy lay Γ s) : rT D cy lay' Γ s := by
  refine ⟨hT.1, hT.2.1, ?_, hT.2.2.2⟩
  rw [rA_lay h]
  exact hT.2.2.1
theorem r_ti {cy : Nat → ClassId} {lay : Nat → Nat} {Γ : RG} {tm : Nat → Option (Nat × Nat)} {σ : MS} {k n : Nat} (hk : 64 ≤ k) (h : tm k = some (0, n)) : rX cy lay Γ tm σ k = some (.inl (cy 0, n, .inl (σ k))) := by
  rw [r_tm hk, h]
  rfl
theorem r_tz {cy : Nat → ClassId} {lay : Nat → Nat} {Γ : RG} {tm : Nat → Option (Nat × Nat)} {σ : MS} {k n : Nat} (hk : 64 ≤ k) (h : tm k = some (1, n)) : rX cy lay Γ tm σ k = some (.inl (cy 1, n, .inl (σ k))) := by
  rw [r_tm hk, h]
  rfl
/-- a row of the state, laid anew -/
def rw0 (σ : MS) (k : Nat) (f : Nat → Int32) : MS := fun i => if i = k then f else σ i
theorem rw0_eq {σ : MS} {k : Nat} {f : Nat → Int32} : rw0 σ k f k = f := if_pos rfl
theorem rw0_ne {σ : MS} {k i : Nat} {f : Nat → Int32} (h : i ≠ k) : rw0 σ k f i = σ i := if_neg h
/-- a callee's numbers below 64, one's own above -/
def mrg (σ' σ : MS) : MS := fun k => if k < 64 then σ' k else σ k
theorem mrg_lo {σ' σ : MS} {k : Nat} (h : k < 64) : mrg σ' σ k = σ' k := if_pos h
theorem mrg_hi {σ' σ : MS} {k : Nat} (h : 64 ≤ k) : mrg σ' σ k = σ k := if_neg (by omega)
section RTEMP
variable {p : Program} {l : Launch} {e : Env} {R : Room} {s : State} {m : MethodId} {args : Array Value} {below : List Frame} {meth : Method} {c : Code} {H : Heap} {locs : List Loc} {cells slots : Nat} {Q : State → Prop}
variable {cc bytes : ByteArray} {pc nL maxL mc ms n index : Nat} {ls : Array Slot} {ST rest As : List Value} {D : va_G} {cy : Nat → ClassId} {lay : Nat → Nat} {Γ : RG} {tm : Nat → Option (Nat × Nat)} {σ : MS} {Ts ws : List Cond} {own Cn host : String} {y : MethodName} {ret : Option FieldType} {rm : Room} {b : Addr}
variable {Qc : Array Value → State → Outcome → State → Prop} {free : Addr → Prop}
theorem rTm_lay {lay' : Nat → Nat} {t : Nat × Nat} {f : Nat → Int32} (ht : t.1 < 2 ∨ t.2 < 64) (h : Lsm lay lay') : rTm cy lay f t = rTm cy lay' f t := by
  unfold rTm
  split
  · rfl
  · split
    · rfl
    · rw [h t.2 (by omega)]
/-- the world with a new row in cell k -/
theorem rX_new {lay' : Nat → Nat} {k : Nat} {t : Nat × Nat} {f : Nat → Int32} (hB : rB Γ) (hk : 64 ≤ k) (ht : t.1 < 2 ∨ t.2 < 64) (hl : ∀ j, j ≠ k → lay' j = lay j) (ho : ∀ j, 64 ≤ j → ∀ x, tm j = some x → x.1 < 2 ∨ x.2 < 64) : ∀ j, gU (rX cy lay Γ tm σ) k (some (rTm cy lay f t)) j = rX cy lay' Γ (gU tm k (some t)) (rw0 σ k f) j := fun j => by
  by_cases h : j = k
  · subst h
    rw [gU_eq, r_tm hk, gU_eq, rw0_eq]
    exact congrArg some (rTm_lay ht (fun i hi => hl i (by omega)))
  · rw [gU_ne h]
    by_cases h64 : j < 64
    · rw [rX_lay (tm := tm) hB (fun i hi => hl i (by omega)) h64]
      exact (r_loc (rw0_ne h)).symm
    · rw [r_tm (by omega), r_tm (by omega), gU_ne h, rw0_ne h]
      cases hx : tm j with
      | none => rfl
      | some x =>
        exact congrArg some (rTm_lay (ho j (by omega) x hx) (fun i hi => hl i (by omega)))
/-- every row is of ints or booleans -/
def tmO (tm : Nat → Option (Nat × Nat)) : Prop := ∀ j, 64 ≤ j → ∀ x, tm j = some x → x.1 < 2 ∨ x.2 < 64
theorem tmO_n : tmO tn := fun j _ x hx => by cases hx
theorem tmO_u {k : Nat} {t : Nat × Nat} (h : tmO tm) (ht : t.1 < 2 ∨ t.2 < 64) : tmO (gU tm k (some t)) := fun j hj x hx => by
  by_cases e : j = k
  · subst e
    rw [gU_eq] at hx
    cases hx
    exact ht
  · rw [gU_ne e] at hx
    exact h j hj x hx
/-- what a method's end says, whichever of two layouts it is told in -/
def QL (Q : (Nat → Nat) → State → Prop) : Prop := ∀ lay lay', Lsm lay lay' → Q lay' = Q lay
theorem rg_newi {Q : (Nat → Nat) → State → Prop} (hQ : QL Q) (hC : CallFix p m c cc nL s args Ts own) (hT : rT D cy lay Γ s) (G : rG D cy lay Γ tm σ (rA cy lay Γ s.heap.size) s.heap H locs) (hO : tmO tm) {k : Nat} (hk : 64 ≤ k) (hk2 : k < 128) (hX : tm k = none) (harr : Cond.arrayClass .int ∈ Ts) {v : Int32} {N : Nat} (hn : ¬ v < 0) (hN : v.toNatClampNeg = N) (hb : N ≤ 1000) (hcells : cells + 1 ≤ R.cells) (hslots : slots + N ≤ R.slots) (hdg : decode cc pc = .ok (.newarray .int, 2))
    (kk : ∀ (lay' : Nat → Nat), (∀ j, j ≠ k → lay' j = lay j) → rT D cy lay' Γ s → ∀ (H1 : Heap), rG D cy lay' Γ (gU tm k (some (0, N))) (rw0 σ k (fun _ => 0)) (rA cy lay' Γ s.heap.size) s.heap H1 locs → W p l e R s m args below meth c H1 locs (cells + 1) (slots + N) (Q lay') (F0 m (pc + 2) ls (.ref (lay' k) :: rest))) : W p l e R s m args below meth c H locs cells slots (Q lay) (F0 m pc ls (.int v :: rest)) := by
  have hX0 : rX cy lay Γ tm σ k = none := by rw [r_tm hk, hX]; rfl
  refine va_newa (atype := .int) (ty := .int) hC.1 hC.2.1 (hC.2.2.2.2 _ harr) rfl hT.1 (gP_list G.1) (gI_list G.2.1) G.2.2 (fun q hq => Or.inr hq) (a0 := (N, .inl (fun _ => 0))) (fun _ => rfl) hn hN (by show N * componentBytes .int ≤ 536870912; have : componentBytes .int ≤ 8 := (by decide); exact Nat.le_trans (Nat.mul_le_mul hb this) (by decide)) hcells hslots hdg (fun q cA H1 hK' hP hD hS => ?_)
  have h1 := (hK'.2 (fdT cy).length (cA, .int) (by rw [List.getElem?_append_right (Nat.le_refl _), Nat.sub_self]; rfl)).2
  have h2 := (hT.1.2 0 (cy 0, .int) rfl).2
  have hc : cA = cy 0 := Option.some.inj (Eq.trans (Eq.symm h1) h2)
  subst hc
  have hl : ∀ j, j ≠ k → gU lay k q j = lay j := fun j hj => gU_ne hj
  have hL : Lsm lay (gU lay k q) := fun j hj => hl j (by omega)
  have hG : gG D (gU lay k q) (gU (rX cy lay Γ tm σ) k (some (.inl (cy 0, N, .inl (fun _ => 0))))) (rA cy lay Γ s.heap.size) s.heap H1 locs := ⟨gP_new hX0 hP, gI_new G.2.1 hX0 hD, hS⟩
  have h := kk (gU lay k q) hl (rT_lay hL hT) H1 (by
    rw [rA_lay hL]
    exact gG_eq (fun j _ => rX_new (t := (0, N)) (f := fun _ => 0) hT.2.2.2 hk (Or.inl (Nat.le_of_ble_eq_true rfl)) hl hO j) hG)
  rw [hQ lay _ hL, gU_eq] at h
  exact h
theorem rg_newz {Q : (Nat → Nat) → State → Prop} (hQ : QL Q) (hC : CallFix p m c cc nL s args Ts own) (hT : rT D cy lay Γ s) (G : rG D cy lay Γ tm σ (rA cy lay Γ s.heap.size) s.heap H locs) (hO : tmO tm) {k : Nat} (hk : 64 ≤ k) (hk2 : k < 128) (hX : tm k = none) (harr : Cond.arrayClass .boolean ∈ Ts) {v : Int32} {N : Nat} (hn : ¬ v < 0) (hN : v.toNatClampNeg = N) (hb : N ≤ 1000) (hcells : cells + 1 ≤ R.cells) (hslots : slots + N ≤ R.slots) (hdg : decode cc pc = .ok (.newarray .boolean, 2))
    (kk : ∀ (lay' : Nat → Nat), (∀ j, j ≠ k → lay' j = lay j) → rT D cy lay' Γ s → ∀ (H1 : Heap), rG D cy lay' Γ (gU tm k (some (1, N))) (rw0 σ k (fun _ => 0)) (rA cy lay' Γ s.heap.size) s.heap H1 locs → W p l e R s m args below meth c H1 locs (cells + 1) (slots + N) (Q lay') (F0 m (pc + 2) ls (.ref (lay' k) :: rest))) : W p l e R s m args below meth c H locs cells slots (Q lay) (F0 m pc ls (.int v :: rest)) := by
  have hX0 : rX cy lay Γ tm σ k = none := by rw [r_tm hk, hX]; rfl
  refine va_newa (atype := .boolean) (ty := .boolean) hC.1 hC.2.1 (hC.2.2.2.2 _ harr) rfl hT.1 (gP_list G.1) (gI_list G.2.1) G.2.2 (fun q hq => Or.inr hq) (a0 := (N, .inl (fun _ => 0))) (fun _ => rfl) hn hN (by show N * componentBytes .boolean ≤ 536870912; have : componentBytes .boolean ≤ 8 := (by decide); exact Nat.le_trans (Nat.mul_le_mul hb this) (by decide)) hcells hslots hdg (fun q cA H1 hK' hP hD hS => ?_)
  have h1 := (hK'.2 (fdT cy).length (cA, .boolean) (by rw [List.getElem?_append_right (Nat.le_refl _), Nat.sub_self]; rfl)).2
  have h2 := (hT.1.2 1 (cy 1, .boolean) rfl).2
  have hc : cA = cy 1 := Option.some.inj (Eq.trans (Eq.symm h1) h2)
  subst hc
  have hl : ∀ j, j ≠ k → gU lay k q j = lay j := fun j hj => gU_ne hj
  have hL : Lsm lay (gU lay k q) := fun j hj => hl j (by omega)
  have hG : gG D (gU lay k q) (gU (rX cy lay Γ tm σ) k (some (.inl (cy 1, N, .inl (fun _ => 0))))) (rA cy lay Γ s.heap.size) s.heap H1 locs := ⟨gP_new hX0 hP, gI_new G.2.1 hX0 hD, hS⟩
  have h := kk (gU lay k q) hl (rT_lay hL hT) H1 (by
    rw [rA_lay hL]
    exact gG_eq (fun j _ => rX_new (t := (1, N)) (f := fun _ => 0) hT.2.2.2 hk (Or.inl (Nat.le_of_ble_eq_true rfl)) hl hO j) hG)
  rw [hQ lay _ hL, gU_eq] at h
  exact h
theorem rg_alen (hC : CallFix p m c cc nL s args Ts own) (hT : rT D cy lay Γ s) (G : rG D cy lay Γ tm σ (rA cy lay Γ s.heap.size) s.heap H locs) {k : Nat} (hk : k < 128) {n : Nat} (he : rX cy lay Γ tm σ k = some (.inl (cy 0, n, .inl (σ k)))) (hdg : decode cc pc = .ok (.arraylength, 1))
    (kk : W p l e R s m args below meth c H locs cells slots Q (F0 m (pc + 1) ls (.int (nI n) :: rest))) : W p l e R s m args below meth c H locs cells slots Q (F0 m pc ls (.ref (lay k) :: rest)) := by
  obtain ⟨q0, hq⟩ := gW_pos (lay := lay) hk he
  exact va_alen hC.1 hC.2.1 hT.1 (gP_list G.1) q0 0 hq rfl rfl hdg kk
theorem rg_alenz (hC : CallFix p m c cc nL s args Ts own) (hT : rT D cy lay Γ s) (G : rG D cy lay Γ tm σ (rA cy lay Γ s.heap.size) s.heap H locs) {k : Nat} (hk : k < 128) {n : Nat} (he : rX cy lay Γ tm σ k = some (.inl (cy 1, n, .inl (σ k)))) (hdg : decode cc pc = .ok (.arraylength, 1))
    (kk : W p l e R s m args below meth c H locs cells slots Q (F0 m (pc + 1) ls (.int (nI n) :: rest))) : W p l e R s m args below meth c H locs cells slots Q (F0 m pc ls (.ref (lay k) :: rest)) := by
  obtain ⟨q0, hq⟩ := gW_pos (lay := lay) hk he
  exact va_alen hC.1 hC.2.1 hT.1 (gP_list G.1) q0 1 hq rfl rfl hdg kk
/-- without what the method made for itself -/
theorem rG_drop (G : rG D cy lay Γ tm σ (rA cy lay Γ s.heap.size) s.heap H locs) (hB : rB Γ) : rG D cy lay Γ tn σ (rA cy lay Γ s.heap.size) s.heap H locs := by
  have e : ∀ k e, rX cy lay Γ tn σ k = some e → rX cy lay Γ tm σ k = some e := fun k e h => by
    rw [rX_lay (tm := tn) hB (fun _ _ => rfl) (rX_tn h)]
    exact h
  exact ⟨fun k x hk hX => G.1 k x hk (e k x hX), ⟨fun i j x y hi hj hX hY hq => G.2.1.1 i j x y hi hj (e i x hX) (e j y hY) hq, fun k x hk hX => G.2.1.2 k x hk (e k x hX)⟩, G.2.2⟩
/-- a callee's world put back beside what the method made for itself -/
theorem rG_mrg {σ' : MS} {t : State} {H1 : Heap} {locs1 : List Loc} (hT : rT D cy lay Γ s) (G : rG D cy lay Γ tm σ (rA cy lay Γ s.heap.size) s.heap H locs) (hB : rO D cy lay Γ σ' t) (ht : t.heap = H1) (hk : ∀ q : Nat, q < H.size → ¬ rA cy lay Γ H.size q → H1[q]? = H[q]?) (hS : va_S (rA cy lay Γ s.heap.size) s.heap H1 locs1) : rG D cy lay Γ tm (mrg σ' σ) (rA cy lay Γ s.heap.size) s.heap H1 locs1 := by
  have lo : ∀ k, k < 64 → rX cy lay Γ tm (mrg σ' σ) k = rX cy lay Γ tn σ' k := fun k h => by
    rw [r_loc (mrg_lo h), rX_lay (tm := tn) hT.2.2.2 (fun _ _ => rfl) h]
  have hi : ∀ k, 64 ≤ k → rX cy lay Γ tm (mrg σ' σ) k = rX cy lay Γ tm σ k := fun k h => r_loc (mrg_hi h)
  have some64 : ∀ k x, k < 64 → rX cy lay Γ tm (mrg σ' σ) k = some x → ∃ y, rX cy lay Γ tm σ k = some y := fun k x h hx => by
    have h2 := r_some (cy := cy) (lay := lay) (lay' := lay) (Γ := Γ) (tm := tm) (tm' := tm) (σ := mrg σ' σ) (σ' := σ) h
    rw [hx] at h2
    cases q : rX cy lay Γ tm σ k with
    | none => rw [q] at h2; cases h2
    | some y => exact ⟨y, rfl⟩
  have some' : ∀ k x, rX cy lay Γ tm (mrg σ' σ) k = some x → ∃ y, rX cy lay Γ tm σ k = some y := fun k x hx => by
    by_cases h : k < 64
    · exact some64 k x h hx
    · rw [hi k (by omega)] at hx
      exact ⟨x, hx⟩
  refine ⟨fun k x hk2 hX => ?_, ⟨fun i j x y hi2 hj2 hX hY hq => ?_, fun k x hk2 hX => ?_⟩, hS⟩
  · by_cases h : k < 64
    · rw [lo k h] at hX
      rw [← ht]
      exact hB.1 k x hk2 hX
    · rw [hi k (by omega)] at hX
      have hat := G.1 k x hk2 hX
      refine hat.kept (hk _ hat.lt fun z => ?_)
      rcases z with ⟨j, hj, hs, hq⟩ | z
      · have h2 := r_some (cy := cy) (lay := lay) (lay' := lay) (Γ := Γ) (tm := tn) (tm' := tm) (σ := fun _ _ => 0) (σ' := σ) hj
        rw [hs] at h2
        cases q : rX cy lay Γ tm σ j with
        | none => rw [q] at h2; cases h2
        | some y =>
          have := G.2.1.1 k j x y hk2 (by omega) hX q hq
          omega
      · exact absurd z (Nat.not_le.mpr hat.lt)
  · obtain ⟨x', hx'⟩ := some' i x hX
    obtain ⟨y', hy'⟩ := some' j y hY
    exact G.2.1.1 i j x' y' hi2 hj2 hx' hy' hq
  · obtain ⟨x', hx'⟩ := some' k x hX
    exact G.2.1.2 k x' hk2 hx'
theorem rg_iM {post : Int32 → MS → Prop} {a : Array Value} (hT : rT D cy lay Γ s) (G : rG D cy lay Γ tm σ (rA cy lay Γ s.heap.size) s.heap H locs) (hr : va_Run p l e R s m args below meth c H locs cells slots mc ms (F0 m pc ls ST) rest (va_Qi post (rO D cy lay Γ) (rA cy lay Γ H.size) a) (rA cy lay Γ H.size))
    (kk : ∀ (r : Int32) (σ' : MS) (H1 : Heap) (locs1 : List Loc), post r σ' → rG D cy lay Γ tm (mrg σ' σ) (rA cy lay Γ s.heap.size) s.heap H1 locs1 → W p l e R s m args below meth c H1 locs1 (cells + mc) (slots + ms) Q (F0 m (pc + 3) ls (.int r :: rest))) : W p l e R s m args below meth c H locs cells slots Q (F0 m pc ls ST) :=
  va_calli hr G.2.2 (fun q _ h => rA_le G.2.2.1 q h) (rA_le G.2.2.1) (fun r u t H1 locs1 ht hvm hw hB hz hk hS => kk r u H1 locs1 hw (rG_mrg hT G hB ht hk hS))
theorem rg_vM {post : MS → Prop} {a : Array Value} (hT : rT D cy lay Γ s) (G : rG D cy lay Γ tm σ (rA cy lay Γ s.heap.size) s.heap H locs) (hr : va_Run p l e R s m args below meth c H locs cells slots mc ms (F0 m pc ls ST) rest (va_Qv post (rO D cy lay Γ) (rA cy lay Γ H.size) a) (rA cy lay Γ H.size))
    (kk : ∀ (σ' : MS) (H1 : Heap) (locs1 : List Loc), post σ' → rG D cy lay Γ tm (mrg σ' σ) (rA cy lay Γ s.heap.size) s.heap H1 locs1 → W p l e R s m args below meth c H1 locs1 (cells + mc) (slots + ms) Q (F0 m (pc + 3) ls rest)) : W p l e R s m args below meth c H locs cells slots Q (F0 m pc ls ST) :=
  va_callv hr G.2.2 (fun q _ h => rA_le G.2.2.1 q h) (rA_le G.2.2.1) (fun u t H1 locs1 ht hvm hw hB hz hk hS => kk u H1 locs1 hw (rG_mrg hT G hB ht hk hS))
theorem rg_rM {post : Nat → MS → Prop} {f : Nat → Nat} {a : Array Value} (hT : rT D cy lay Γ s) (G : rG D cy lay Γ tm σ (rA cy lay Γ s.heap.size) s.heap H locs) (hr : va_Run p l e R s m args below meth c H locs cells slots mc ms (F0 m pc ls ST) rest (rQ post f D cy lay Γ (rA cy lay Γ H.size) a) (rA cy lay Γ H.size))
    (kk : ∀ (i : Nat) (σ' : MS) (H1 : Heap) (locs1 : List Loc), post i σ' → rG D cy lay Γ tm (mrg σ' σ) (rA cy lay Γ s.heap.size) s.heap H1 locs1 → W p l e R s m args below meth c H1 locs1 (cells + mc) (slots + ms) Q (F0 m (pc + 3) ls (.ref (f i) :: rest))) : W p l e R s m args below meth c H locs cells slots Q (F0 m pc ls ST) :=
  va_callr hr G.2.2 (fun q _ h => rA_le G.2.2.1 q h) (rA_le G.2.2.1) (fun u ra t H1 locs1 ht hvm hw hB hz hk hS => by
    obtain ⟨e1, hO⟩ := hB
    rw [e1]
    exact kk u.1 u.2 H1 locs1 hw (rG_mrg hT G hO ht hk hS))
end RTEMP
/-! ends of methods in another layout; rows that are given back -/
section RTEMP2
variable {p : Program} {l : Launch} {e : Env} {R : Room} {s : State} {m : MethodId} {args : Array Value} {below : List Frame} {meth : Method} {c : Code} {H : Heap} {locs : List Loc} {cells slots : Nat} {Q : State → Prop}
variable {cc bytes : ByteArray} {pc nL maxL mc ms n index : Nat} {ls : Array Slot} {ST rest As : List Value} {D : va_G} {cy : Nat → ClassId} {lay : Nat → Nat} {Γ : RG} {tm : Nat → Option (Nat × Nat)} {σ : MS} {Ts ws : List Cond} {own Cn host : String} {y : MethodName} {ret : Option FieldType} {rm : Room} {b : Addr}
variable {Qc : Array Value → State → Outcome → State → Prop} {free : Addr → Prop}
theorem ql_i {post : Int32 → MS → Prop} (hB : rB Γ) : QL (fun lay => MQ below (va_Qi post (rO D cy lay Γ) (rA cy lay Γ s.heap.size)) args s mc ms (rA cy lay Γ s.heap.size)) := fun lay lay' h => by
  dsimp only
  rw [rO_lay hB h, rA_lay h]
theorem ql_l {post : Int64 → MS → Prop} (hB : rB Γ) : QL (fun lay => MQ below (va_Ql post (rO D cy lay Γ) (rA cy lay Γ s.heap.size)) args s mc ms (rA cy lay Γ s.heap.size)) := fun lay lay' h => by
  dsimp only
  rw [rO_lay hB h, rA_lay h]
theorem ql_v {post : MS → Prop} (hB : rB Γ) : QL (fun lay => MQ below (va_Qv post (rO D cy lay Γ) (rA cy lay Γ s.heap.size)) args s mc ms (rA cy lay Γ s.heap.size)) := fun lay lay' h => by
  dsimp only
  rw [rO_lay hB h, rA_lay h]
/-- a method's end that gives back a new row of ints -/
def rQA (post : Nat → (Nat → Int32) → MS → Prop) (D : va_G) (cy : Nat → ClassId) (lay : Nat → Nat) (Γ : RG) (sz : Nat) (A : Nat → Prop) : Array Value → State → Outcome → State → Prop :=
  va_Qr (S := (Nat × (Nat → Int32)) × MS) (fun u => post u.1.1 u.1.2 u.2) (fun u a t => (sz ≤ a ∧ va_at D vwCl (a, .inl (cy 0, u.1.1, .inl u.1.2)) t.heap) ∧ rO D cy lay Γ u.2 t) A
theorem ql_a {post : Nat → (Nat → Int32) → MS → Prop} (hB : rB Γ) : QL (fun lay => MQ below (rQA post D cy lay Γ s.heap.size (rA cy lay Γ s.heap.size)) args s mc ms (rA cy lay Γ s.heap.size)) := fun lay lay' h => by
  dsimp only
  unfold rQA
  rw [rO_lay hB h, rA_lay h]
theorem rg_aret {post : Nat → (Nat → Int32) → MS → Prop} {k n : Nat} {rt : FieldType} {locs : List Loc} (hC : CallFix p m c cc nL s args Ts own) (hr : meth.sig.returnType = some rt) (hrt : (∃ n, rt = .object n) ∨ ∃ t, rt = .array t) (hlocks : meth.locks = false) (hT : rT D cy lay Γ s) (G : rG D cy lay Γ tm σ (rA cy lay Γ s.heap.size) s.heap H locs) (hk : 64 ≤ k) (hk2 : k < 128) (ht : tm k = some (0, n)) (h : post n (σ k) σ) (hdg : decode cc pc = .ok (.areturn, 1)) :
    W p l e R s m args below meth c H locs cells slots (MQ below (rQA post D cy lay Γ s.heap.size (rA cy lay Γ s.heap.size)) args s cells slots (rA cy lay Γ s.heap.size)) (F0 m pc ls [.ref (lay k)]) := by
  have hx : rX cy lay Γ tm σ k = some (.inl (cy 0, n, .inl (σ k))) := r_ti hk ht
  have hA : s.heap.size ≤ lay k := by
    rcases G.2.1.2 k _ hk2 hx with ⟨j, hj, hs, hq⟩ | z
    · have h2 := r_some (cy := cy) (lay := lay) (lay' := lay) (Γ := Γ) (tm := tn) (tm' := tm) (σ := fun _ _ => 0) (σ' := σ) hj
      rw [hs] at h2
      cases q : rX cy lay Γ tm σ j with
      | none => rw [q] at h2; cases h2
      | some y =>
        have := G.2.1.1 k j _ y hk2 (by omega) hx q hq
        omega
    · exact z
  exact W.aret (v := .ref (lay k)) hC.1 hC.2.1 hr hrt (Or.inr ⟨_, rfl⟩) (fun t htt hW => ⟨⟨((n, σ k), σ), lay k, rfl, h, ⟨hA, by rw [htt]; exact G.1 k _ hk2 hx⟩, rO_G (rG_drop G hT.2.2.2) htt⟩, G.2.2.F htt⟩) G.2.2.2.2 hdg hlocks
/-- behind a call that gives back a new row -/
theorem rg_aM {Q : (Nat → Nat) → State → Prop} (hQ : QL Q) {post : Nat → (Nat → Int32) → MS → Prop} {a : Array Value} (hT : rT D cy lay Γ s) (G : rG D cy lay Γ tm σ (rA cy lay Γ s.heap.size) s.heap H locs) (hO : tmO tm) {k : Nat} (hk : 64 ≤ k) (hk2 : k < 128) (hX : tm k = none) (hr : va_Run p l e R s m args below meth c H locs cells slots mc ms (F0 m pc ls ST) rest (rQA post D cy lay Γ H.size (rA cy lay Γ H.size) a) (rA cy lay Γ H.size))
    (kk : ∀ (n : Nat) (f : Nat → Int32) (σ' : MS), post n f σ' → ∀ (lay' : Nat → Nat), (∀ j, j ≠ k → lay' j = lay j) → rT D cy lay' Γ s → ∀ (H1 : Heap) (locs1 : List Loc), rG D cy lay' Γ (gU tm k (some (0, n))) (rw0 (mrg σ' σ) k f) (rA cy lay' Γ s.heap.size) s.heap H1 locs1 → W p l e R s m args below meth c H1 locs1 (cells + mc) (slots + ms) (Q lay') (F0 m (pc + 3) ls (.ref (lay' k) :: rest))) : W p l e R s m args below meth c H locs cells slots (Q lay) (F0 m pc ls ST) := by
  refine va_callr hr G.2.2 (fun q _ h => rA_le G.2.2.1 q h) (rA_le G.2.2.1) (fun u ra t H1 locs1 ht hvm hw hB hz hk3 hS => ?_)
  obtain ⟨⟨hra, hat⟩, hOt⟩ := hB
  have G1 := rG_mrg hT G hOt ht hk3 hS
  have hl : ∀ j, j ≠ k → gU lay k ra j = lay j := fun j hj => gU_ne hj
  have hL : Lsm lay (gU lay k ra) := fun j hj => hl j (by omega)
  have hX0 : rX cy lay Γ tm (mrg u.2 σ) k = none := by rw [r_tm hk, hX]; rfl
  have fresh : ∀ j x, j < 128 → rX cy lay Γ tm (mrg u.2 σ) j = some x → lay j ≠ ra := fun j x hj hx hq => by
    have hlt : lay j < H.size := by
      by_cases h64 : j < 64
      · have h2 := r_some (cy := cy) (lay := lay) (lay' := lay) (Γ := Γ) (tm := tm) (tm' := tm) (σ := mrg u.2 σ) (σ' := σ) h64
        rw [hx] at h2
        cases q : rX cy lay Γ tm σ j with
        | none => rw [q] at h2; cases h2
        | some y => exact (G.1 j y hj q).lt
      · rw [r_loc (mrg_hi (by omega))] at hx
        exact (G.1 j x hj hx).lt
    omega
  have hG : gG D (gU lay k ra) (gU (rX cy lay Γ tm (mrg u.2 σ)) k (some (.inl (cy 0, u.1.1, .inl u.1.2)))) (rA cy lay Γ s.heap.size) s.heap H1 locs1 := by
    refine ⟨fun j x hj hx => ?_, ⟨fun i j x y hi hj hx hy hq => ?_, fun j x hj hx => ?_⟩, G1.2.2⟩
    · by_cases ej : j = k
      · subst ej
        rw [gU_eq] at hx
        cases hx
        rw [gU_eq, ← ht]
        exact hat
      · rw [gU_ne ej] at hx
        rw [hl j ej]
        exact G1.1 j x hj hx
    · by_cases ei : i = k
      · by_cases ej : j = k
        · rw [ei, ej]
        · subst ei
          rw [gU_eq, gU_ne ej] at hq
          rw [gU_ne ej] at hy
          exact absurd hq.symm (fresh j y hj hy)
      · by_cases ej : j = k
        · subst ej
          rw [gU_eq, gU_ne ei] at hq
          rw [gU_ne ei] at hx
          exact absurd hq (fresh i x hi hx)
        · rw [gU_ne ei] at hx
          rw [gU_ne ej] at hy
          rw [gU_ne ei, gU_ne ej] at hq
          exact G1.2.1.1 i j x y hi hj hx hy hq
    · by_cases ej : j = k
      · subst ej
        rw [gU_eq]
        exact Or.inr (Nat.le_trans G.2.2.1 hra)
      · rw [gU_ne ej] at hx
        rw [hl j ej]
        exact G1.2.1.2 j x hj hx
  have h := kk u.1.1 u.1.2 u.2 hw (gU lay k ra) hl (rT_lay hL hT) H1 locs1 (by
    rw [rA_lay hL]
    exact gG_eq (fun j _ => rX_new (t := (0, u.1.1)) (f := u.1.2) hT.2.2.2 hk (Or.inl (Nat.le_of_ble_eq_true rfl)) hl hO j) hG)
  rw [hQ lay _ hL, gU_eq] at h
  exact h
end RTEMP2
section RCOPY
variable {p : Program} {l : Launch} {e : Env} {R : Room} {s : State} {m : MethodId} {args : Array Value} {below : List Frame} {meth : Method} {c : Code} {H : Heap} {locs : List Loc} {cells slots : Nat} {Q : State → Prop}
variable {cc : ByteArray} {pc nL index : Nat} {ls : Array Slot} {rest : List Value} {D : va_G} {cy : Nat → ClassId} {lay : Nat → Nat} {Γ : RG} {tm : Nat → Option (Nat × Nat)} {σ : MS} {A : Nat → Prop} {H0 : Heap} {Ts : List Cond} {own : String}
theorem rw0_upd {k : Nat} {g : Nat → Int32} {x : va_E} (hx : rX cy lay Γ tm (rw0 σ k g) k = some x) : gU (rX cy lay Γ tm σ) k (some x) = rX cy lay Γ tm (rw0 σ k g) := by
  funext i
  by_cases h : i = k
  · subst h; rw [gU_eq, hx]
  · rw [gU_ne h]; exact (r_loc (rw0_ne h)).symm
theorem rg_copy (hC : CallFix p m c cc nL s args Ts own) (hls : ls.size = nL) (hT : rT D cy lay Γ s) (G : rG D cy lay Γ tm σ A H0 H locs) (w1 : Cond.methodLink own index arraycopyName ∈ Ts) (w2 : Cond.native arraycopyName ∈ Ts) (w3 : Cond.static arraycopyName ∈ Ts) (w4 : Cond.initialized "java/lang/System" ∈ Ts) {k0 k1 n0 n1 : Nat} (hk0 : 64 ≤ k0 ∧ k0 < 128) (hk1 : 64 ≤ k1 ∧ k1 < 128) (h0 : tm k0 = some (0, n0)) (h1 : tm k1 = some (0, n1)) {n : Int32} (hn : ¬ n < 0) (ha : n.toNatClampNeg ≤ n0) (hb : n.toNatClampNeg ≤ n1) (hframes : 1 ≤ R.frames) (hlocals : (rest.map fun v => v.category).sum + (nativeFrameWords "java/lang/System" "arraycopy" 5 + 11) ≤ R.locals) (hdg : decode cc pc = .ok (.invokestatic index, 3))
    (kk : ∀ (H1 : Heap) (locs1 : List Loc), rG D cy lay Γ tm (rw0 σ k1 (va_cpy (σ k0) (σ k1) 0 0 n.toNatClampNeg)) A H0 H1 locs1 → W p l e R s m args below meth c H1 locs1 cells slots Q (F0 m (pc + 3) ls rest)) : W p l e R s m args below meth c H locs cells slots Q (F0 m pc ls (.int n :: .int 0 :: .ref (lay k1) :: .int 0 :: .ref (lay k0) :: rest)) := by
  have x0 : rX cy lay Γ tm σ k0 = some (.inl (cy 0, n0, .inl (σ k0))) := r_ti hk0.1 h0
  have x1 : rX cy lay Γ tm σ k1 = some (.inl (cy 0, n1, .inl (σ k1))) := r_ti hk1.1 h1
  obtain ⟨q0, hq0⟩ := gW_pos (lay := lay) hk0.2 x0
  obtain ⟨q1, hq1⟩ := gW_pos (lay := lay) hk1.2 x1
  refine va_copyi hC.1 hC.2.1 (hC.2.2.1.trans hls.symm) hC.2.2.2.1 (hC.2.2.2.2 _ w1) (hC.2.2.2.2 _ w2) (hC.2.2.2.2 _ w3) (hC.2.2.2.2 _ w4) hT.1 (gP_list G.1) (gI_list G.2.1) G.2.2 q0 q1 0 0 hq0 hq1 rfl rfl rfl (by decide) (by decide) hn (by show 0 + _ ≤ _; omega) (by show 0 + _ ≤ _; omega) (fun i _ => rfl) hframes hlocals hdg (fun H1 locs1 hP hD hS => kk H1 locs1 ?_)
  have hG : gG D lay (gU (rX cy lay Γ tm σ) k1 (some (.inl (cy 0, n1, .inl (va_cpy (σ k0) (σ k1) 0 0 n.toNatClampNeg))))) A H0 H1 locs1 := ⟨gP_set G.2.1 hk1.2 x1 hq1 hP, gI_set G.2.1 x1, hS⟩
  rw [rw0_upd (g := va_cpy (σ k0) (σ k1) 0 0 n.toNatClampNeg) (by rw [r_ti hk1.1 h1, rw0_eq])] at hG
  exact hG
end RCOPY
