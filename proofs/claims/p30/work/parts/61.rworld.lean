section
/-! THE REFERENCE'S WORLD: cells by number; 's k j' the number in place j of cell k.
0 the model; 1, 2, 3 its lists (players, bands, weddings); 4, 5, 6 their rows; 7 keys, 8 energies, 9 minutes, 10 plays (16 each); 11 roads, 12 drives (36 each);
13 to 22 players; 23 to 32 their days off; 33 to 46 weddings; 64 on: what a method makes for itself. -/
/-- how many players, bands, weddings; the empty row's address; where the bands' shapes lie -/
abbrev RG : Type := Nat × Nat × Nat × Nat × (Nat → Nat) × (Nat → Int32)
def m64 (h l : Int32) : Int64 := ⟨⟨h.toBitVec ++ l.toBitVec⟩⟩
def hi32 (v : Int64) : Int32 := ⟨⟨v.toBitVec.extractLsb' 32 32⟩⟩
def lo32 (v : Int64) : Int32 := ⟨⟨v.toBitVec.extractLsb' 0 32⟩⟩
theorem m64_of (v : Int64) : m64 (hi32 v) (lo32 v) = v := by
  apply Int64.toBitVec_inj.mp
  show v.toBitVec.extractLsb' 32 32 ++ v.toBitVec.extractLsb' 0 32 = v.toBitVec
  apply BitVec.eq_of_getLsbD_eq
  intro i hi
  rw [BitVec.getLsbD_append]
  by_cases h : i < 32
  · simp [h]
  · simp [h]
    rw [decide_eq_true (by omega : i - 32 < 32), Bool.true_and, show 32 + (i - 32) = i by omega]
abbrev Lmo (lay : Nat → Nat) (f : Nat → Int32) : List Value := [.int (f 0), .int (f 1), .int (f 2), .ref (lay 1), .ref (lay 2), .ref (lay 3), .ref (lay 7), .ref (lay 8), .ref (lay 9), .ref (lay 10), .ref (lay 11), .ref (lay 12), .long (m64 (f 12) (f 13))]
abbrev Lrp (f : Nat → Int32) (o : Nat) : List Value := [.int (f 0), .int (f 1), .int (f 2), .int (f 3), .int (f 4), .int (f 5), .ref o]
abbrev rfS (g : Nat → Option Nat) : (Nat → Int32) ⊕ (Nat → Int64) ⊕ (Nat → UInt32) ⊕ (Nat → UInt64) ⊕ (Nat → Option Nat) := .inr (.inr (.inr (.inr g)))
/-- a list: its row is the empty one while it has nothing -/
def rL (cy : Nat → ClassId) (lay : Nat → Nat) (n ea k : Nat) (f : Nat → Int32) : va_E := .inr (4, [.int (f 0), .ref (if n = 0 then ea else lay k), .int (f 2)])
/-- what a method makes for itself: a row of ints, of booleans, a walker over a list -/
def rTm (cy : Nat → ClassId) (lay : Nat → Nat) (f : Nat → Int32) (t : Nat × Nat) : va_E := if t.1 = 0 then .inl (cy 0, t.2, .inl f) else if t.1 = 1 then .inl (cy 1, t.2, .inl f) else .inr (3, [.int (f 0), .int (f 1), .int (f 2), .ref (lay t.2)])
def rX (cy : Nat → ClassId) (lay : Nat → Nat) (Γ : RG) (tm : Nat → Option (Nat × Nat)) (σ : MS) (k : Nat) : Option va_E :=
  if k = 0 then some (.inr (16, Lmo lay (σ 0)))
  else if k = 1 then some (rL cy lay Γ.1 Γ.2.2.2.1 4 (σ 1))
  else if k = 2 then some (rL cy lay Γ.2.1 Γ.2.2.2.1 5 (σ 2))
  else if k = 3 then some (rL cy lay Γ.2.2.1 Γ.2.2.2.1 6 (σ 3))
  else if k = 4 then (if Γ.1 = 0 then none else some (.inl (cy 7, 10, rfS fun i => if i < Γ.1 then some (lay (13 + i)) else none)))
  else if k = 5 then (if Γ.2.1 = 0 then none else some (.inl (cy 7, 10, rfS fun i => if i < Γ.2.1 then some (Γ.2.2.2.2.1 i) else none)))
  else if k = 6 then (if Γ.2.2.1 = 0 then none else some (.inl (cy 7, if Γ.2.2.1 ≤ 10 then 10 else 15, rfS fun i => if i < Γ.2.2.1 then some (lay (33 + i)) else none)))
  else if k < 11 then some (.inl (cy 0, 16, .inl (σ k)))
  else if k < 13 then some (.inl (cy 0, 36, .inl (σ k)))
  else if k < 23 then (if k - 13 < Γ.1 then some (.inr (14, Lrp (σ k) (lay (23 + (k - 13))))) else none)
  else if k < 33 then (if k - 23 < Γ.1 then some (.inl (cy 1, 366, .inl (σ k))) else none)
  else if k < 47 then (if k - 33 < Γ.2.2.1 then some (.inr (15, L12 (σ k))) else none)
  else if k < 64 then none
  else (tm k).map (rTm cy lay (σ k))
section RX
variable {cy : Nat → ClassId} {lay : Nat → Nat} {Γ : RG} {tm : Nat → Option (Nat × Nat)} {σ : MS}
theorem r_mo : rX cy lay Γ tm σ 0 = some (.inr (16, Lmo lay (σ 0))) := rfl
theorem r_lp : rX cy lay Γ tm σ 1 = some (.inr (4, [.int (σ 1 0), .ref (if Γ.1 = 0 then Γ.2.2.2.1 else lay 4), .int (σ 1 2)])) := rfl
theorem r_lb : rX cy lay Γ tm σ 2 = some (.inr (4, [.int (σ 2 0), .ref (if Γ.2.1 = 0 then Γ.2.2.2.1 else lay 5), .int (σ 2 2)])) := rfl
theorem r_lw : rX cy lay Γ tm σ 3 = some (.inr (4, [.int (σ 3 0), .ref (if Γ.2.2.1 = 0 then Γ.2.2.2.1 else lay 6), .int (σ 3 2)])) := rfl
theorem r_ep (h : Γ.1 ≠ 0) : rX cy lay Γ tm σ 4 = some (.inl (cy 7, 10, rfS fun i => if i < Γ.1 then some (lay (13 + i)) else none)) := if_neg h
theorem r_eb (h : Γ.2.1 ≠ 0) : rX cy lay Γ tm σ 5 = some (.inl (cy 7, 10, rfS fun i => if i < Γ.2.1 then some (Γ.2.2.2.2.1 i) else none)) := if_neg h
theorem r_ew (h : Γ.2.2.1 ≠ 0) : rX cy lay Γ tm σ 6 = some (.inl (cy 7, if Γ.2.2.1 ≤ 10 then 10 else 15, rfS fun i => if i < Γ.2.2.1 then some (lay (33 + i)) else none)) := if_neg h
theorem r_ky : rX cy lay Γ tm σ 7 = some (.inl (cy 0, 16, .inl (σ 7))) := rfl
theorem r_en : rX cy lay Γ tm σ 8 = some (.inl (cy 0, 16, .inl (σ 8))) := rfl
theorem r_mi : rX cy lay Γ tm σ 9 = some (.inl (cy 0, 16, .inl (σ 9))) := rfl
theorem r_py : rX cy lay Γ tm σ 10 = some (.inl (cy 0, 16, .inl (σ 10))) := rfl
theorem r_ro : rX cy lay Γ tm σ 11 = some (.inl (cy 0, 36, .inl (σ 11))) := rfl
theorem r_dr : rX cy lay Γ tm σ 12 = some (.inl (cy 0, 36, .inl (σ 12))) := rfl
theorem r_pl {i : Nat} (h : i < 10 ∧ i < Γ.1) : rX cy lay Γ tm σ (13 + i) = some (.inr (14, Lrp (σ (13 + i)) (lay (23 + i)))) := by
  have h1 := h.1
  have h2 := h.2
  unfold rX
  rw [if_neg (by omega), if_neg (by omega), if_neg (by omega), if_neg (by omega), if_neg (by omega), if_neg (by omega), if_neg (by omega), if_neg (by omega), if_neg (by omega), if_pos (by omega), show 13 + i - 13 = i by omega, if_pos h2]
theorem r_of {i : Nat} (h : i < 10 ∧ i < Γ.1) : rX cy lay Γ tm σ (23 + i) = some (.inl (cy 1, 366, .inl (σ (23 + i)))) := by
  have h1 := h.1
  have h2 := h.2
  unfold rX
  rw [if_neg (by omega), if_neg (by omega), if_neg (by omega), if_neg (by omega), if_neg (by omega), if_neg (by omega), if_neg (by omega), if_neg (by omega), if_neg (by omega), if_neg (by omega), if_pos (by omega), show 23 + i - 23 = i by omega, if_pos h2]
theorem r_wd {i : Nat} (h : i < 14 ∧ i < Γ.2.2.1) : rX cy lay Γ tm σ (33 + i) = some (.inr (15, L12 (σ (33 + i)))) := by
  have h1 := h.1
  have h2 := h.2
  unfold rX
  rw [if_neg (by omega), if_neg (by omega), if_neg (by omega), if_neg (by omega), if_neg (by omega), if_neg (by omega), if_neg (by omega), if_neg (by omega), if_neg (by omega), if_neg (by omega), if_neg (by omega), if_pos (by omega), show 33 + i - 33 = i by omega, if_pos h2]
theorem r_tm {k : Nat} (h : 64 ≤ k) : rX cy lay Γ tm σ k = (tm k).map (rTm cy lay (σ k)) := by
  unfold rX
  rw [if_neg (by omega), if_neg (by omega), if_neg (by omega), if_neg (by omega), if_neg (by omega), if_neg (by omega), if_neg (by omega), if_neg (by omega), if_neg (by omega), if_neg (by omega), if_neg (by omega), if_neg (by omega), if_neg (by omega)]
/-- the world looks at cell k for itself alone -/
theorem r_loc {σ' : MS} {k : Nat} (h : σ' k = σ k) : rX cy lay Γ tm σ' k = rX cy lay Γ tm σ k := by
  by_cases h0 : k = 0
  · subst h0; unfold rX; rw [if_pos rfl, if_pos rfl, h]
  by_cases h1 : k = 1
  · subst h1; unfold rX; rw [if_neg h0, if_pos rfl, if_neg h0, if_pos rfl, h]
  by_cases h2 : k = 2
  · subst h2; unfold rX; rw [if_neg h0, if_neg h1, if_pos rfl, if_neg h0, if_neg h1, if_pos rfl, h]
  by_cases h3 : k = 3
  · subst h3; unfold rX; rw [if_neg h0, if_neg h1, if_neg h2, if_pos rfl, if_neg h0, if_neg h1, if_neg h2, if_pos rfl, h]
  unfold rX
  rw [if_neg h0, if_neg h1, if_neg h2, if_neg h3, if_neg h0, if_neg h1, if_neg h2, if_neg h3, h]
theorem r_upd {k j : Nat} {v : Int32} {e : va_E} (he : rX cy lay Γ tm (up2 σ k j v) k = some e) : gU (rX cy lay Γ tm σ) k (some e) = rX cy lay Γ tm (up2 σ k j v) := by
  funext i
  by_cases h : i = k
  · subst h; rw [gU_eq, he]
  · rw [gU_ne h]; exact (r_loc (up2_ne h)).symm
end RX
def tn : Nat → Option (Nat × Nat) := fun _ => none
theorem r_some {cy : Nat → ClassId} {lay lay' : Nat → Nat} {Γ : RG} {tm tm' : Nat → Option (Nat × Nat)} {σ σ' : MS} {k : Nat} (hk : k < 64) : (rX cy lay Γ tm σ k).isSome = (rX cy lay' Γ tm' σ' k).isSome := by
  unfold rX
  by_cases c0 : k = 0
  · simp [c0]
  by_cases c1 : k = 1
  · simp [c1]
  by_cases c2 : k = 2
  · simp [c2]
  by_cases c3 : k = 3
  · simp [c3]
  by_cases c4 : k = 4
  · simp [c4]
    by_cases z : Γ.1 = 0
    · simp [z]
    · simp [z]
  by_cases c5 : k = 5
  · simp [c5]
  by_cases c6 : k = 6
  · simp [c6]
    by_cases z : Γ.2.2.1 = 0
    · simp [z]
    · simp [z]
  by_cases c7 : k < 11
  · simp [c0, c1, c2, c3, c4, c5, c6, c7]
  by_cases c8 : k < 13
  · simp [c0, c1, c2, c3, c4, c5, c6, c7, c8]
  by_cases c9 : k < 23
  · simp [c0, c1, c2, c3, c4, c5, c6, c7, c8, c9]
    by_cases z : k - 13 < Γ.1
    · simp [z]
    · simp [z]
  by_cases c10 : k < 33
  · simp [c0, c1, c2, c3, c4, c5, c6, c7, c8, c9, c10]
    by_cases z : k - 23 < Γ.1
    · simp [z]
    · simp [z]
  by_cases c11 : k < 47
  · simp [c0, c1, c2, c3, c4, c5, c6, c7, c8, c9, c10, c11]
    by_cases z : k - 33 < Γ.2.2.1
    · simp [z]
    · simp [z]
  simp [c0, c1, c2, c3, c4, c5, c6, c7, c8, c9, c10, c11, hk]
/-- the world's addresses, and new ones -/
def rA (cy : Nat → ClassId) (lay : Nat → Nat) (Γ : RG) (n : Nat) : Nat → Prop := fun q => (∃ k, k < 64 ∧ (rX cy lay Γ tn (fun _ _ => 0) k).isSome = true ∧ q = lay k) ∨ n ≤ q
theorem rA_new {cy : Nat → ClassId} {lay : Nat → Nat} {Γ : RG} {n : Nat} : ∀ q, n ≤ q → rA cy lay Γ n q := fun _ h => Or.inr h
theorem rA_le {cy : Nat → ClassId} {lay : Nat → Nat} {Γ : RG} {n k : Nat} (h : n ≤ k) : ∀ q, rA cy lay Γ k q → rA cy lay Γ n q := fun _ hq => hq.elim Or.inl (fun h2 => Or.inr (Nat.le_trans h h2))
theorem rI_of {cy : Nat → ClassId} {lay : Nat → Nat} {Γ : RG} {σ : MS} {A : Nat → Prop} {n : Nat} (h : gI A lay (rX cy lay Γ tn σ)) : gI (rA cy lay Γ n) lay (rX cy lay Γ tn σ) := ⟨h.1, fun k e hk hX => by
  by_cases h64 : k < 64
  · exact Or.inl ⟨k, h64, by rw [r_some (lay' := lay) (tm' := tn) (σ' := σ) h64, hX]; rfl, rfl⟩
  · rw [r_tm (by omega)] at hX
    exact absurd hX (by unfold tn; simp)⟩
/-- the bands' shapes and the empty row, apart from the world -/
def rS (D : va_G) (cy : Nat → ClassId) (Γ : RG) (A : Nat → Prop) (U : State) (H : Heap) : Prop :=
  ((∃ cell : Cell, H[Γ.2.2.2.1]? = some cell) ∧ ¬ A Γ.2.2.2.1) ∧ ∀ i, i < Γ.2.1 → va_O RJ6 (Γ.2.2.2.2.1 i) A U H ∧ va_OF RJ6 "value" "I" (.int (Γ.2.2.2.2.2 i)) (Γ.2.2.2.2.1 i) A U H
theorem bxO_kept {E : String} {t : Nat} {A B : Nat → Prop} {U : State} {H H1 : Heap} (h : va_O E t A U H) (hq : ∀ q : Nat, q < H.size → ¬ A q → H1[q]? = H[q]?) (hB : ∀ q, q < H.size → B q → A q) : va_O E t B U H1 := by
  obtain ⟨cell, h1, h2, h3, h4⟩ := h
  have hl := (Array.getElem?_eq_some_iff.mp h1).1
  exact ⟨cell, by rw [hq t hl h4]; exact h1, h2, h3, fun z => h4 (hB t hl z)⟩
theorem bxF_kept {o n d : String} {v : Value} {t : Nat} {A B : Nat → Prop} {U : State} {H H1 : Heap} (h : va_OF o n d v t A U H) (hq : ∀ q : Nat, q < H.size → ¬ A q → H1[q]? = H[q]?) (hB : ∀ q, q < H.size → B q → A q) : va_OF o n d v t B U H1 := by
  obtain ⟨cf, k, i, f, cell, h1, h2, h3, h4, h5, h6⟩ := h
  have hl := (Array.getElem?_eq_some_iff.mp h3).1
  exact ⟨cf, k, i, f, cell, h1, h2, by rw [hq t hl h6]; exact h3, h4, h5, fun z => h6 (hB t hl z)⟩
theorem rS_kept {D : va_G} {cy : Nat → ClassId} {Γ : RG} {A B : Nat → Prop} {U : State} {H H1 : Heap} (h : rS D cy Γ A U H) (hq : ∀ q : Nat, q < H.size → ¬ A q → H1[q]? = H[q]?) (hB : ∀ q, q < H.size → B q → A q) : rS D cy Γ B U H1 :=
  have hlt : Γ.2.2.2.1 < H.size := h.1.1.elim (fun _ hc => (Array.getElem?_eq_some_iff.mp hc).1)
  ⟨⟨h.1.1.elim (fun cell hc => ⟨cell, by rw [hq _ hlt h.1.2]; exact hc⟩), fun z => h.1.2 (hB _ hlt z)⟩, fun i hi => ⟨bxO_kept (h.2 i hi).1 hq hB, bxF_kept (h.2 i hi).2 hq hB⟩⟩
theorem rS_moved {D : va_G} {cy : Nat → ClassId} {Γ : RG} {A : Nat → Prop} {u U : State} {H : Heap} (hvm : u.vm.Alike U.vm) (h : rS D cy Γ A u H) : rS D cy Γ A U H :=
  ⟨h.1, fun i hi => ⟨va_O.moved hvm (h.2 i hi).1, va_OF.moved hvm (h.2 i hi).2⟩⟩
def nestR : List Cond := [.fieldLinkNest "java/util/ArrayList$Itr" 28 "java/util/ArrayList" "size" "I" "java/util/ArrayList", .methodLinkNest "FirstdanceAgencyModel" 70 ⟨"FirstdanceAgencyModel$Player", "<init>", "()V"⟩ "FirstdanceAgencyModel", .fieldLinkNest "FirstdanceAgencyModel" 71 "FirstdanceAgencyModel$Player" "instruments" "I" "FirstdanceAgencyModel", .fieldLinkNest "FirstdanceAgencyModel" 74 "FirstdanceAgencyModel$Player" "songs" "I" "FirstdanceAgencyModel", .fieldLinkNest "FirstdanceAgencyModel" 77 "FirstdanceAgencyModel$Player" "home" "I" "FirstdanceAgencyModel", .fieldLinkNest "FirstdanceAgencyModel" 80 "FirstdanceAgencyModel$Player" "fee" "I" "FirstdanceAgencyModel", .fieldLinkNest "FirstdanceAgencyModel" 99 "FirstdanceAgencyModel$Player" "feuds" "I" "FirstdanceAgencyModel", .fieldLinkNest "FirstdanceAgencyModel" 267 "FirstdanceAgencyModel$Player" "earned" "I" "FirstdanceAgencyModel", .fieldLinkNest "FirstdanceAgencyModel" 156 "FirstdanceAgencyModel$Player" "isOff" "[Z" "FirstdanceAgencyModel", .methodLinkNest "FirstdanceAgencyModel" 142 ⟨"FirstdanceAgencyModel$Wedding", "<init>", "()V"⟩ "FirstdanceAgencyModel", .fieldLinkNest "FirstdanceAgencyModel" 127 "FirstdanceAgencyModel$Wedding" "band" "I" "FirstdanceAgencyModel", .fieldLinkNest "FirstdanceAgencyModel" 130 "FirstdanceAgencyModel$Wedding" "day" "I" "FirstdanceAgencyModel", .fieldLinkNest "FirstdanceAgencyModel" 143 "FirstdanceAgencyModel$Wedding" "town" "I" "FirstdanceAgencyModel", .fieldLinkNest "FirstdanceAgencyModel" 146 "FirstdanceAgencyModel$Wedding" "start" "I" "FirstdanceAgencyModel", .fieldLinkNest "FirstdanceAgencyModel" 149 "FirstdanceAgencyModel$Wedding" "length" "I" "FirstdanceAgencyModel", .fieldLinkNest "FirstdanceAgencyModel" 152 "FirstdanceAgencyModel$Wedding" "songs" "I" "FirstdanceAgencyModel", .fieldLinkNest "FirstdanceAgencyModel" 153 "FirstdanceAgencyModel$Wedding" "told" "I" "FirstdanceAgencyModel", .fieldLinkNest "FirstdanceAgencyModel" 124 "FirstdanceAgencyModel$Wedding" "state" "I" "FirstdanceAgencyModel", .fieldLinkNest "FirstdanceAgencyModel" 160 "FirstdanceAgencyModel$Wedding" "set" "I" "FirstdanceAgencyModel", .fieldLinkNest "FirstdanceAgencyModel" 207 "FirstdanceAgencyModel$Wedding" "price" "I" "FirstdanceAgencyModel", .fieldLinkNest "FirstdanceAgencyModel" 252 "FirstdanceAgencyModel$Wedding" "late" "I" "FirstdanceAgencyModel", .fieldLinkNest "FirstdanceAgencyModel" 210 "FirstdanceAgencyModel$Wedding" "paid" "I" "FirstdanceAgencyModel", .declares ⟨"java/util/Iterator", "hasNext", "()Z"⟩, .declares ⟨"java/util/Iterator", "next", "()Ljava/lang/Object;"⟩, .castable "java/util/ArrayList$Itr" "java/util/Iterator", .castable "FirstdanceAgencyModel$Player" "java/lang/Object", .castable "FirstdanceAgencyModel$Wedding" "java/lang/Object", .castable "java/lang/Integer" "java/lang/Object"]
theorem nestR_ok : ∀ w ∈ nestR, nestB w = true := List.all_eq_true.mp (by rfl)
/-- what the tables say: the nest's words, the walker's two calls -/
def rN (U : State) : Prop := (∀ w ∈ nestR, va_Nw w U) ∧ va_Fw RJx35411 ⟨"java/util/Iterator", "hasNext", "()Z"⟩ yJx35411_hasNext_aae02 U ∧ va_Fw RJx35411 ⟨"java/util/Iterator", "next", "()Ljava/lang/Object;"⟩ yJx35411_next_0502b U
theorem it_mh : (⟨"java/util/Iterator", "hasNext", "()Z"⟩ : MethodName).cls ≠ "java/lang/invoke/MethodHandle" ∧ (⟨"java/util/Iterator", "hasNext", "()Z"⟩ : MethodName).cls ≠ "java/lang/invoke/VarHandle" := by decide +kernel
theorem it_mh2 : (⟨"java/util/Iterator", "next", "()Ljava/lang/Object;"⟩ : MethodName).cls ≠ "java/lang/invoke/MethodHandle" ∧ (⟨"java/util/Iterator", "next", "()Ljava/lang/Object;"⟩ : MethodName).cls ≠ "java/lang/invoke/VarHandle" := by decide +kernel
theorem rN_warm {s U : State} (hW : s.WarmedH U.vm) (h : rN s) : rN U := ⟨fun w hw => nest_warm hW w (nestR_ok w hw) (h.1 w hw), va_Fw.moved it_mh hW.alike h.2.1, va_Fw.moved it_mh2 hW.alike h.2.2⟩
theorem rN_same {u U : State} (hv : u.vm = U.vm) (h : rN u) : rN U := ⟨fun w hw => nest_same hv w (nestR_ok w hw) (h.1 w hw), va_Fw.moved it_mh (hv ▸ Vm.Alike.refl u.vm) h.2.1, va_Fw.moved it_mh2 (hv ▸ Vm.Alike.refl u.vm) h.2.2⟩
/-- how many there can be -/
def rB (Γ : RG) : Prop := Γ.1 ≤ 10 ∧ Γ.2.1 ≤ 6 ∧ Γ.2.2.1 ≤ 14
def rT (D : va_G) (cy : Nat → ClassId) (lay : Nat → Nat) (Γ : RG) (U : State) : Prop := va_K D vwCl (fdT cy) U ∧ rN U ∧ rS D cy Γ (rA cy lay Γ U.heap.size) U U.heap ∧ rB Γ
def rG (D : va_G) (cy : Nat → ClassId) (lay : Nat → Nat) (Γ : RG) (tm : Nat → Option (Nat × Nat)) (σ : MS) (A : Nat → Prop) (H0 H : Heap) (locs : List Loc) : Prop := gG D lay (rX cy lay Γ tm σ) A H0 H locs
/-- a method's start, its end -/
def rI (D : va_G) (cy : Nat → ClassId) (lay : Nat → Nat) (Γ : RG) (σ : MS) (sz : Nat) (U : State) : Prop := U.heap.size = sz ∧ rT D cy lay Γ U ∧ gP D lay (rX cy lay Γ tn σ) U.heap ∧ gI (fun _ => True) lay (rX cy lay Γ tn σ)
def rO (D : va_G) (cy : Nat → ClassId) (lay : Nat → Nat) (Γ : RG) (σ : MS) (t : State) : Prop := gP D lay (rX cy lay Γ tn σ) t.heap ∧ gI (fun _ => True) lay (rX cy lay Γ tn σ)
theorem rT_next {D : va_G} {cy : Nat → ClassId} {lay : Nat → Nat} {Γ : RG} {s U : State} {H : Heap} {locs : List Loc} (hT : rT D cy lay Γ s) (hS : va_S (rA cy lay Γ s.heap.size) s.heap H locs) (hU : U.heap = H) (hW : s.WarmedH U.vm) : rT D cy lay Γ U :=
  ⟨va_K.moved hW.alike hT.1, rN_warm hW hT.2.1, by rw [hU]; exact rS_kept (rS_moved hW.alike hT.2.2.1) hS.2.1 (fun q hq => rA_le hS.1 q), hT.2.2.2⟩
theorem rI_blind {D : va_G} {cy : Nat → ClassId} {lay : Nat → Nat} {Γ : RG} {σ : MS} {sz : Nat} {As : List Value} : FrameBlind (va_Pc As (rI D cy lay Γ σ sz)) := by
  intro a U g mk h
  obtain ⟨h0, h1, ⟨k1, k2, k3, k4⟩, h2, h3⟩ := h
  exact ⟨h0, h1, ⟨va_K.moved (u := U) (U := U.calling g mk a) (Vm.Alike.refl U.vm) k1, rN_same (u := U) (U := U.calling g mk a) rfl k2, rS_moved (u := U) (U := U.calling g mk a) (Vm.Alike.refl U.vm) k3, k4⟩, h2, h3⟩
theorem gI_true {A : Nat → Prop} {lay : Nat → Nat} {X : Nat → Option va_E} (h : gI A lay X) : gI (fun _ => True) lay X := gI_weak h (fun _ _ => trivial)
theorem rI_next {D : va_G} {cy : Nat → ClassId} {lay : Nat → Nat} {Γ : RG} {σ : MS} {s U : State} {H : Heap} {locs : List Loc} (hT : rT D cy lay Γ s) (G : rG D cy lay Γ tn σ (rA cy lay Γ s.heap.size) s.heap H locs) (hU : U.heap = H) (hW : s.WarmedH U.vm) : rI D cy lay Γ σ H.size U :=
  ⟨by rw [hU], rT_next hT G.2.2 hU hW, by rw [hU]; exact G.1, gI_true G.2.1⟩
theorem rO_G {D : va_G} {cy : Nat → ClassId} {lay : Nat → Nat} {Γ : RG} {σ : MS} {s t : State} {H : Heap} {locs : List Loc} (G : rG D cy lay Γ tn σ (rA cy lay Γ s.heap.size) s.heap H locs) (ht : t.heap = H) : rO D cy lay Γ σ t := ⟨by rw [ht]; exact G.1, gI_true G.2.1⟩
theorem k_X9 : agCl RX9 TX9 7 14 tyX9 := ⟨rfl, tyX9_ok, nmX9⟩
theorem k_X10 : agCl RX10 TX10 12 15 tyX10 := ⟨rfl, tyX10_ok, nmX10⟩
theorem k_X11 : agCl RX11 TX11 13 16 tyX11 := ⟨rfl, tyX11_ok, nmX11⟩
theorem k_AL : agCl RJx4a65c TJx4a65c 3 4 tyJx4a65c := ⟨rfl, tyJx4a65c_ok, nmJx4a65c⟩
theorem k_IN : agCl RJ6 TJ6 1 2 tyJ6 := ⟨rfl, tyJ6_ok, nmJ6⟩
theorem rk_pl {i : Nat} {Γ : RG} (h : i < 10 ∧ i < Γ.1) : 13 + i < 128 := by have := h.1; omega
theorem rk_of {i : Nat} {Γ : RG} (h : i < 10 ∧ i < Γ.1) : 23 + i < 128 := by have := h.1; omega
theorem rk_wd {i : Nat} {Γ : RG} (h : i < 14 ∧ i < Γ.2.2.1) : 33 + i < 128 := by have := h.1; omega
section RROWS
variable {p : Program} {l : Launch} {e : Env} {R : Room} {s : State} {m : MethodId} {args : Array Value} {below : List Frame} {meth : Method} {c : Code} {H : Heap} {locs : List Loc} {cells slots : Nat} {Q : State → Prop}
variable {cc bytes : ByteArray} {pc nL maxL mc ms n index : Nat} {ls : Array Slot} {ST rest As : List Value} {D : va_G} {cy : Nat → ClassId} {lay : Nat → Nat} {Γ : RG} {tm : Nat → Option (Nat × Nat)} {σ : MS} {A : Nat → Prop} {H0 : Heap} {Ts ws : List Cond} {own Cn host : String} {y : MethodName} {ret : Option FieldType} {rm : Room} {b : Addr}
variable {Qc : Array Value → State → Outcome → State → Prop} {free : Addr → Prop}
theorem rg_get {C : String} {T : u_T} {N ci index : Nat} {ty : Nat → FieldType} (hC : CallFix p m c cc nL s args Ts own) (hT : rT D cy lay Γ s) (G : rG D cy lay Γ tm σ A H0 H locs) {k : Nat} (hk : k < 128) {fs : List Value} (he : rX cy lay Γ tm σ k = some (.inr (ci, fs))) (hcl : agCl C T N ci ty) (hin : ∀ w ∈ u_ws C T N, w ∈ Ts) (j : Nat) (hj : j < N) (hl : Cond.fieldLink own index (T j).1 (T j).2.1 (T j).2.2.1 ∈ Ts) {v : Value} (hv : fs[j]? = some v) (hdg : decode cc pc = .ok (.getfield index, 3))
    (kk : W p l e R s m args below meth c H locs cells slots Q (F0 m (pc + 3) ls (v :: rest))) : W p l e R s m args below meth c H locs cells slots Q (F0 m pc ls (.ref (lay k) :: rest)) := g_get hC hT.1 G hk he hcl hin j hj hl hv hdg kk
theorem rg_getN {C : String} {T : u_T} {N ci index : Nat} {ty : Nat → FieldType} (hC : CallFix p m c cc nL s args Ts own) (hT : rT D cy lay Γ s) (G : rG D cy lay Γ tm σ A H0 H locs) {k : Nat} (hk : k < 128) {fs : List Value} (he : rX cy lay Γ tm σ k = some (.inr (ci, fs))) (hcl : agCl C T N ci ty) (hin : ∀ w ∈ u_ws C T N, w ∈ Ts) (j : Nat) (hj : j < N) (q : Nat) (hl : nestR[q]? = some (Cond.fieldLinkNest own index (T j).1 (T j).2.1 (T j).2.2.1 host)) {v : Value} (hv : fs[j]? = some v) (hdg : decode cc pc = .ok (.getfield index, 3))
    (kk : W p l e R s m args below meth c H locs cells slots Q (F0 m (pc + 3) ls (v :: rest))) : W p l e R s m args below meth c H locs cells slots Q (F0 m pc ls (.ref (lay k) :: rest)) := g_getN hC hT.1 G hk he hcl hin j hj (nest_use _ (nestR_ok _ (wm q hl)) (hT.2.1.1 _ (wm q hl))) hv hdg kk
theorem rg_put {C : String} {T : u_T} {N ci index : Nat} {ty : Nat → FieldType} (hC : CallFix p m c cc nL s args Ts own) (hT : rT D cy lay Γ s) (G : rG D cy lay Γ tm σ A H0 H locs) {k : Nat} (hk : k < 128) {fs : List Value} (he : rX cy lay Γ tm σ k = some (.inr (ci, fs))) (hcl : agCl C T N ci ty) (hin : ∀ w ∈ u_ws C T N, w ∈ Ts) (j : Nat) (hj : j < N) (hl : Cond.fieldLink own index (T j).1 (T j).2.1 (T j).2.2.1 ∈ Ts) (hfin : (T j).2.2.2 = false) (hty : ty j = .int) (hjl : j < fs.length) {v : Int32} {fs' : List Value} (he' : rX cy lay Γ tm (up2 σ k j v) k = some (.inr (ci, fs'))) (hs : fs' = fs.set j (.int v)) (hdg : decode cc pc = .ok (.putfield index, 3))
    (kk : ∀ (H1 : Heap) (locs1 : List Loc), rG D cy lay Γ tm (up2 σ k j v) A H0 H1 locs1 → W p l e R s m args below meth c H1 locs1 cells slots Q (F0 m (pc + 3) ls rest)) : W p l e R s m args below meth c H locs cells slots Q (F0 m pc ls (.int v :: .ref (lay k) :: rest)) := by
  refine g_put hC hT.1 G hk he hcl hin j hj hl hfin (v := .int v) (by rw [hty]; rfl) (by rw [hty]; rfl) hjl hdg (fun H1 locs1 G1 => kk H1 locs1 ?_)
  rw [← hs, r_upd he'] at G1
  exact G1
theorem rg_putN {C : String} {T : u_T} {N ci index : Nat} {ty : Nat → FieldType} (hC : CallFix p m c cc nL s args Ts own) (hT : rT D cy lay Γ s) (G : rG D cy lay Γ tm σ A H0 H locs) {k : Nat} (hk : k < 128) {fs : List Value} (he : rX cy lay Γ tm σ k = some (.inr (ci, fs))) (hcl : agCl C T N ci ty) (hin : ∀ w ∈ u_ws C T N, w ∈ Ts) (j : Nat) (hj : j < N) (q : Nat) (hl : nestR[q]? = some (Cond.fieldLinkNest own index (T j).1 (T j).2.1 (T j).2.2.1 host)) (hfin : (T j).2.2.2 = false) (hty : ty j = .int) (hjl : j < fs.length) {v : Int32} {fs' : List Value} (he' : rX cy lay Γ tm (up2 σ k j v) k = some (.inr (ci, fs'))) (hs : fs' = fs.set j (.int v)) (hdg : decode cc pc = .ok (.putfield index, 3))
    (kk : ∀ (H1 : Heap) (locs1 : List Loc), rG D cy lay Γ tm (up2 σ k j v) A H0 H1 locs1 → W p l e R s m args below meth c H1 locs1 cells slots Q (F0 m (pc + 3) ls rest)) : W p l e R s m args below meth c H locs cells slots Q (F0 m pc ls (.int v :: .ref (lay k) :: rest)) := by
  refine g_putN hC hT.1 G hk he hcl hin j hj (nest_use _ (nestR_ok _ (wm q hl)) (hT.2.1.1 _ (wm q hl))) hfin (v := .int v) (by rw [hty]; rfl) (by rw [hty]; rfl) hjl hdg (fun H1 locs1 G1 => kk H1 locs1 ?_)
  rw [← hs, r_upd he'] at G1
  exact G1
theorem rg_iald (hC : CallFix p m c cc nL s args Ts own) (hT : rT D cy lay Γ s) (G : rG D cy lay Γ tm σ A H0 H locs) {k : Nat} (hk : k < 128) {n : Nat} (he : rX cy lay Γ tm σ k = some (.inl (cy 0, n, .inl (σ k)))) {i : Int32} (hin : vp_in i n) (hdg : decode cc pc = .ok (.iaload, 1))
    (kk : W p l e R s m args below meth c H locs cells slots Q (F0 m (pc + 1) ls (.int (σ k i.toNatClampNeg) :: rest))) : W p l e R s m args below meth c H locs cells slots Q (F0 m pc ls (.int i :: .ref (lay k) :: rest)) := g_iald hC hT.1 G 0 hk he rfl hin hdg kk
theorem rg_zald (hC : CallFix p m c cc nL s args Ts own) (hT : rT D cy lay Γ s) (G : rG D cy lay Γ tm σ A H0 H locs) {k : Nat} (hk : k < 128) {n : Nat} (he : rX cy lay Γ tm σ k = some (.inl (cy 1, n, .inl (σ k)))) {i : Int32} (hin : vp_in i n) (hdg : decode cc pc = .ok (.baload, 1))
    (kk : W p l e R s m args below meth c H locs cells slots Q (F0 m (pc + 1) ls (.int (σ k i.toNatClampNeg) :: rest))) : W p l e R s m args below meth c H locs cells slots Q (F0 m pc ls (.int i :: .ref (lay k) :: rest)) := g_zald hC hT.1 G 1 hk he rfl hin hdg kk
theorem rg_iast (hC : CallFix p m c cc nL s args Ts own) (hT : rT D cy lay Γ s) (G : rG D cy lay Γ tm σ A H0 H locs) {k : Nat} (hk : k < 128) {n : Nat} (he : ∀ σ, rX cy lay Γ tm σ k = some (.inl (cy 0, n, .inl (σ k)))) {i x : Int32} (hin : vp_in i n) (hdg : decode cc pc = .ok (.iastore, 1))
    (kk : ∀ (H1 : Heap) (locs1 : List Loc), rG D cy lay Γ tm (up2 σ k i.toNatClampNeg x) A H0 H1 locs1 → W p l e R s m args below meth c H1 locs1 cells slots Q (F0 m (pc + 1) ls rest)) : W p l e R s m args below meth c H locs cells slots Q (F0 m pc ls (.int x :: .int i :: .ref (lay k) :: rest)) := by
  refine g_iast hC hT.1 G 0 hk (he σ) rfl hin hdg (fun H1 locs1 G1 => kk H1 locs1 ?_)
  rw [← up2_eq, r_upd (he _)] at G1
  exact G1
theorem rg_zast (hC : CallFix p m c cc nL s args Ts own) (hT : rT D cy lay Γ s) (G : rG D cy lay Γ tm σ A H0 H locs) {k : Nat} (hk : k < 128) {n : Nat} (he : ∀ σ, rX cy lay Γ tm σ k = some (.inl (cy 1, n, .inl (σ k)))) {i x : Int32} (hin : vp_in i n) (hdg : decode cc pc = .ok (.bastore, 1))
    (kk : ∀ (H1 : Heap) (locs1 : List Loc), rG D cy lay Γ tm (up2 σ k i.toNatClampNeg (vp_nar .boolean x)) A H0 H1 locs1 → W p l e R s m args below meth c H1 locs1 cells slots Q (F0 m (pc + 1) ls rest)) : W p l e R s m args below meth c H locs cells slots Q (F0 m pc ls (.int x :: .int i :: .ref (lay k) :: rest)) := by
  refine g_zast hC hT.1 G 1 hk (he σ) rfl hin hdg (fun H1 locs1 G1 => kk H1 locs1 ?_)
  rw [← up2_eq, r_upd (he _)] at G1
  exact G1
/-- an element of a list's row -/
theorem rg_aald (hC : CallFix p m c cc nL s args Ts own) (hT : rT D cy lay Γ s) (G : rG D cy lay Γ tm σ A H0 H locs) {k : Nat} (hk : k < 128) {n q : Nat} {f : Nat → Option Nat} (he : rX cy lay Γ tm σ k = some (.inl (cy 7, n, rfS f))) {i : Int32} (hin : vp_in i n) (hf : f i.toNatClampNeg = some q) (hdg : decode cc pc = .ok (.aaload, 1))
    (kk : W p l e R s m args below meth c H locs cells slots Q (F0 m (pc + 1) ls (.ref q :: rest))) : W p l e R s m args below meth c H locs cells slots Q (F0 m pc ls (.int i :: .ref (lay k) :: rest)) := by
  obtain ⟨q0, hq⟩ := gW_pos (lay := lay) hk he
  exact va_aldq hC.1 hC.2.1 hT.1 (gP_list G.1) q0 7 hq rfl hin hdg (by rw [hf]; exact kk)
theorem rg_recv {ci : Nat} {C : String} {T : u_T} {N : Nat} {ty : Nat → FieldType} {fs : List Value} (hT : rT D cy lay Γ s) (G : rG D cy lay Γ tm σ A H0 H locs) {k : Nat} (hk : k < 128) (he : rX cy lay Γ tm σ k = some (.inr (ci, fs))) (hcl : agCl C T N ci ty) : ∃ cell : Cell, H[lay k]? = some cell ∧ cell.vm.isStatics = false ∧ s.vm.findClass C = some cell.cls := by
  obtain ⟨q0, hq⟩ := gW_pos (lay := lay) hk he
  exact va_recv hT.1 (gP_list G.1) hcl.1 hq
theorem rg_runV (hC : CallFix p m c cc nL s args Ts own) (hT : rT D cy lay Γ s) (G : rG D cy lay Γ tn σ (rA cy lay Γ s.heap.size) s.heap H locs) (hM : Met l y ws rm (va_Pc (.ref b :: As) (rI D cy lay Γ σ H.size)) Qc mc ms free) (cw : CallW R s args own Cn index y bytes maxL ret ws rm mc ms n) (hrv : ∃ cell : Cell, H[b]? = some cell ∧ cell.vm.isStatics = false ∧ s.vm.findClass Cn = some cell.cls)
    (hn : As.length = n) (hls : ls.size = nL) (hst : ST = As.reverse ++ .ref b :: rest) (hW : (rest.map fun v => v.category).sum ≤ 8) (hdg : decode cc pc = .ok (.invokevirtual index, 3)) (hf : cells + mc ≤ R.cells ∧ slots + ms ≤ R.slots) :
    va_Run p l e R s m args below meth c H locs cells slots mc ms (F0 m pc ls ST) rest (Qc (.ref b :: As).toArray) free :=
  va_runV hC hM cw ⟨rI_blind, hrv, fun U hU hW => ⟨rfl, rI_next hT G hU hW⟩⟩ rfl hn hls hst (lv_room hW) hdg hf
theorem rg_runS (hC : CallFix p m c cc nL s args Ts own) (hT : rT D cy lay Γ s) (G : rG D cy lay Γ tn σ (rA cy lay Γ s.heap.size) s.heap H locs) (hM : Met l y ws rm (va_Pc As (rI D cy lay Γ σ H.size)) Qc mc ms free) (cw : CallB R s args own index y bytes maxL ret ws rm mc ms n ∧ (Cond.static y).before args s = true)
    (hn : As.length = n) (hls : ls.size = nL) (hst : ST = As.reverse ++ rest) (hW : (rest.map fun v => v.category).sum ≤ 8) (hdg : decode cc pc = .ok (.invokestatic index, 3)) (hf : cells + mc ≤ R.cells ∧ slots + ms ≤ R.slots) :
    va_Run p l e R s m args below meth c H locs cells slots mc ms (F0 m pc ls ST) rest (Qc As.toArray) free :=
  va_runS hC hM cw ⟨rI_blind, fun U hU hW => ⟨rfl, rI_next hT G hU hW⟩⟩ rfl hn hls hst (lv_room hW) hdg hf
theorem rG_of {σ' : MS} {t : State} {H1 : Heap} {locs1 : List Loc} (hB : rO D cy lay Γ σ' t) (ht : t.heap = H1) (hS : va_S (rA cy lay Γ s.heap.size) s.heap H1 locs1) : rG D cy lay Γ tn σ' (rA cy lay Γ s.heap.size) s.heap H1 locs1 := ⟨by rw [← ht]; exact hB.1, rI_of hB.2, hS⟩
theorem rg_i {post : Int32 → MS → Prop} {a : Array Value} (G : rG D cy lay Γ tn σ (rA cy lay Γ s.heap.size) s.heap H locs) (hr : va_Run p l e R s m args below meth c H locs cells slots mc ms (F0 m pc ls ST) rest (va_Qi post (rO D cy lay Γ) (rA cy lay Γ H.size) a) (rA cy lay Γ H.size))
    (kk : ∀ (r : Int32) (σ' : MS) (H1 : Heap) (locs1 : List Loc), post r σ' → rG D cy lay Γ tn σ' (rA cy lay Γ s.heap.size) s.heap H1 locs1 → W p l e R s m args below meth c H1 locs1 (cells + mc) (slots + ms) Q (F0 m (pc + 3) ls (.int r :: rest))) : W p l e R s m args below meth c H locs cells slots Q (F0 m pc ls ST) :=
  va_calli hr G.2.2 (fun q _ h => rA_le G.2.2.1 q h) (rA_le G.2.2.1) (fun r u t H1 locs1 ht hvm hw hB hz hk hS => kk r u H1 locs1 hw (rG_of hB ht hS))
theorem rg_l {post : Int64 → MS → Prop} {a : Array Value} (G : rG D cy lay Γ tn σ (rA cy lay Γ s.heap.size) s.heap H locs) (hr : va_Run p l e R s m args below meth c H locs cells slots mc ms (F0 m pc ls ST) rest (va_Ql post (rO D cy lay Γ) (rA cy lay Γ H.size) a) (rA cy lay Γ H.size))
    (kk : ∀ (r : Int64) (σ' : MS) (H1 : Heap) (locs1 : List Loc), post r σ' → rG D cy lay Γ tn σ' (rA cy lay Γ s.heap.size) s.heap H1 locs1 → W p l e R s m args below meth c H1 locs1 (cells + mc) (slots + ms) Q (F0 m (pc + 3) ls (.long r :: rest))) : W p l e R s m args below meth c H locs cells slots Q (F0 m pc ls ST) :=
  va_calll hr G.2.2 (fun q _ h => rA_le G.2.2.1 q h) (rA_le G.2.2.1) (fun r u t H1 locs1 ht hvm hw hB hz hk hS => kk r u H1 locs1 hw (rG_of hB ht hS))
theorem rg_v {post : MS → Prop} {a : Array Value} (G : rG D cy lay Γ tn σ (rA cy lay Γ s.heap.size) s.heap H locs) (hr : va_Run p l e R s m args below meth c H locs cells slots mc ms (F0 m pc ls ST) rest (va_Qv post (rO D cy lay Γ) (rA cy lay Γ H.size) a) (rA cy lay Γ H.size))
    (kk : ∀ (σ' : MS) (H1 : Heap) (locs1 : List Loc), post σ' → rG D cy lay Γ tn σ' (rA cy lay Γ s.heap.size) s.heap H1 locs1 → W p l e R s m args below meth c H1 locs1 (cells + mc) (slots + ms) Q (F0 m (pc + 3) ls rest)) : W p l e R s m args below meth c H locs cells slots Q (F0 m pc ls ST) :=
  va_callv hr G.2.2 (fun q _ h => rA_le G.2.2.1 q h) (rA_le G.2.2.1) (fun u t H1 locs1 ht hvm hw hB hz hk hS => kk u H1 locs1 hw (rG_of hB ht hS))
/-- behind a call that answers a reference: the f of a number -/
def rQ (post : Nat → MS → Prop) (f : Nat → Nat) (D : va_G) (cy : Nat → ClassId) (lay : Nat → Nat) (Γ : RG) (A : Nat → Prop) : Array Value → State → Outcome → State → Prop := va_Qr (S := Nat × MS) (fun u => post u.1 u.2) (fun u a t => a = f u.1 ∧ rO D cy lay Γ u.2 t) A
theorem rg_r {post : Nat → MS → Prop} {f : Nat → Nat} {a : Array Value} (G : rG D cy lay Γ tn σ (rA cy lay Γ s.heap.size) s.heap H locs) (hr : va_Run p l e R s m args below meth c H locs cells slots mc ms (F0 m pc ls ST) rest (rQ post f D cy lay Γ (rA cy lay Γ H.size) a) (rA cy lay Γ H.size))
    (kk : ∀ (i : Nat) (σ' : MS) (H1 : Heap) (locs1 : List Loc), post i σ' → rG D cy lay Γ tn σ' (rA cy lay Γ s.heap.size) s.heap H1 locs1 → W p l e R s m args below meth c H1 locs1 (cells + mc) (slots + ms) Q (F0 m (pc + 3) ls (.ref (f i) :: rest))) : W p l e R s m args below meth c H locs cells slots Q (F0 m pc ls ST) :=
  va_callr hr G.2.2 (fun q _ h => rA_le G.2.2.1 q h) (rA_le G.2.2.1) (fun u ra t H1 locs1 ht hvm hw hB hz hk hS => by
    obtain ⟨e1, hO⟩ := hB
    rw [e1]
    exact kk u.1 u.2 H1 locs1 hw (rG_of hO ht hS))
theorem rg_ofW {ws' : List Cond} {maxL : Nat} {sz : Nat} {Qc : Nat → Array Value → State → Outcome → State → Prop} (hy : plainName y.cls = true) (hw : ws = Cond.code y cc maxL ret :: ws') (hnl : (lg_sl As).length ≤ maxL) (hoo : y.cls = own)
    (body : ∀ (p : Program) (e : Env) (s : State) (m : MethodId) (args : Array Value) (below : List Frame) (meth : Method) (c : Code) (ls : Array Slot), CallFix p m c cc maxL s args ws own → meth.sig.returnType = ret → meth.locks = false → rT D cy lay Γ s → rG D cy lay Γ tn σ (rA cy lay Γ s.heap.size) s.heap s.heap [] → lv_has ls maxL (lv_args 0 As) →
      W p l e rm s m args below meth c s.heap [] 0 0 (MQ below (Qc s.heap.size) args s mc ms (rA cy lay Γ s.heap.size)) (F0 m 0 ls [])) : Met l y ws rm (va_Pc As (rI D cy lay Γ σ sz)) (Qc sz) mc ms (rA cy lay Γ sz) := by
  refine Met.ofW (cc := cc) (maxL := maxL) (ret := ret) hy hw ?_
  intro p e s m args below meth c s₁ B hml hv
  obtain ⟨rfl, hsz, hT, hP, hD⟩ := hv
  subst hsz
  have hl := lv_entry As (n := maxL) hnl
  rw [lg_entry_eq]
  have hown : s.vm.findClass y.cls = some m.cls := findClass_of_methodNamed B.named
  rw [hoo] at hown
  exact body p e s m As.toArray below meth c _ ⟨B.exec, B.bytes, hml, hown, atoms_spec (ws := ws) B.pre⟩ B.returns B.notSynchronized hT ⟨hP, rI_of hD, va_S.rf⟩ hl
theorem rg_iret {post : Int32 → MS → Prop} {v : Int32} {locs : List Loc} (hC : CallFix p m c cc nL s args Ts own) (hr : meth.sig.returnType = some .int) (hlocks : meth.locks = false) (G : rG D cy lay Γ tn σ (rA cy lay Γ s.heap.size) s.heap H locs) (h : post v σ) (hdg : decode cc pc = .ok (.ireturn, 1)) :
    W p l e R s m args below meth c H locs cells slots (MQ below (va_Qi post (rO D cy lay Γ) (rA cy lay Γ s.heap.size)) args s cells slots (rA cy lay Γ s.heap.size)) (F0 m pc ls [.int v]) :=
  W.iret (v := v) hC.1 hC.2.1 hr (fun t ht hW => ⟨⟨v, σ, rfl, h, rO_G G ht⟩, G.2.2.F ht⟩) G.2.2.2.2 hdg hlocks
theorem rg_zret {post : Int32 → MS → Prop} {v : Int32} {locs : List Loc} (hC : CallFix p m c cc nL s args Ts own) (hr : meth.sig.returnType = some .boolean) (hlocks : meth.locks = false) (G : rG D cy lay Γ tn σ (rA cy lay Γ s.heap.size) s.heap H locs) (hn : narrow .boolean (.int v) = .int v) (h : post v σ) (hdg : decode cc pc = .ok (.ireturn, 1)) :
    W p l e R s m args below meth c H locs cells slots (MQ below (va_Qi post (rO D cy lay Γ) (rA cy lay Γ s.heap.size)) args s cells slots (rA cy lay Γ s.heap.size)) (F0 m pc ls [.int v]) :=
  W.zret (v := v) hC.1 hC.2.1 hr hn (fun t ht hW => ⟨⟨v, σ, rfl, h, rO_G G ht⟩, G.2.2.F ht⟩) G.2.2.2.2 hdg hlocks
theorem rg_lret {post : Int64 → MS → Prop} {v : Int64} {locs : List Loc} (hC : CallFix p m c cc nL s args Ts own) (hr : meth.sig.returnType = some .long) (hlocks : meth.locks = false) (G : rG D cy lay Γ tn σ (rA cy lay Γ s.heap.size) s.heap H locs) (h : post v σ) (hdg : decode cc pc = .ok (.lreturn, 1)) :
    W p l e R s m args below meth c H locs cells slots (MQ below (va_Ql post (rO D cy lay Γ) (rA cy lay Γ s.heap.size)) args s cells slots (rA cy lay Γ s.heap.size)) (F0 m pc ls [.long v]) :=
  W.lret (v := v) hC.1 hC.2.1 hr (fun t ht hW => ⟨⟨v, σ, rfl, h, rO_G G ht⟩, G.2.2.F ht⟩) G.2.2.2.2 hdg hlocks
theorem rg_vret {post : MS → Prop} {locs : List Loc} (hC : CallFix p m c cc nL s args Ts own) (hr : meth.sig.returnType = none) (hlocks : meth.locks = false) (G : rG D cy lay Γ tn σ (rA cy lay Γ s.heap.size) s.heap H locs) (h : post σ) (hdg : decode cc pc = .ok (.return_, 1)) :
    W p l e R s m args below meth c H locs cells slots (MQ below (va_Qv post (rO D cy lay Γ) (rA cy lay Γ s.heap.size)) args s cells slots (rA cy lay Γ s.heap.size)) (F0 m pc ls []) :=
  W.vret hC.1 hC.2.1 hr (fun t ht hW => ⟨⟨σ, rfl, h, rO_G G ht⟩, G.2.2.F ht⟩) G.2.2.2.2 hdg hlocks
theorem rg_rret {post : Nat → MS → Prop} {f : Nat → Nat} {i : Nat} {rt : FieldType} {locs : List Loc} (hC : CallFix p m c cc nL s args Ts own) (hr : meth.sig.returnType = some rt) (hrt : (∃ n, rt = .object n) ∨ ∃ t, rt = .array t) (hlocks : meth.locks = false) (G : rG D cy lay Γ tn σ (rA cy lay Γ s.heap.size) s.heap H locs) (h : post i σ) (hdg : decode cc pc = .ok (.areturn, 1)) :
    W p l e R s m args below meth c H locs cells slots (MQ below (rQ post f D cy lay Γ (rA cy lay Γ s.heap.size)) args s cells slots (rA cy lay Γ s.heap.size)) (F0 m pc ls [.ref (f i)]) :=
  W.aret (v := .ref (f i)) hC.1 hC.2.1 hr hrt (Or.inr ⟨_, rfl⟩) (fun t ht hW => ⟨⟨(i, σ), f i, rfl, h, rfl, rO_G G ht⟩, G.2.2.F ht⟩) G.2.2.2.2 hdg hlocks
/-- a reference is of the class that it is cast to -/
theorem rg_cast {ci : Nat} {C : String} {T : u_T} {N : Nat} {ty : Nat → FieldType} (hC : CallFix p m c cc nL s args Ts own) (hT : rT D cy lay Γ s) (hcl : agCl C T N ci ty) (hlk : Cond.classLink own index C ∈ Ts) {a : Nat} (hr : ∃ cell : Cell, H[a]? = some cell ∧ cell.vm.isStatics = false ∧ s.vm.findClass C = some cell.cls) (hdg : decode cc pc = .ok (.checkcast index, 3))
    (k : W p l e R s m args below meth c H locs cells slots Q (F0 m (pc + 3) ls (.ref a :: rest))) : W p l e R s m args below meth c H locs cells slots Q (F0 m pc ls (.ref a :: rest)) :=
  va_castS hC.1 hC.2.1 hC.2.2.2.1 (hC.2.2.2.2 _ hlk) (hT.1.1 ci _ hcl.1).2 hr hdg k
/-- a band's shape is an Integer -/
theorem rg_recvI (hT : rT D cy lay Γ s) (G : rG D cy lay Γ tm σ (rA cy lay Γ s.heap.size) s.heap H locs) {i : Nat} (hi : i < Γ.2.1) : ∃ cell : Cell, H[Γ.2.2.2.2.1 i]? = some cell ∧ cell.vm.isStatics = false ∧ s.vm.findClass RJ6 = some cell.cls :=
  (by
    obtain ⟨cell, a1, a2, a3, -⟩ := ((rS_kept hT.2.2.1 G.2.2.2.1 (fun q hq => rA_le G.2.2.1 q)).2 i hi).1
    exact ⟨cell, a1, a2, a3⟩)
theorem rg_getI (hC : CallFix p m c cc nL s args Ts own) (hT : rT D cy lay Γ s) (G : rG D cy lay Γ tm σ (rA cy lay Γ s.heap.size) s.heap H locs) {i : Nat} (hi : i < Γ.2.1) (hin : ∀ w ∈ u_ws RJ6 TJ6 1, w ∈ Ts) (hl : Cond.fieldLink own index (TJ6 0).1 (TJ6 0).2.1 (TJ6 0).2.2.1 ∈ Ts) (hdg : decode cc pc = .ok (.getfield index, 3))
    (kk : W p l e R s m args below meth c H locs cells slots Q (F0 m (pc + 3) ls (.int (Γ.2.2.2.2.2 i) :: rest))) : W p l e R s m args below meth c H locs cells slots Q (F0 m pc ls (.ref (Γ.2.2.2.2.1 i) :: rest)) :=
  va_getX (o := RJ6) (n := "value") (d := "I") (ref := RJ6) (N := Γ.2.1) (v := fun i => .int (Γ.2.2.2.2.2 i)) (ad := Γ.2.2.2.2.1) hC.1 hC.2.1 (fun i hi => (hT.2.2.1.2 i hi).2) hi G.2.2 hC.2.2.2.1 (hC.2.2.2.2 _ hl) (fun _ h => h) hdg kk
theorem r_sum {v : Int64} : gU (rX cy lay Γ tm σ) 0 (some (.inr (16, (Lmo lay (σ 0)).set 12 (.long v)))) = rX cy lay Γ tm (up2 (up2 σ 0 12 (hi32 v)) 0 13 (lo32 v)) := by
  funext i
  by_cases h : i = 0
  · subst h
    rw [gU_eq]
    show _ = some (Sum.inr (16, Lmo lay (up2 (up2 σ 0 12 (hi32 v)) 0 13 (lo32 v) 0)))
    have e : ∀ j, j < 12 → up2 (up2 σ 0 12 (hi32 v)) 0 13 (lo32 v) 0 j = σ 0 j := fun j hj => by
      show (if j = 13 then _ else (if (0 : Nat) = 0 then upd (σ 0) 12 (hi32 v) else σ 0) j) = _
      rw [if_neg (by omega)]
      show (if j = 12 then _ else σ 0 j) = _
      rw [if_neg (by omega)]
    have e12 : up2 (up2 σ 0 12 (hi32 v)) 0 13 (lo32 v) 0 12 = hi32 v := rfl
    have e13 : up2 (up2 σ 0 12 (hi32 v)) 0 13 (lo32 v) 0 13 = lo32 v := rfl
    unfold Lmo
    rw [e 0 (by decide), e 1 (by decide), e 2 (by decide), e12, e13, m64_of]
    rfl
  · rw [gU_ne h]
    exact (r_loc ((up2_ne h).trans (up2_ne h))).symm
theorem rg_putS (hC : CallFix p m c cc nL s args Ts own) (hT : rT D cy lay Γ s) (G : rG D cy lay Γ tm σ A H0 H locs) (hin : ∀ w ∈ u_ws RX11 TX11 13, w ∈ Ts) (hl : Cond.fieldLink own index (TX11 12).1 (TX11 12).2.1 (TX11 12).2.2.1 ∈ Ts) {v : Int64} (hdg : decode cc pc = .ok (.putfield index, 3))
    (kk : ∀ (H1 : Heap) (locs1 : List Loc), rG D cy lay Γ tm (up2 (up2 σ 0 12 (hi32 v)) 0 13 (lo32 v)) A H0 H1 locs1 → W p l e R s m args below meth c H1 locs1 cells slots Q (F0 m (pc + 3) ls rest)) : W p l e R s m args below meth c H locs cells slots Q (F0 m pc ls (.long v :: .ref (lay 0) :: rest)) := by
  refine g_put hC hT.1 G (by decide) r_mo k_X11 hin 12 (by decide) hl rfl (v := .long v) rfl rfl (by simp) hdg (fun H1 locs1 G1 => kk H1 locs1 ?_)
  rw [r_sum] at G1
  exact G1
end RROWS
end
section
/-! THE REFERENCE: what a method makes for itself, in cells 64 on -/
def Lsm (lay lay' : Nat → Nat) : Prop := ∀ j, j < 64 → lay' j = lay j
theorem rX_lay {cy : Nat → ClassId} {lay lay' : Nat → Nat} {Γ : RG} {tm tm' : Nat → Option (Nat × Nat)} {σ : MS} (hB : rB Γ) (h : Lsm lay lay') {k : Nat} (hk : k < 64) : rX cy lay' Γ tm' σ k = rX cy lay Γ tm σ k := by
  have e1 : (fun i => if i < Γ.1 then some (lay' (13 + i)) else none) = (fun i => if i < Γ.1 then some (lay (13 + i)) else none) := funext fun i => by
    by_cases c : i < Γ.1
    · rw [if_pos c, if_pos c, h _ (by have := hB.1; omega)]
    · rw [if_neg c, if_neg c]
  have e2 : (fun i => if i < Γ.2.2.1 then some (lay' (33 + i)) else none) = (fun i => if i < Γ.2.2.1 then some (lay (33 + i)) else none) := funext fun i => by
    by_cases c : i < Γ.2.2.1
    · rw [if_pos c, if_pos c, h _ (by have := hB.2.2; omega)]
    · rw [if_neg c, if_neg c]
  unfold rX rL
  by_cases c0 : k = 0
  · rw [if_pos c0, if_pos c0]
    unfold Lmo
    rw [h 1 (by decide), h 2 (by decide), h 3 (by decide), h 7 (by decide), h 8 (by decide), h 9 (by decide), h 10 (by decide), h 11 (by decide), h 12 (by decide)]
  rw [if_neg c0, if_neg c0, h 4 (by decide), h 5 (by decide), h 6 (by decide), e1, e2]
  by_cases c1 : k = 1
  · simp [c1]
  by_cases c2 : k = 2
  · simp [c2]
  by_cases c3 : k = 3
  · simp [c3]
  by_cases c4 : k = 4
  · simp [c4]
  by_cases c5 : k = 5
  · simp [c5]
  by_cases c6 : k = 6
  · simp [c6]
  by_cases c7 : k < 11
  · simp [c0, c1, c2, c3, c4, c5, c6, c7]
  by_cases c8 : k < 13
  · simp [c0, c1, c2, c3, c4, c5, c6, c7, c8]
  by_cases c9 : k < 23
  · have e3 : lay' (23 + (k - 13)) = lay (23 + (k - 13)) := h _ (by omega)
    simp [c0, c1, c2, c3, c4, c5, c6, c7, c8, c9, Lrp, e3]
  by_cases c10 : k < 33
  · simp [c0, c1, c2, c3, c4, c5, c6, c7, c8, c9, c10]
  by_cases c11 : k < 47
  · simp [c0, c1, c2, c3, c4, c5, c6, c7, c8, c9, c10, c11]
  simp [c0, c1, c2, c3, c4, c5, c6, c7, c8, c9, c10, c11, hk]
theorem rA_lay {cy : Nat → ClassId} {lay lay' : Nat → Nat} {Γ : RG} (h : Lsm lay lay') (n : Nat) : rA cy lay' Γ n = rA cy lay Γ n := by
  funext q
  apply propext
  unfold rA
  constructor
  · rintro (⟨k, hk, hs, rfl⟩ | z)
    · exact Or.inl ⟨k, hk, by rw [r_some (lay' := lay') (tm' := tn) (σ' := fun _ _ => 0) hk]; exact hs, h k hk⟩
    · exact Or.inr z
  · rintro (⟨k, hk, hs, rfl⟩ | z)
    · exact Or.inl ⟨k, hk, by rw [r_some (lay' := lay) (tm' := tn) (σ' := fun _ _ => 0) hk]; exact hs, (h k hk).symm⟩
    · exact Or.inr z
theorem rX_tn {cy : Nat → ClassId} {lay : Nat → Nat} {Γ : RG} {σ : MS} {k : Nat} {e : va_E} (h : rX cy lay Γ tn σ k = some e) : k < 64 := by
  by_cases h64 : k < 64
  · exact h64
  · rw [r_tm (by omega)] at h
    exact absurd h (by unfold tn; simp)
theorem gP_lay {D : va_G} {cy : Nat → ClassId} {lay lay' : Nat → Nat} {Γ : RG} {σ : MS} {H : Heap} (hB : rB Γ) (h : Lsm lay lay') (hP : gP D lay (rX cy lay Γ tn σ) H) : gP D lay' (rX cy lay' Γ tn σ) H := fun k e hk hX => by
  have h64 := rX_tn hX
  rw [h k h64]
  rw [rX_lay (tm := tn) hB h h64] at hX
  exact hP k e hk hX
theorem gI_lay {A : Nat → Prop} {cy : Nat → ClassId} {lay lay' : Nat → Nat} {Γ : RG} {σ : MS} (hB : rB Γ) (h : Lsm lay lay') (hI : gI A lay (rX cy lay Γ tn σ)) : gI A lay' (rX cy lay' Γ tn σ) := by
  refine ⟨fun i j e f hi hj hX hY hq => ?_, fun k e hk hX => ?_⟩
  · have h1 := rX_tn hX
    have h2 := rX_tn hY
    rw [rX_lay (tm := tn) hB h h1] at hX
    rw [rX_lay (tm := tn) hB h h2] at hY
    rw [h i h1, h j h2] at hq
    exact hI.1 i j e f hi hj hX hY hq
  · have h1 := rX_tn hX
    rw [rX_lay (tm := tn) hB h h1] at hX
    rw [h k h1]
    exact hI.2 k e hk hX
theorem Lsm.sy {lay lay' : Nat → Nat} (h : Lsm lay lay') : Lsm lay' lay := fun j hj => (h j hj).symm
theorem rO_lay {D : va_G} {cy : Nat → ClassId} {lay lay' : Nat → Nat} {Γ : RG} (hB : rB Γ) (h : Lsm lay lay') : rO D cy lay' Γ = rO D cy lay Γ := by
  funext σ t
  apply propext
  exact ⟨fun z => ⟨gP_lay hB h.sy z.1, gI_lay hB h.sy z.2⟩, fun z => ⟨gP_lay hB h z.1, gI_lay hB h z.2⟩⟩
theorem rT_lay {D : va_G} {cy : Nat → ClassId} {lay lay' : Nat → Nat} {Γ : RG} {s : State} (h : Lsm lay lay') (hT : rT D cy lay Γ s) : rT D cy lay' Γ s := by
  refine ⟨hT.1, hT.2.1, ?_, hT.2.2.2⟩
  rw [rA_lay h]
  exact hT.2.2.1
theorem r_ti {cy : Nat → ClassId} {lay : Nat → Nat} {Γ : RG} {tm : Nat → Option (Nat × Nat)} {σ : MS} {k n : Nat} (hk : 64 ≤ k) (h : tm k = some (0, n)) : rX cy lay Γ tm σ k = some (.inl (cy 0, n, .inl (σ k))) := by
  rw [r_tm hk, h]
  rfl
theorem r_tz {cy : Nat → ClassId} {lay : Nat → Nat} {Γ : RG} {tm : Nat → Option (Nat × Nat)} {σ : MS} {k n : Nat} (hk : 64 ≤ k) (h : tm k = some (1, n)) : rX cy lay Γ tm σ k = some (.inl (cy 1, n, .inl (σ k))) := by
  rw [r_tm hk, h]
  rfl
/-- a row of the state, laid anew -/
def rw0 (σ : MS) (k : Nat) (f : Nat → Int32) : MS := fun i => if i = k then f else σ i
theorem rw0_eq {σ : MS} {k : Nat} {f : Nat → Int32} : rw0 σ k f k = f := if_pos rfl
theorem rw0_ne {σ : MS} {k i : Nat} {f : Nat → Int32} (h : i ≠ k) : rw0 σ k f i = σ i := if_neg h
/-- a callee's numbers below 64, one's own above -/
def mrg (σ' σ : MS) : MS := fun k => if k < 64 then σ' k else σ k
theorem mrg_lo {σ' σ : MS} {k : Nat} (h : k < 64) : mrg σ' σ k = σ' k := if_pos h
theorem mrg_hi {σ' σ : MS} {k : Nat} (h : 64 ≤ k) : mrg σ' σ k = σ k := if_neg (by omega)
section RTEMP
variable {p : Program} {l : Launch} {e : Env} {R : Room} {s : State} {m : MethodId} {args : Array Value} {below : List Frame} {meth : Method} {c : Code} {H : Heap} {locs : List Loc} {cells slots : Nat} {Q : State → Prop}
variable {cc bytes : ByteArray} {pc nL maxL mc ms n index : Nat} {ls : Array Slot} {ST rest As : List Value} {D : va_G} {cy : Nat → ClassId} {lay : Nat → Nat} {Γ : RG} {tm : Nat → Option (Nat × Nat)} {σ : MS} {Ts ws : List Cond} {own Cn host : String} {y : MethodName} {ret : Option FieldType} {rm : Room} {b : Addr}
variable {Qc : Array Value → State → Outcome → State → Prop} {free : Addr → Prop}
theorem rTm_lay {lay' : Nat → Nat} {t : Nat × Nat} {f : Nat → Int32} (ht : t.1 < 2 ∨ t.2 < 64) (h : Lsm lay lay') : rTm cy lay f t = rTm cy lay' f t := by
  unfold rTm
  split
  · rfl
  · split
    · rfl
    · rw [h t.2 (by omega)]
/-- the world with a new row in cell k -/
theorem rX_new {lay' : Nat → Nat} {k : Nat} {t : Nat × Nat} {f : Nat → Int32} (hB : rB Γ) (hk : 64 ≤ k) (ht : t.1 < 2 ∨ t.2 < 64) (hl : ∀ j, j ≠ k → lay' j = lay j) (ho : ∀ j, 64 ≤ j → ∀ x, tm j = some x → x.1 < 2 ∨ x.2 < 64) : ∀ j, gU (rX cy lay Γ tm σ) k (some (rTm cy lay f t)) j = rX cy lay' Γ (gU tm k (some t)) (rw0 σ k f) j := fun j => by
  by_cases h : j = k
  · subst h
    rw [gU_eq, r_tm hk, gU_eq, rw0_eq]
    exact congrArg some (rTm_lay ht (fun i hi => hl i (by omega)))
  · rw [gU_ne h]
    by_cases h64 : j < 64
    · rw [rX_lay (tm := tm) hB (fun i hi => hl i (by omega)) h64]
      exact (r_loc (rw0_ne h)).symm
    · rw [r_tm (by omega), r_tm (by omega), gU_ne h, rw0_ne h]
      cases hx : tm j with
      | none => rfl
      | some x =>
        exact congrArg some (rTm_lay (ho j (by omega) x hx) (fun i hi => hl i (by omega)))
/-- every row is of ints or booleans -/
def tmO (tm : Nat → Option (Nat × Nat)) : Prop := ∀ j, 64 ≤ j → ∀ x, tm j = some x → x.1 < 2 ∨ x.2 < 64
theorem tmO_n : tmO tn := fun j _ x hx => by cases hx
theorem tmO_u {k : Nat} {t : Nat × Nat} (h : tmO tm) (ht : t.1 < 2 ∨ t.2 < 64) : tmO (gU tm k (some t)) := fun j hj x hx => by
  by_cases e : j = k
  · subst e
    rw [gU_eq] at hx
    cases hx
    exact ht
  · rw [gU_ne e] at hx
    exact h j hj x hx
/-- what a method's end says, whichever of two layouts it is told in -/
def QL (Q : (Nat → Nat) → State → Prop) : Prop := ∀ lay lay', Lsm lay lay' → Q lay' = Q lay
theorem rg_newi {Q : (Nat → Nat) → State → Prop} (hQ : QL Q) (hC : CallFix p m c cc nL s args Ts own) (hT : rT D cy lay Γ s) (G : rG D cy lay Γ tm σ (rA cy lay Γ s.heap.size) s.heap H locs) (hO : tmO tm) {k : Nat} (hk : 64 ≤ k) (hk2 : k < 128) (hX : tm k = none) (harr : Cond.arrayClass .int ∈ Ts) {v : Int32} {N : Nat} (hn : ¬ v < 0) (hN : v.toNatClampNeg = N) (hb : N ≤ 1000) (hcells : cells + 1 ≤ R.cells) (hslots : slots + N ≤ R.slots) (hdg : decode cc pc = .ok (.newarray .int, 2))
    (kk : ∀ (lay' : Nat → Nat), (∀ j, j ≠ k → lay' j = lay j) → rT D cy lay' Γ s → ∀ (H1 : Heap), rG D cy lay' Γ (gU tm k (some (0, N))) (rw0 σ k (fun _ => 0)) (rA cy lay' Γ s.heap.size) s.heap H1 locs → W p l e R s m args below meth c H1 locs (cells + 1) (slots + N) (Q lay') (F0 m (pc + 2) ls (.ref (lay' k) :: rest))) : W p l e R s m args below meth c H locs cells slots (Q lay) (F0 m pc ls (.int v :: rest)) := by
  have hX0 : rX cy lay Γ tm σ k = none := by rw [r_tm hk, hX]; rfl
  refine va_newa (atype := .int) (ty := .int) hC.1 hC.2.1 (hC.2.2.2.2 _ harr) rfl hT.1 (gP_list G.1) (gI_list G.2.1) G.2.2 (fun q hq => Or.inr hq) (a0 := (N, .inl (fun _ => 0))) (fun _ => rfl) hn hN (by show N * componentBytes .int ≤ 536870912; have : componentBytes .int ≤ 8 := (by decide); exact Nat.le_trans (Nat.mul_le_mul hb this) (by decide)) hcells hslots hdg (fun q cA H1 hK' hP hD hS => ?_)
  have h1 := (hK'.2 (fdT cy).length (cA, .int) (by rw [List.getElem?_append_right (Nat.le_refl _), Nat.sub_self]; rfl)).2
  have h2 := (hT.1.2 0 (cy 0, .int) rfl).2
  have hc : cA = cy 0 := Option.some.inj (Eq.trans (Eq.symm h1) h2)
  subst hc
  have hl : ∀ j, j ≠ k → gU lay k q j = lay j := fun j hj => gU_ne hj
  have hL : Lsm lay (gU lay k q) := fun j hj => hl j (by omega)
  have hG : gG D (gU lay k q) (gU (rX cy lay Γ tm σ) k (some (.inl (cy 0, N, .inl (fun _ => 0))))) (rA cy lay Γ s.heap.size) s.heap H1 locs := ⟨gP_new hX0 hP, gI_new G.2.1 hX0 hD, hS⟩
  have h := kk (gU lay k q) hl (rT_lay hL hT) H1 (by
    rw [rA_lay hL]
    exact gG_eq (fun j _ => rX_new (t := (0, N)) (f := fun _ => 0) hT.2.2.2 hk (Or.inl (Nat.le_of_ble_eq_true rfl)) hl hO j) hG)
  rw [hQ lay _ hL, gU_eq] at h
  exact h
theorem rg_newz {Q : (Nat → Nat) → State → Prop} (hQ : QL Q) (hC : CallFix p m c cc nL s args Ts own) (hT : rT D cy lay Γ s) (G : rG D cy lay Γ tm σ (rA cy lay Γ s.heap.size) s.heap H locs) (hO : tmO tm) {k : Nat} (hk : 64 ≤ k) (hk2 : k < 128) (hX : tm k = none) (harr : Cond.arrayClass .boolean ∈ Ts) {v : Int32} {N : Nat} (hn : ¬ v < 0) (hN : v.toNatClampNeg = N) (hb : N ≤ 1000) (hcells : cells + 1 ≤ R.cells) (hslots : slots + N ≤ R.slots) (hdg : decode cc pc = .ok (.newarray .boolean, 2))
    (kk : ∀ (lay' : Nat → Nat), (∀ j, j ≠ k → lay' j = lay j) → rT D cy lay' Γ s → ∀ (H1 : Heap), rG D cy lay' Γ (gU tm k (some (1, N))) (rw0 σ k (fun _ => 0)) (rA cy lay' Γ s.heap.size) s.heap H1 locs → W p l e R s m args below meth c H1 locs (cells + 1) (slots + N) (Q lay') (F0 m (pc + 2) ls (.ref (lay' k) :: rest))) : W p l e R s m args below meth c H locs cells slots (Q lay) (F0 m pc ls (.int v :: rest)) := by
  have hX0 : rX cy lay Γ tm σ k = none := by rw [r_tm hk, hX]; rfl
  refine va_newa (atype := .boolean) (ty := .boolean) hC.1 hC.2.1 (hC.2.2.2.2 _ harr) rfl hT.1 (gP_list G.1) (gI_list G.2.1) G.2.2 (fun q hq => Or.inr hq) (a0 := (N, .inl (fun _ => 0))) (fun _ => rfl) hn hN (by show N * componentBytes .boolean ≤ 536870912; have : componentBytes .boolean ≤ 8 := (by decide); exact Nat.le_trans (Nat.mul_le_mul hb this) (by decide)) hcells hslots hdg (fun q cA H1 hK' hP hD hS => ?_)
  have h1 := (hK'.2 (fdT cy).length (cA, .boolean) (by rw [List.getElem?_append_right (Nat.le_refl _), Nat.sub_self]; rfl)).2
  have h2 := (hT.1.2 1 (cy 1, .boolean) rfl).2
  have hc : cA = cy 1 := Option.some.inj (Eq.trans (Eq.symm h1) h2)
  subst hc
  have hl : ∀ j, j ≠ k → gU lay k q j = lay j := fun j hj => gU_ne hj
  have hL : Lsm lay (gU lay k q) := fun j hj => hl j (by omega)
  have hG : gG D (gU lay k q) (gU (rX cy lay Γ tm σ) k (some (.inl (cy 1, N, .inl (fun _ => 0))))) (rA cy lay Γ s.heap.size) s.heap H1 locs := ⟨gP_new hX0 hP, gI_new G.2.1 hX0 hD, hS⟩
  have h := kk (gU lay k q) hl (rT_lay hL hT) H1 (by
    rw [rA_lay hL]
    exact gG_eq (fun j _ => rX_new (t := (1, N)) (f := fun _ => 0) hT.2.2.2 hk (Or.inl (Nat.le_of_ble_eq_true rfl)) hl hO j) hG)
  rw [hQ lay _ hL, gU_eq] at h
  exact h
theorem rg_alen (hC : CallFix p m c cc nL s args Ts own) (hT : rT D cy lay Γ s) (G : rG D cy lay Γ tm σ (rA cy lay Γ s.heap.size) s.heap H locs) {k : Nat} (hk : k < 128) {n : Nat} (he : rX cy lay Γ tm σ k = some (.inl (cy 0, n, .inl (σ k)))) (hdg : decode cc pc = .ok (.arraylength, 1))
    (kk : W p l e R s m args below meth c H locs cells slots Q (F0 m (pc + 1) ls (.int (nI n) :: rest))) : W p l e R s m args below meth c H locs cells slots Q (F0 m pc ls (.ref (lay k) :: rest)) := by
  obtain ⟨q0, hq⟩ := gW_pos (lay := lay) hk he
  exact va_alen hC.1 hC.2.1 hT.1 (gP_list G.1) q0 0 hq rfl rfl hdg kk
theorem rg_alenz (hC : CallFix p m c cc nL s args Ts own) (hT : rT D cy lay Γ s) (G : rG D cy lay Γ tm σ (rA cy lay Γ s.heap.size) s.heap H locs) {k : Nat} (hk : k < 128) {n : Nat} (he : rX cy lay Γ tm σ k = some (.inl (cy 1, n, .inl (σ k)))) (hdg : decode cc pc = .ok (.arraylength, 1))
    (kk : W p l e R s m args below meth c H locs cells slots Q (F0 m (pc + 1) ls (.int (nI n) :: rest))) : W p l e R s m args below meth c H locs cells slots Q (F0 m pc ls (.ref (lay k) :: rest)) := by
  obtain ⟨q0, hq⟩ := gW_pos (lay := lay) hk he
  exact va_alen hC.1 hC.2.1 hT.1 (gP_list G.1) q0 1 hq rfl rfl hdg kk
/-- without what the method made for itself -/
theorem rG_drop (G : rG D cy lay Γ tm σ (rA cy lay Γ s.heap.size) s.heap H locs) (hB : rB Γ) : rG D cy lay Γ tn σ (rA cy lay Γ s.heap.size) s.heap H locs := by
  have e : ∀ k e, rX cy lay Γ tn σ k = some e → rX cy lay Γ tm σ k = some e := fun k e h => by
    rw [rX_lay (tm := tn) hB (fun _ _ => rfl) (rX_tn h)]
    exact h
  exact ⟨fun k x hk hX => G.1 k x hk (e k x hX), ⟨fun i j x y hi hj hX hY hq => G.2.1.1 i j x y hi hj (e i x hX) (e j y hY) hq, fun k x hk hX => G.2.1.2 k x hk (e k x hX)⟩, G.2.2⟩
/-- a callee's world put back beside what the method made for itself -/
theorem rG_mrg {σ' : MS} {t : State} {H1 : Heap} {locs1 : List Loc} (hT : rT D cy lay Γ s) (G : rG D cy lay Γ tm σ (rA cy lay Γ s.heap.size) s.heap H locs) (hB : rO D cy lay Γ σ' t) (ht : t.heap = H1) (hk : ∀ q : Nat, q < H.size → ¬ rA cy lay Γ H.size q → H1[q]? = H[q]?) (hS : va_S (rA cy lay Γ s.heap.size) s.heap H1 locs1) : rG D cy lay Γ tm (mrg σ' σ) (rA cy lay Γ s.heap.size) s.heap H1 locs1 := by
  have lo : ∀ k, k < 64 → rX cy lay Γ tm (mrg σ' σ) k = rX cy lay Γ tn σ' k := fun k h => by
    rw [r_loc (mrg_lo h), rX_lay (tm := tn) hT.2.2.2 (fun _ _ => rfl) h]
  have hi : ∀ k, 64 ≤ k → rX cy lay Γ tm (mrg σ' σ) k = rX cy lay Γ tm σ k := fun k h => r_loc (mrg_hi h)
  have some64 : ∀ k x, k < 64 → rX cy lay Γ tm (mrg σ' σ) k = some x → ∃ y, rX cy lay Γ tm σ k = some y := fun k x h hx => by
    have h2 := r_some (cy := cy) (lay := lay) (lay' := lay) (Γ := Γ) (tm := tm) (tm' := tm) (σ := mrg σ' σ) (σ' := σ) h
    rw [hx] at h2
    cases q : rX cy lay Γ tm σ k with
    | none => rw [q] at h2; cases h2
    | some y => exact ⟨y, rfl⟩
  have some' : ∀ k x, rX cy lay Γ tm (mrg σ' σ) k = some x → ∃ y, rX cy lay Γ tm σ k = some y := fun k x hx => by
    by_cases h : k < 64
    · exact some64 k x h hx
    · rw [hi k (by omega)] at hx
      exact ⟨x, hx⟩
  refine ⟨fun k x hk2 hX => ?_, ⟨fun i j x y hi2 hj2 hX hY hq => ?_, fun k x hk2 hX => ?_⟩, hS⟩
  · by_cases h : k < 64
    · rw [lo k h] at hX
      rw [← ht]
      exact hB.1 k x hk2 hX
    · rw [hi k (by omega)] at hX
      have hat := G.1 k x hk2 hX
      refine hat.kept (hk _ hat.lt fun z => ?_)
      rcases z with ⟨j, hj, hs, hq⟩ | z
      · have h2 := r_some (cy := cy) (lay := lay) (lay' := lay) (Γ := Γ) (tm := tn) (tm' := tm) (σ := fun _ _ => 0) (σ' := σ) hj
        rw [hs] at h2
        cases q : rX cy lay Γ tm σ j with
        | none => rw [q] at h2; cases h2
        | some y =>
          have := G.2.1.1 k j x y hk2 (by omega) hX q hq
          omega
      · exact absurd z (Nat.not_le.mpr hat.lt)
  · obtain ⟨x', hx'⟩ := some' i x hX
    obtain ⟨y', hy'⟩ := some' j y hY
    exact G.2.1.1 i j x' y' hi2 hj2 hx' hy' hq
  · obtain ⟨x', hx'⟩ := some' k x hX
    exact G.2.1.2 k x' hk2 hx'
theorem rg_iM {post : Int32 → MS → Prop} {a : Array Value} (hT : rT D cy lay Γ s) (G : rG D cy lay Γ tm σ (rA cy lay Γ s.heap.size) s.heap H locs) (hr : va_Run p l e R s m args below meth c H locs cells slots mc ms (F0 m pc ls ST) rest (va_Qi post (rO D cy lay Γ) (rA cy lay Γ H.size) a) (rA cy lay Γ H.size))
    (kk : ∀ (r : Int32) (σ' : MS) (H1 : Heap) (locs1 : List Loc), post r σ' → rG D cy lay Γ tm (mrg σ' σ) (rA cy lay Γ s.heap.size) s.heap H1 locs1 → W p l e R s m args below meth c H1 locs1 (cells + mc) (slots + ms) Q (F0 m (pc + 3) ls (.int r :: rest))) : W p l e R s m args below meth c H locs cells slots Q (F0 m pc ls ST) :=
  va_calli hr G.2.2 (fun q _ h => rA_le G.2.2.1 q h) (rA_le G.2.2.1) (fun r u t H1 locs1 ht hvm hw hB hz hk hS => kk r u H1 locs1 hw (rG_mrg hT G hB ht hk hS))
theorem rg_vM {post : MS → Prop} {a : Array Value} (hT : rT D cy lay Γ s) (G : rG D cy lay Γ tm σ (rA cy lay Γ s.heap.size) s.heap H locs) (hr : va_Run p l e R s m args below meth c H locs cells slots mc ms (F0 m pc ls ST) rest (va_Qv post (rO D cy lay Γ) (rA cy lay Γ H.size) a) (rA cy lay Γ H.size))
    (kk : ∀ (σ' : MS) (H1 : Heap) (locs1 : List Loc), post σ' → rG D cy lay Γ tm (mrg σ' σ) (rA cy lay Γ s.heap.size) s.heap H1 locs1 → W p l e R s m args below meth c H1 locs1 (cells + mc) (slots + ms) Q (F0 m (pc + 3) ls rest)) : W p l e R s m args below meth c H locs cells slots Q (F0 m pc ls ST) :=
  va_callv hr G.2.2 (fun q _ h => rA_le G.2.2.1 q h) (rA_le G.2.2.1) (fun u t H1 locs1 ht hvm hw hB hz hk hS => kk u H1 locs1 hw (rG_mrg hT G hB ht hk hS))
theorem rg_rM {post : Nat → MS → Prop} {f : Nat → Nat} {a : Array Value} (hT : rT D cy lay Γ s) (G : rG D cy lay Γ tm σ (rA cy lay Γ s.heap.size) s.heap H locs) (hr : va_Run p l e R s m args below meth c H locs cells slots mc ms (F0 m pc ls ST) rest (rQ post f D cy lay Γ (rA cy lay Γ H.size) a) (rA cy lay Γ H.size))
    (kk : ∀ (i : Nat) (σ' : MS) (H1 : Heap) (locs1 : List Loc), post i σ' → rG D cy lay Γ tm (mrg σ' σ) (rA cy lay Γ s.heap.size) s.heap H1 locs1 → W p l e R s m args below meth c H1 locs1 (cells + mc) (slots + ms) Q (F0 m (pc + 3) ls (.ref (f i) :: rest))) : W p l e R s m args below meth c H locs cells slots Q (F0 m pc ls ST) :=
  va_callr hr G.2.2 (fun q _ h => rA_le G.2.2.1 q h) (rA_le G.2.2.1) (fun u ra t H1 locs1 ht hvm hw hB hz hk hS => by
    obtain ⟨e1, hO⟩ := hB
    rw [e1]
    exact kk u.1 u.2 H1 locs1 hw (rG_mrg hT G hO ht hk hS))
end RTEMP
/-! ends of methods in another layout; rows that are given back -/
section RTEMP2
variable {p : Program} {l : Launch} {e : Env} {R : Room} {s : State} {m : MethodId} {args : Array Value} {below : List Frame} {meth : Method} {c : Code} {H : Heap} {locs : List Loc} {cells slots : Nat} {Q : State → Prop}
variable {cc bytes : ByteArray} {pc nL maxL mc ms n index : Nat} {ls : Array Slot} {ST rest As : List Value} {D : va_G} {cy : Nat → ClassId} {lay : Nat → Nat} {Γ : RG} {tm : Nat → Option (Nat × Nat)} {σ : MS} {Ts ws : List Cond} {own Cn host : String} {y : MethodName} {ret : Option FieldType} {rm : Room} {b : Addr}
variable {Qc : Array Value → State → Outcome → State → Prop} {free : Addr → Prop}
theorem ql_i {post : Int32 → MS → Prop} (hB : rB Γ) : QL (fun lay => MQ below (va_Qi post (rO D cy lay Γ) (rA cy lay Γ s.heap.size)) args s mc ms (rA cy lay Γ s.heap.size)) := fun lay lay' h => by
  dsimp only
  rw [rO_lay hB h, rA_lay h]
theorem ql_l {post : Int64 → MS → Prop} (hB : rB Γ) : QL (fun lay => MQ below (va_Ql post (rO D cy lay Γ) (rA cy lay Γ s.heap.size)) args s mc ms (rA cy lay Γ s.heap.size)) := fun lay lay' h => by
  dsimp only
  rw [rO_lay hB h, rA_lay h]
theorem ql_v {post : MS → Prop} (hB : rB Γ) : QL (fun lay => MQ below (va_Qv post (rO D cy lay Γ) (rA cy lay Γ s.heap.size)) args s mc ms (rA cy lay Γ s.heap.size)) := fun lay lay' h => by
  dsimp only
  rw [rO_lay hB h, rA_lay h]
/-- a method's end that gives back a new row of ints -/
def rQA (post : Nat → (Nat → Int32) → MS → Prop) (D : va_G) (cy : Nat → ClassId) (lay : Nat → Nat) (Γ : RG) (sz : Nat) (A : Nat → Prop) : Array Value → State → Outcome → State → Prop :=
  va_Qr (S := (Nat × (Nat → Int32)) × MS) (fun u => post u.1.1 u.1.2 u.2) (fun u a t => (sz ≤ a ∧ va_at D vwCl (a, .inl (cy 0, u.1.1, .inl u.1.2)) t.heap) ∧ rO D cy lay Γ u.2 t) A
theorem ql_a {post : Nat → (Nat → Int32) → MS → Prop} (hB : rB Γ) : QL (fun lay => MQ below (rQA post D cy lay Γ s.heap.size (rA cy lay Γ s.heap.size)) args s mc ms (rA cy lay Γ s.heap.size)) := fun lay lay' h => by
  dsimp only
  unfold rQA
  rw [rO_lay hB h, rA_lay h]
theorem rg_aret {post : Nat → (Nat → Int32) → MS → Prop} {k n : Nat} {rt : FieldType} {locs : List Loc} (hC : CallFix p m c cc nL s args Ts own) (hr : meth.sig.returnType = some rt) (hrt : (∃ n, rt = .object n) ∨ ∃ t, rt = .array t) (hlocks : meth.locks = false) (hT : rT D cy lay Γ s) (G : rG D cy lay Γ tm σ (rA cy lay Γ s.heap.size) s.heap H locs) (hk : 64 ≤ k) (hk2 : k < 128) (ht : tm k = some (0, n)) (h : post n (σ k) σ) (hdg : decode cc pc = .ok (.areturn, 1)) :
    W p l e R s m args below meth c H locs cells slots (MQ below (rQA post D cy lay Γ s.heap.size (rA cy lay Γ s.heap.size)) args s cells slots (rA cy lay Γ s.heap.size)) (F0 m pc ls [.ref (lay k)]) := by
  have hx : rX cy lay Γ tm σ k = some (.inl (cy 0, n, .inl (σ k))) := r_ti hk ht
  have hA : s.heap.size ≤ lay k := by
    rcases G.2.1.2 k _ hk2 hx with ⟨j, hj, hs, hq⟩ | z
    · have h2 := r_some (cy := cy) (lay := lay) (lay' := lay) (Γ := Γ) (tm := tn) (tm' := tm) (σ := fun _ _ => 0) (σ' := σ) hj
      rw [hs] at h2
      cases q : rX cy lay Γ tm σ j with
      | none => rw [q] at h2; cases h2
      | some y =>
        have := G.2.1.1 k j _ y hk2 (by omega) hx q hq
        omega
    · exact z
  exact W.aret (v := .ref (lay k)) hC.1 hC.2.1 hr hrt (Or.inr ⟨_, rfl⟩) (fun t htt hW => ⟨⟨((n, σ k), σ), lay k, rfl, h, ⟨hA, by rw [htt]; exact G.1 k _ hk2 hx⟩, rO_G (rG_drop G hT.2.2.2) htt⟩, G.2.2.F htt⟩) G.2.2.2.2 hdg hlocks
/-- behind a call that gives back a new row -/
theorem rg_aM {Q : (Nat → Nat) → State → Prop} (hQ : QL Q) {post : Nat → (Nat → Int32) → MS → Prop} {a : Array Value} (hT : rT D cy lay Γ s) (G : rG D cy lay Γ tm σ (rA cy lay Γ s.heap.size) s.heap H locs) (hO : tmO tm) {k : Nat} (hk : 64 ≤ k) (hk2 : k < 128) (hX : tm k = none) (hr : va_Run p l e R s m args below meth c H locs cells slots mc ms (F0 m pc ls ST) rest (rQA post D cy lay Γ H.size (rA cy lay Γ H.size) a) (rA cy lay Γ H.size))
    (kk : ∀ (n : Nat) (f : Nat → Int32) (σ' : MS), post n f σ' → ∀ (lay' : Nat → Nat), (∀ j, j ≠ k → lay' j = lay j) → rT D cy lay' Γ s → ∀ (H1 : Heap) (locs1 : List Loc), rG D cy lay' Γ (gU tm k (some (0, n))) (rw0 (mrg σ' σ) k f) (rA cy lay' Γ s.heap.size) s.heap H1 locs1 → W p l e R s m args below meth c H1 locs1 (cells + mc) (slots + ms) (Q lay') (F0 m (pc + 3) ls (.ref (lay' k) :: rest))) : W p l e R s m args below meth c H locs cells slots (Q lay) (F0 m pc ls ST) := by
  refine va_callr hr G.2.2 (fun q _ h => rA_le G.2.2.1 q h) (rA_le G.2.2.1) (fun u ra t H1 locs1 ht hvm hw hB hz hk3 hS => ?_)
  obtain ⟨⟨hra, hat⟩, hOt⟩ := hB
  have G1 := rG_mrg hT G hOt ht hk3 hS
  have hl : ∀ j, j ≠ k → gU lay k ra j = lay j := fun j hj => gU_ne hj
  have hL : Lsm lay (gU lay k ra) := fun j hj => hl j (by omega)
  have hX0 : rX cy lay Γ tm (mrg u.2 σ) k = none := by rw [r_tm hk, hX]; rfl
  have fresh : ∀ j x, j < 128 → rX cy lay Γ tm (mrg u.2 σ) j = some x → lay j ≠ ra := fun j x hj hx hq => by
    have hlt : lay j < H.size := by
      by_cases h64 : j < 64
      · have h2 := r_some (cy := cy) (lay := lay) (lay' := lay) (Γ := Γ) (tm := tm) (tm' := tm) (σ := mrg u.2 σ) (σ' := σ) h64
        rw [hx] at h2
        cases q : rX cy lay Γ tm σ j with
        | none => rw [q] at h2; cases h2
        | some y => exact (G.1 j y hj q).lt
      · rw [r_loc (mrg_hi (by omega))] at hx
        exact (G.1 j x hj hx).lt
    omega
  have hG : gG D (gU lay k ra) (gU (rX cy lay Γ tm (mrg u.2 σ)) k (some (.inl (cy 0, u.1.1, .inl u.1.2)))) (rA cy lay Γ s.heap.size) s.heap H1 locs1 := by
    refine ⟨fun j x hj hx => ?_, ⟨fun i j x y hi hj hx hy hq => ?_, fun j x hj hx => ?_⟩, G1.2.2⟩
    · by_cases ej : j = k
      · subst ej
        rw [gU_eq] at hx
        cases hx
        rw [gU_eq, ← ht]
        exact hat
      · rw [gU_ne ej] at hx
        rw [hl j ej]
        exact G1.1 j x hj hx
    · by_cases ei : i = k
      · by_cases ej : j = k
        · rw [ei, ej]
        · subst ei
          rw [gU_eq, gU_ne ej] at hq
          rw [gU_ne ej] at hy
          exact absurd hq.symm (fresh j y hj hy)
      · by_cases ej : j = k
        · subst ej
          rw [gU_eq, gU_ne ei] at hq
          rw [gU_ne ei] at hx
          exact absurd hq (fresh i x hi hx)
        · rw [gU_ne ei] at hx
          rw [gU_ne ej] at hy
          rw [gU_ne ei, gU_ne ej] at hq
          exact G1.2.1.1 i j x y hi hj hx hy hq
    · by_cases ej : j = k
      · subst ej
        rw [gU_eq]
        exact Or.inr (Nat.le_trans G.2.2.1 hra)
      · rw [gU_ne ej] at hx
        rw [hl j ej]
        exact G1.2.1.2 j x hj hx
  have h := kk u.1.1 u.1.2 u.2 hw (gU lay k ra) hl (rT_lay hL hT) H1 locs1 (by
    rw [rA_lay hL]
    exact gG_eq (fun j _ => rX_new (t := (0, u.1.1)) (f := u.1.2) hT.2.2.2 hk (Or.inl (Nat.le_of_ble_eq_true rfl)) hl hO j) hG)
  rw [hQ lay _ hL, gU_eq] at h
  exact h
end RTEMP2
section RCOPY
variable {p : Program} {l : Launch} {e : Env} {R : Room} {s : State} {m : MethodId} {args : Array Value} {below : List Frame} {meth : Method} {c : Code} {H : Heap} {locs : List Loc} {cells slots : Nat} {Q : State → Prop}
variable {cc : ByteArray} {pc nL index : Nat} {ls : Array Slot} {rest : List Value} {D : va_G} {cy : Nat → ClassId} {lay : Nat → Nat} {Γ : RG} {tm : Nat → Option (Nat × Nat)} {σ : MS} {A : Nat → Prop} {H0 : Heap} {Ts : List Cond} {own : String}
theorem rw0_upd {k : Nat} {g : Nat → Int32} {x : va_E} (hx : rX cy lay Γ tm (rw0 σ k g) k = some x) : gU (rX cy lay Γ tm σ) k (some x) = rX cy lay Γ tm (rw0 σ k g) := by
  funext i
  by_cases h : i = k
  · subst h; rw [gU_eq, hx]
  · rw [gU_ne h]; exact (r_loc (rw0_ne h)).symm
theorem rg_copy (hC : CallFix p m c cc nL s args Ts own) (hls : ls.size = nL) (hT : rT D cy lay Γ s) (G : rG D cy lay Γ tm σ A H0 H locs) (w1 : Cond.methodLink own index arraycopyName ∈ Ts) (w2 : Cond.native arraycopyName ∈ Ts) (w3 : Cond.static arraycopyName ∈ Ts) (w4 : Cond.initialized "java/lang/System" ∈ Ts) {k0 k1 n0 n1 : Nat} (hk0 : 64 ≤ k0 ∧ k0 < 128) (hk1 : 64 ≤ k1 ∧ k1 < 128) (h0 : tm k0 = some (0, n0)) (h1 : tm k1 = some (0, n1)) {n : Int32} (hn : ¬ n < 0) (ha : n.toNatClampNeg ≤ n0) (hb : n.toNatClampNeg ≤ n1) (hframes : 1 ≤ R.frames) (hlocals : (rest.map fun v => v.category).sum + (nativeFrameWords "java/lang/System" "arraycopy" 5 + 11) ≤ R.locals) (hdg : decode cc pc = .ok (.invokestatic index, 3))
    (kk : ∀ (H1 : Heap) (locs1 : List Loc), rG D cy lay Γ tm (rw0 σ k1 (va_cpy (σ k0) (σ k1) 0 0 n.toNatClampNeg)) A H0 H1 locs1 → W p l e R s m args below meth c H1 locs1 cells slots Q (F0 m (pc + 3) ls rest)) : W p l e R s m args below meth c H locs cells slots Q (F0 m pc ls (.int n :: .int 0 :: .ref (lay k1) :: .int 0 :: .ref (lay k0) :: rest)) := by
  have x0 : rX cy lay Γ tm σ k0 = some (.inl (cy 0, n0, .inl (σ k0))) := r_ti hk0.1 h0
  have x1 : rX cy lay Γ tm σ k1 = some (.inl (cy 0, n1, .inl (σ k1))) := r_ti hk1.1 h1
  obtain ⟨q0, hq0⟩ := gW_pos (lay := lay) hk0.2 x0
  obtain ⟨q1, hq1⟩ := gW_pos (lay := lay) hk1.2 x1
  refine va_copyi hC.1 hC.2.1 (hC.2.2.1.trans hls.symm) hC.2.2.2.1 (hC.2.2.2.2 _ w1) (hC.2.2.2.2 _ w2) (hC.2.2.2.2 _ w3) (hC.2.2.2.2 _ w4) hT.1 (gP_list G.1) (gI_list G.2.1) G.2.2 q0 q1 0 0 hq0 hq1 rfl rfl rfl (by decide) (by decide) hn (by show 0 + _ ≤ _; omega) (by show 0 + _ ≤ _; omega) (fun i _ => rfl) hframes hlocals hdg (fun H1 locs1 hP hD hS => kk H1 locs1 ?_)
  have hG : gG D lay (gU (rX cy lay Γ tm σ) k1 (some (.inl (cy 0, n1, .inl (va_cpy (σ k0) (σ k1) 0 0 n.toNatClampNeg))))) A H0 H1 locs1 := ⟨gP_set G.2.1 hk1.2 x1 hq1 hP, gI_set G.2.1 x1, hS⟩
  rw [rw0_upd (g := va_cpy (σ k0) (σ k1) 0 0 n.toNatClampNeg) (by rw [r_ti hk1.1 h1, rw0_eq])] at hG
  exact hG
end RCOPY
end
section
/-! THE REFERENCE: walking over a list -/
def hI (D : va_G) (cy : Nat → ClassId) (lay : Nat → Nat) (X : Nat → Option va_E) (sz : Nat) (U : State) : Prop := U.heap.size = sz ∧ (va_K D vwCl (fdT cy) U ∧ rN U) ∧ gP D lay X U.heap ∧ gI (fun _ => True) lay X
theorem hI_blind {D : va_G} {cy : Nat → ClassId} {lay : Nat → Nat} {X : Nat → Option va_E} {sz : Nat} {As : List Value} : FrameBlind (va_Pc As (hI D cy lay X sz)) := by
  intro a U g mk h
  obtain ⟨h0, h1, ⟨k1, k2⟩, h2, h3⟩ := h
  exact ⟨h0, h1, ⟨va_K.moved (u := U) (U := U.calling g mk a) (Vm.Alike.refl U.vm) k1, rN_same (u := U) (U := U.calling g mk a) rfl k2⟩, h2, h3⟩
section HROWS
variable {p : Program} {l : Launch} {e : Env} {R : Room} {s : State} {m : MethodId} {args : Array Value} {below : List Frame} {meth : Method} {c : Code} {H : Heap} {locs : List Loc} {cells slots : Nat} {Q : State → Prop}
variable {cc bytes : ByteArray} {pc nL maxL mc ms n index count : Nat} {ls : Array Slot} {ST rest As : List Value} {D : va_G} {cy : Nat → ClassId} {lay : Nat → Nat} {X : Nat → Option va_E} {A : Nat → Prop} {H0 : Heap} {Ts ws : List Cond} {own Cn host : String} {y : MethodName} {ret : Option FieldType} {rm : Room} {b : Addr} {tys : List (ClassId × FieldType)}
variable {Qc : Array Value → State → Outcome → State → Prop} {free : Addr → Prop}
theorem h_ofW {ws' : List Cond} {maxL : Nat} {sz : Nat} {Qc : Nat → Array Value → State → Outcome → State → Prop} (hy : plainName y.cls = true) (hw : ws = Cond.code y cc maxL ret :: ws') (hnl : (lg_sl As).length ≤ maxL) (hoo : y.cls = own)
    (body : ∀ (p : Program) (e : Env) (s : State) (m : MethodId) (args : Array Value) (below : List Frame) (meth : Method) (c : Code) (ls : Array Slot), CallFix p m c cc maxL s args ws own → meth.sig.returnType = ret → meth.locks = false → meth.name = y.name → va_K D vwCl (fdT cy) s ∧ rN s → gG D lay X (gA lay X s.heap.size) s.heap s.heap [] → lv_has ls maxL (lv_args 0 As) →
      W p l e rm s m args below meth c s.heap [] 0 0 (MQ below (Qc s.heap.size) args s mc ms (gA lay X s.heap.size)) (F0 m 0 ls [])) : Met l y ws rm (va_Pc As (hI D cy lay X sz)) (Qc sz) mc ms (gA lay X sz) := by
  refine Met.ofW (cc := cc) (maxL := maxL) (ret := ret) hy hw ?_
  intro p e s m args below meth c s₁ B hml hv
  obtain ⟨rfl, hsz, hT, hP, hI⟩ := hv
  subst hsz
  have hl := lv_entry As (n := maxL) hnl
  rw [lg_entry_eq]
  have hown : s.vm.findClass y.cls = some m.cls := findClass_of_methodNamed B.named
  rw [hoo] at hown
  exact body p e s m As.toArray below meth c _ ⟨B.exec, B.bytes, hml, hown, atoms_spec (ws := ws) B.pre⟩ B.returns B.notSynchronized (name_of_methodNamed B.named B.method).1 hT ⟨hP, gI_self hI, va_S.rf⟩ hl
/-- a field that the class has from above -/
theorem g_getS {C ref : String} {T : u_T} {N ci : Nat} {ty : Nat → FieldType} (hC : CallFix p m c cc nL s args Ts own) (hK : va_K D vwCl tys s) (G : gG D lay X A H0 H locs) {k : Nat} (hk : k < 128) {fs : List Value} (he : X k = some (.inr (ci, fs))) (hcl : agCl C T N ci ty) (hin : ∀ w ∈ u_ws C T N, w ∈ Ts) (j : Nat) (hj : j < N) (hl : Cond.fieldLink own index ref (T j).2.1 (T j).2.2.1 ∈ Ts) (hs : Cond.sameField ref (T j).1 (T j).2.1 (T j).2.2.1 ∈ Ts) {v : Value} (hv : fs[j]? = some v) (hdg : decode cc pc = .ok (.getfield index, 3))
    (kk : W p l e R s m args below meth c H locs cells slots Q (F0 m (pc + 3) ls (v :: rest))) : W p l e R s m args below meth c H locs cells slots Q (F0 m pc ls (.ref (lay k) :: rest)) := by
  obtain ⟨q0, hq⟩ := gW_pos (lay := lay) hk he
  exact va_get hC.1 hC.2.1 hC.2.2.2.2 hin hC.2.2.2.1 hK (gP_list G.1) q0 hq hcl.1 j hj (hC.2.2.2.2 _ hl) (fun x h => u_same (hC.2.2.2.2 _ hs) x h) hv hdg kk
theorem hI_next {s U : State} {H : Heap} {locs : List Loc} (hT : va_K D vwCl (fdT cy) s ∧ rN s) (G : gG D lay X A H0 H locs) (hU : U.heap = H) (hW : s.WarmedH U.vm) : hI D cy lay X H.size U :=
  ⟨by rw [hU], ⟨va_K.moved hW.alike hT.1, rN_warm hW hT.2⟩, by rw [hU]; exact G.1, gI_weak G.2.1 (fun _ _ => trivial)⟩
theorem h_runV (hC : CallFix p m c cc nL s args Ts own) (hT : va_K D vwCl (fdT cy) s ∧ rN s) (G : gG D lay X A H0 H locs) (hM : Met l y ws rm (va_Pc (.ref b :: As) (hI D cy lay X H.size)) Qc mc ms free) (cw : CallW R s args own Cn index y bytes maxL ret ws rm mc ms n) (hrv : ∃ cell : Cell, H[b]? = some cell ∧ cell.vm.isStatics = false ∧ s.vm.findClass Cn = some cell.cls)
    (hn : As.length = n) (hls : ls.size = nL) (hst : ST = As.reverse ++ .ref b :: rest) (hW : (rest.map fun v => v.category).sum ≤ 8) (hdg : decode cc pc = .ok (.invokevirtual index, 3)) (hf : cells + mc ≤ R.cells ∧ slots + ms ≤ R.slots) :
    va_Run p l e R s m args below meth c H locs cells slots mc ms (F0 m pc ls ST) rest (Qc (.ref b :: As).toArray) free :=
  va_runV hC hM cw ⟨hI_blind, hrv, fun U hU hW => ⟨rfl, hI_next hT G hU hW⟩⟩ rfl hn hls hst (lv_room hW) hdg hf
theorem h_runI (hC : CallFix p m c cc nL s args Ts own) (hT : va_K D vwCl (fdT cy) s ∧ rN s) (G : gG D lay X A H0 H locs) (hM : Met l y ws rm (va_Pc (.ref b :: As) (hI D cy lay X H.size)) Qc mc ms free) (cw : CallB R s args own index y bytes maxL none ws rm mc ms n ∧ y.name = "<init>" ∧ (Cond.instanceMethod y).before args s = true)
    (hn : As.length = n) (hls : ls.size = nL) (hst : ST = As.reverse ++ .ref b :: rest) (hW : (rest.map fun v => v.category).sum ≤ 8) (hdg : decode cc pc = .ok (.invokespecial index, 3)) (hf : cells + mc ≤ R.cells ∧ slots + ms ≤ R.slots) :
    va_Run p l e R s m args below meth c H locs cells slots mc ms (F0 m pc ls ST) rest (Qc (.ref b :: As).toArray) free :=
  va_runI hC hM cw ⟨hI_blind, fun U hU hW => ⟨rfl, hI_next hT G hU hW⟩⟩ rfl hn hls hst (lv_room hW) hdg hf
theorem h_runF {x : MethodName} {cC : ClassId} (hat : ClassAt s Cn cC) (hC : CallFix p m c cc nL s args Ts own) (hT : va_K D vwCl (fdT cy) s ∧ rN s) (G : gG D lay X A H0 H locs) (hM : Met l y ws rm (va_Pc (.ref b :: As) (hI D cy lay X H.size)) Qc mc ms free) (cw : va_CI R s args own Cn index x y bytes maxL ret ws rm mc ms n) (hrv : ∃ cell : Cell, H[b]? = some cell ∧ cell.vm.isStatics = false ∧ s.vm.findClass Cn = some cell.cls)
    (hn : As.length = n) (hls : ls.size = nL) (hst : ST = As.reverse ++ .ref b :: rest) (hW : (rest.map fun v => v.category).sum ≤ 8) (hdg : decode cc pc = .ok (.invokeinterface index count, 5)) (hf : cells + mc ≤ R.cells ∧ slots + ms ≤ R.slots) :
    va_Run5 p l e R s m args below meth c H locs cells slots mc ms (F0 m pc ls ST) rest (Qc (.ref b :: As).toArray) free :=
  va_runF hat hC hM cw ⟨hI_blind, hrv, fun U hU hW => ⟨rfl, hI_next hT G hU hW⟩⟩ rfl hn hls hst (lv_room hW) hdg hf
theorem h_recv {ci : Nat} {C : String} {T : u_T} {N : Nat} {ty : Nat → FieldType} {fs : List Value} (hT : va_K D vwCl (fdT cy) s ∧ rN s) (G : gG D lay X A H0 H locs) {k : Nat} (hk : k < 128) (he : X k = some (.inr (ci, fs))) (hcl : agCl C T N ci ty) : ∃ cell : Cell, H[lay k]? = some cell ∧ cell.vm.isStatics = false ∧ s.vm.findClass C = some cell.cls := by
  obtain ⟨q0, hq⟩ := gW_pos (lay := lay) hk he
  exact va_recv hT.1 (gP_list G.1) hcl.1 hq
end HROWS
theorem k_IT : agCl RJx35411 TJx35411 4 3 tyJx35411 := ⟨rfl, tyJx35411_ok, nmJx35411⟩
abbrev itE (lay : Nat → Nat) (kl : Nat) (c r x : Int32) : va_E := .inr (3, [.int c, .int r, .int x, .ref (lay kl)])
theorem i_itc_I : ∀ w ∈ wsJx354110, w ∈ wsJx35411_checkForComodification_da8c8 := fun _ h => List.mem_cons_of_mem _ (List.mem_append_left _ (List.mem_append_right _ h))
theorem i_itc_L : ∀ w ∈ wsJx4a65c0, w ∈ wsJx35411_checkForComodification_da8c8 := fun _ h => List.mem_cons_of_mem _ (List.mem_append_right _ h)
theorem i_ith_I : ∀ w ∈ wsJx354110, w ∈ wsJx35411_hasNext_aae02 := fun _ h => List.mem_cons_of_mem _ (List.mem_append_left _ (List.mem_append_right _ h))
theorem i_ith_L : ∀ w ∈ wsJx4a65c0, w ∈ wsJx35411_hasNext_aae02 := fun _ h => List.mem_cons_of_mem _ (List.mem_append_right _ h)
theorem i_itn_I : ∀ w ∈ wsJx354110, w ∈ wsJx35411_next_0502b := fun _ h => List.mem_cons_of_mem _ (List.mem_append_left _ (List.mem_append_right _ h))
theorem i_itn_L : ∀ w ∈ wsJx4a65c0, w ∈ wsJx35411_next_0502b := fun _ h => List.mem_cons_of_mem _ (List.mem_append_right _ h)
theorem i_iti_I : ∀ w ∈ wsJx354110, w ∈ wsJx35411_init_45d68 := fun _ h => List.mem_cons_of_mem _ (List.mem_append_left _ (List.mem_append_right _ h))
theorem i_iti_L : ∀ w ∈ wsJx4a65c0, w ∈ wsJx35411_init_45d68 := fun _ h => List.mem_cons_of_mem _ (List.mem_append_right _ h)
theorem i_itr_I : ∀ w ∈ wsJx354110, w ∈ wsJx4a65c_iterator_32c93 := fun _ h => List.mem_cons_of_mem _ (List.mem_append_left _ (List.mem_append_right _ h))
abbrev rm_it0 : Room := { frames := 0, cells := 0, slots := 0, locals := 0 }
abbrev rm_itn : Room := { frames := 1, cells := 0, slots := 0, locals := 40 }
abbrev rm_iti : Room := { frames := 1, cells := 0, slots := 0, locals := 16 }
abbrev rm_itr : Room := { frames := 2, cells := 1, slots := 4, locals := 48 }
set_option maxHeartbeats 4000000 in
set_option maxRecDepth 100000 in
theorem c_it_check (l : Launch) (D : va_G) (cy : Nat → ClassId) (lay : Nat → Nat) (X : Nat → Option va_E) {ki kl : Nat} (hki : ki < 128) (hkl : kl < 128) {cu la mo n : Int32} {e : Value} (h1 : X ki = some (itE lay kl cu la mo)) (h2 : X kl = some (.inr (4, [.int mo, e, .int n]))) (sz : Nat) : Met l yJx35411_checkForComodification_da8c8 wsJx35411_checkForComodification_da8c8 rm_it0 (va_Pc [.ref (lay ki)] (hI D cy lay X sz)) (va_Qv (fun Y : GY => Y = (lay, X)) (gO D (gA lay X sz)) (gA lay X sz)) 0 0 (gA lay X sz) := by
  refine h_ofW (cc := cJx35411_checkForComodification_da8c8) (maxL := 1) (ret := none) (own := RJx35411) (Qc := fun sz => va_Qv (fun Y : GY => Y = (lay, X)) (gO D (gA lay X sz)) (gA lay X sz)) (by decide) rfl (Nat.le_of_ble_eq_true rfl) rfl ?_
  intro p e0 s m args below meth c ls hC hr hlocks hname hT G hl
  have hl : lv_has ls 1 [(0, .ref (lay ki))] := hl
  refine lv_aload_n hC.1 hC.2.1 dJx35411_checkForComodification_da8c8_0 rfl (lv_at hl 0 rfl) ?_
  refine g_get hC hT.1 G hki h1 k_IT i_itc_I 3 (by decide) (wm 1 rfl) rfl dJx35411_checkForComodification_da8c8_1 ?_
  refine g_getS hC hT.1 G hkl h2 k_AL i_itc_L 0 (by decide) (wm 2 rfl) (wm 3 rfl) rfl dJx35411_checkForComodification_da8c8_4 ?_
  refine lv_aload_n hC.1 hC.2.1 dJx35411_checkForComodification_da8c8_7 rfl (lv_at hl 0 rfl) ?_
  refine g_get hC hT.1 G hki h1 k_IT i_itc_I 2 (by decide) (wm 4 rfl) rfl dJx35411_checkForComodification_da8c8_8 ?_
  refine lv_icmp_eq (tgt := 22) hC.1 hC.2.1 dJx35411_checkForComodification_da8c8_11 (by decide) (fun c1 => ?_) (fun c1 => absurd rfl c1)
  exact g_vret (Y := (lay, X)) hC hr hlocks G rfl dJx35411_checkForComodification_da8c8_22
theorem hdV_it_check : yJx35411_checkForComodification_da8c8.cls = RJx35411 ∧ yJx35411_checkForComodification_da8c8.cls ≠ "java/lang/invoke/MethodHandle" ∧ yJx35411_checkForComodification_da8c8.cls ≠ "java/lang/invoke/VarHandle" ∧ (parseMethodDescriptor yJx35411_checkForComodification_da8c8.desc).map (fun d => d.parameters.length) = some 0 := by decide +kernel
set_option maxHeartbeats 4000000 in
set_option maxRecDepth 100000 in
theorem c_it_hasNext (l : Launch) (D : va_G) (cy : Nat → ClassId) (lay : Nat → Nat) (X : Nat → Option va_E) {ki kl : Nat} (hki : ki < 128) (hkl : kl < 128) {cu la mo n mo2 : Int32} {e : Value} (h1 : X ki = some (itE lay kl cu la mo)) (h2 : X kl = some (.inr (4, [.int mo2, e, .int n]))) (sz : Nat) : Met l yJx35411_hasNext_aae02 wsJx35411_hasNext_aae02 rm_it0 (va_Pc [.ref (lay ki)] (hI D cy lay X sz)) (va_Qi (fun r (Y : GY) => r = b01 (!decide (cu = n)) ∧ Y = (lay, X)) (gO D (gA lay X sz)) (gA lay X sz)) 0 0 (gA lay X sz) := by
  refine h_ofW (cc := cJx35411_hasNext_aae02) (maxL := 1) (ret := some .boolean) (own := RJx35411) (Qc := fun sz => va_Qi (fun r (Y : GY) => r = b01 (!decide (cu = n)) ∧ Y = (lay, X)) (gO D (gA lay X sz)) (gA lay X sz)) (by decide) rfl (Nat.le_of_ble_eq_true rfl) rfl ?_
  intro p e0 s m args below meth c ls hC hr hlocks hname hT G hl
  have hl : lv_has ls 1 [(0, .ref (lay ki))] := hl
  refine lv_aload_n hC.1 hC.2.1 dJx35411_hasNext_aae02_0 rfl (lv_at hl 0 rfl) ?_
  refine g_get hC hT.1 G hki h1 k_IT i_ith_I 0 (by decide) (wm 1 rfl) rfl dJx35411_hasNext_aae02_1 ?_
  refine lv_aload_n hC.1 hC.2.1 dJx35411_hasNext_aae02_4 rfl (lv_at hl 0 rfl) ?_
  refine g_get hC hT.1 G hki h1 k_IT i_ith_I 3 (by decide) (wm 2 rfl) rfl dJx35411_hasNext_aae02_5 ?_
  refine g_getN hC hT.1 G hkl h2 k_AL i_ith_L 2 (by decide) (nest_use _ (nestR_ok _ (wm 0 rfl)) (hT.2.1 _ (wm 0 rfl))) rfl dJx35411_hasNext_aae02_8 ?_
  refine lv_icmp_eq (tgt := 18) hC.1 hC.2.1 dJx35411_hasNext_aae02_11 (by decide) (fun c1 => ?_) (fun c1 => ?_)
  · refine lv_iconst (v := 0) hC.1 hC.2.1 dJx35411_hasNext_aae02_18 (by decide) ?_
    exact W.zret (v := 0) hC.1 hC.2.1 hr rfl (fun t ht hW => ⟨⟨0, (lay, X), rfl, ⟨by rw [decide_eq_true c1]; rfl, rfl⟩, by rw [ht]; exact G.1, G.2.1⟩, G.2.2.F ht⟩) G.2.2.2.2 dJx35411_hasNext_aae02_19 hlocks
  · refine lv_iconst (v := 1) hC.1 hC.2.1 dJx35411_hasNext_aae02_14 (by decide) ?_
    refine lv_goto (tgt := 19) hC.1 hC.2.1 dJx35411_hasNext_aae02_15 (by decide) ?_
    exact W.zret (v := 1) hC.1 hC.2.1 hr rfl (fun t ht hW => ⟨⟨1, (lay, X), rfl, ⟨by rw [decide_eq_false c1]; rfl, rfl⟩, by rw [ht]; exact G.1, G.2.1⟩, G.2.2.F ht⟩) G.2.2.2.2 dJx35411_hasNext_aae02_19 hlocks
set_option maxHeartbeats 4000000 in
set_option maxRecDepth 100000 in
theorem c_it_next (l : Launch) (D : va_G) (cy : Nat → ClassId) (lay : Nat → Nat) (X : Nat → Option va_E) {ki kl ke cap ci n q : Nat} {f : Nat → Option Nat} (hki : ki < 128) (hkl : kl < 128) (hke : ke < 128) (hne : ki ≠ kl) (hne2 : ki ≠ ke) {la mo : Int32} (h1 : X ki = some (itE lay kl (nI ci) la mo)) (h2 : X kl = some (.inr (4, [.int mo, .ref (lay ke), .int (nI n)]))) (h3 : X ke = some (.inl (cy 7, cap, rfS f))) (hc : ci < n) (hn : n ≤ cap) (hcap : cap < 100) (hf : f ci = some q) (sz : Nat) : Met l yJx35411_next_0502b wsJx35411_next_0502b rm_itn (va_Pc [.ref (lay ki)] (hI D cy lay X sz)) (va_Qr (S := GY) (fun Y => Y = (lay, gU X ki (some (itE lay kl (nI (ci + 1)) (nI ci) mo)))) (fun Y a t => a = q ∧ gO D (gA lay X sz) Y t) (gA lay X sz)) 0 0 (gA lay X sz) := by
  refine h_ofW (cc := cJx35411_next_0502b) (maxL := 3) (ret := some (.object "java/lang/Object")) (own := RJx35411) (Qc := fun sz => va_Qr (S := GY) (fun Y => Y = (lay, gU X ki (some (itE lay kl (nI (ci + 1)) (nI ci) mo)))) (fun Y a t => a = q ∧ gO D (gA lay X sz) Y t) (gA lay X sz)) (by decide) rfl (Nat.le_of_ble_eq_true rfl) rfl ?_
  intro p e0 s m args below meth c ls hC hr hlocks hname hT G hl
  have hl : lv_has ls 3 [(0, .ref (lay ki))] := hl
  have hA : ∀ q, s.heap.size ≤ q → gA lay X s.heap.size q := fun _ h => Or.inr h
  refine lv_aload_n hC.1 hC.2.1 dJx35411_next_0502b_0 rfl (lv_at hl 0 rfl) ?_
  refine g_v G hA (h_runV (As := []) (rest := []) hC hT G (c_it_check l D cy lay X hki hkl h1 h2 _) (cwV 0 hC.2.2.2.2 gJx35411_next_0502b_Jx35411_checkForComodification_da8c8 rfl rfl rfl hdV_it_check ⟨Nat.le_of_ble_eq_true rfl, Nat.le_of_ble_eq_true rfl⟩) (h_recv hT G hki h1 k_IT) rfl hl.1 rfl (Nat.le_of_ble_eq_true rfl) dJx35411_next_0502b_1 ⟨Nat.le_of_ble_eq_true rfl, Nat.le_of_ble_eq_true rfl⟩) (fun Y H locs hY G => ?_)
  subst hY
  refine lv_aload_n hC.1 hC.2.1 dJx35411_next_0502b_4 rfl (lv_at hl 0 rfl) ?_
  refine g_get hC hT.1 G hki h1 k_IT i_itn_I 0 (by decide) (wm 1 rfl) rfl dJx35411_next_0502b_5 ?_
  refine lv_istore_n (lv' := [(1, .int (nI ci)), (0, .ref (lay ki))]) hC.1 hC.2.1 dJx35411_next_0502b_8 rfl hl (by decide) rfl (fun ls hl => ?_)
  refine lv_iload_n hC.1 hC.2.1 dJx35411_next_0502b_9 rfl (lv_at hl 0 rfl) ?_
  refine lv_aload_n hC.1 hC.2.1 dJx35411_next_0502b_10 rfl (lv_at hl 1 rfl) ?_
  refine g_get hC hT.1 G hki h1 k_IT i_itn_I 3 (by decide) (wm 2 rfl) rfl dJx35411_next_0502b_11 ?_
  refine g_getN hC hT.1 G hkl h2 k_AL i_itn_L 2 (by decide) (nest_use _ (nestR_ok _ (wm 0 rfl)) (hT.2.1 _ (wm 0 rfl))) rfl dJx35411_next_0502b_14 ?_
  refine lv_icmp_lt (tgt := 28) hC.1 hC.2.1 dJx35411_next_0502b_17 (by decide) (fun c1 => ?_) (fun c1 => absurd (nI_lt hc (by omega)) c1)
  refine lv_aload_n hC.1 hC.2.1 dJx35411_next_0502b_28 rfl (lv_at hl 1 rfl) ?_
  refine g_get hC hT.1 G hki h1 k_IT i_itn_I 3 (by decide) (wm 2 rfl) rfl dJx35411_next_0502b_29 ?_
  refine g_get hC hT.1 G hkl h2 k_AL i_itn_L 1 (by decide) (wm 3 rfl) rfl dJx35411_next_0502b_32 ?_
  refine lv_astore_n (lv' := [(2, .ref (lay ke)), (1, .int (nI ci)), (0, .ref (lay ki))]) hC.1 hC.2.1 dJx35411_next_0502b_35 rfl hl (by decide) rfl (fun ls hl => ?_)
  refine lv_iload_n hC.1 hC.2.1 dJx35411_next_0502b_36 rfl (lv_at hl 1 rfl) ?_
  refine lv_aload_n hC.1 hC.2.1 dJx35411_next_0502b_37 rfl (lv_at hl 0 rfl) ?_
  obtain ⟨q0, hq0⟩ := gW_pos (lay := lay) hke h3
  refine va_alen hC.1 hC.2.1 hT.1 (gP_list G.1) q0 7 hq0 rfl rfl dJx35411_next_0502b_38 ?_
  refine lv_icmp_lt (tgt := 50) hC.1 hC.2.1 dJx35411_next_0502b_39 (by decide) (fun c2 => ?_) (fun c2 => absurd (nI_lt (show ci < cap by omega) (by omega)) c2)
  refine lv_aload_n hC.1 hC.2.1 dJx35411_next_0502b_50 rfl (lv_at hl 2 rfl) ?_
  refine lv_iload_n hC.1 hC.2.1 dJx35411_next_0502b_51 rfl (lv_at hl 1 rfl) ?_
  refine lv_iconst (v := 1) hC.1 hC.2.1 dJx35411_next_0502b_52 (by decide) ?_
  refine lv_iadd hC.1 hC.2.1 dJx35411_next_0502b_53 ?_
  rw [nI_1]
  refine g_put hC hT.1 G hki h1 k_IT i_itn_I 0 (by decide) (wm 1 rfl) rfl rfl rfl (by simp) dJx35411_next_0502b_54 (fun H locs G => ?_)
  have G : gG D lay (gU X ki (some (itE lay kl (nI (ci + 1)) la mo))) _ s.heap H locs := G
  refine lv_aload_n hC.1 hC.2.1 dJx35411_next_0502b_57 rfl (lv_at hl 0 rfl) ?_
  refine lv_aload_n hC.1 hC.2.1 dJx35411_next_0502b_58 rfl (lv_at hl 2 rfl) ?_
  refine lv_iload_n hC.1 hC.2.1 dJx35411_next_0502b_59 rfl (lv_at hl 1 rfl) ?_
  refine lv_dup_x1 hC.1 hC.2.1 dJx35411_next_0502b_60 rfl rfl ?_
  refine g_put hC hT.1 G hki gU_eq k_IT i_itn_I 1 (by decide) (wm 4 rfl) rfl rfl rfl (by simp) dJx35411_next_0502b_61 (fun H locs G => ?_)
  have G : gG D lay (gU X ki (some (itE lay kl (nI (ci + 1)) (nI ci) mo))) _ s.heap H locs := gG_up2 G
  have h3' : gU X ki (some (itE lay kl (nI (ci + 1)) (nI ci) mo)) ke = some (.inl (cy 7, cap, rfS f)) := by rw [gU_ne (Ne.symm hne2)]; exact h3
  obtain ⟨q1, hq1⟩ := gW_pos (lay := lay) hke h3'
  refine va_aldq hC.1 hC.2.1 hT.1 (gP_list G.1) q1 7 hq1 rfl (vp_in_nI (by omega) (by omega)) dJx35411_next_0502b_64 ?_
  rw [nI_clamp (show ci < 2 ^ 31 by omega), hf]
  exact W.aret (v := .ref q) hC.1 hC.2.1 hr (Or.inl ⟨_, rfl⟩) (Or.inr ⟨_, rfl⟩) (fun t ht hW => ⟨⟨_, q, rfl, rfl, rfl, by rw [ht]; exact G.1, G.2.1⟩, G.2.2.F ht⟩) G.2.2.2.2 dJx35411_next_0502b_65 hlocks
end
section
/-! THE REFERENCE: a walker made; the same in the reference's world -/
theorem hdI_IT : yJx35411_init_45d68.cls ≠ "java/lang/invoke/MethodHandle" ∧ yJx35411_init_45d68.cls ≠ "java/lang/invoke/VarHandle" ∧ (parseMethodDescriptor yJx35411_init_45d68.desc).map (fun d => d.parameters.length) = some 1 := by decide +kernel
set_option maxHeartbeats 4000000 in
set_option maxRecDepth 100000 in
theorem c_it_init (l : Launch) (D : va_G) (cy : Nat → ClassId) (lay : Nat → Nat) (X : Nat → Option va_E) {ki kl : Nat} (hki : ki < 128) (hkl : kl < 128) (hne : kl ≠ ki) {mo n : Int32} {e : Value} (h1 : X ki = some (.inr (3, [.int 0, .int 0, .int 0, .null]))) (h2 : X kl = some (.inr (4, [.int mo, e, .int n]))) (sz : Nat) : Met l yJx35411_init_45d68 wsJx35411_init_45d68 rm_iti (va_Pc [.ref (lay ki), .ref (lay kl)] (hI D cy lay X sz)) (va_Qv (fun Y : GY => Y = (lay, gU X ki (some (itE lay kl 0 (-1) mo)))) (gO D (gA lay X sz)) (gA lay X sz)) 0 0 (gA lay X sz) := by
  refine h_ofW (cc := cJx35411_init_45d68) (maxL := 2) (ret := none) (own := RJx35411) (Qc := fun sz => va_Qv (fun Y : GY => Y = (lay, gU X ki (some (itE lay kl 0 (-1) mo)))) (gO D (gA lay X sz)) (gA lay X sz)) (by decide) rfl (Nat.le_of_ble_eq_true rfl) rfl ?_
  intro p e0 s m args below meth c ls hC hr hlocks hname hT G hl
  have hl : lv_has ls 2 [(0, .ref (lay ki)), (1, .ref (lay kl))] := hl
  refine lv_aload_n hC.1 hC.2.1 dJx35411_init_45d68_0 rfl (lv_at hl 0 rfl) ?_
  refine lv_aload_n hC.1 hC.2.1 dJx35411_init_45d68_1 rfl (lv_at hl 1 rfl) ?_
  refine g_putF hC hT.1 G hki h1 k_IT i_iti_I 3 (by decide) (wm 1 rfl) rfl hname rfl rfl rfl (by simp) dJx35411_init_45d68_2 (fun H locs G => ?_)
  have G : gG D lay (gU X ki (some (itE lay kl 0 0 0))) _ s.heap H locs := G
  refine lv_aload_n hC.1 hC.2.1 dJx35411_init_45d68_5 rfl (lv_at hl 0 rfl) ?_
  refine W.objInit hC.1 hC.2.1 hC.2.2.2.1 (hC.2.2.2.2 _ (wm 2 rfl)) (hC.2.2.2.2 _ (wm 3 rfl)) (hC.2.2.2.2 _ (wm 4 rfl)) rfl (by rw [hC.2.2.1]; exact hl.1) rfl dJx35411_init_45d68_6 (Nat.le_of_ble_eq_true rfl) (Nat.le_of_ble_eq_true rfl) ?_
  refine W.eq (g2 := F0 m 9 ls []) rfl ?_
  refine lv_aload_n hC.1 hC.2.1 dJx35411_init_45d68_9 rfl (lv_at hl 0 rfl) ?_
  refine lv_iconst (v := (-1)) hC.1 hC.2.1 dJx35411_init_45d68_10 (by decide) ?_
  refine g_put hC hT.1 G hki gU_eq k_IT i_iti_I 1 (by decide) (wm 5 rfl) rfl rfl rfl (by simp) dJx35411_init_45d68_11 (fun H locs G => ?_)
  have G : gG D lay (gU X ki (some (itE lay kl 0 (-1) 0))) _ s.heap H locs := gG_up2 G
  refine lv_aload_n hC.1 hC.2.1 dJx35411_init_45d68_14 rfl (lv_at hl 0 rfl) ?_
  refine lv_aload_n hC.1 hC.2.1 dJx35411_init_45d68_15 rfl (lv_at hl 0 rfl) ?_
  refine g_get hC hT.1 G hki gU_eq k_IT i_iti_I 3 (by decide) (wm 1 rfl) rfl dJx35411_init_45d68_16 ?_
  refine g_getS hC hT.1 G hkl ((gU_ne hne).trans h2) k_AL i_iti_L 0 (by decide) (wm 6 rfl) (wm 7 rfl) rfl dJx35411_init_45d68_19 ?_
  refine g_put hC hT.1 G hki gU_eq k_IT i_iti_I 2 (by decide) (wm 8 rfl) rfl rfl rfl (by simp) dJx35411_init_45d68_22 (fun H locs G => ?_)
  have G : gG D lay (gU X ki (some (itE lay kl 0 (-1) mo))) _ s.heap H locs := gG_up2 G
  exact g_vret (Y := (lay, gU X ki (some (itE lay kl 0 (-1) mo)))) hC hr hlocks G rfl dJx35411_init_45d68_25
set_option maxHeartbeats 4000000 in
set_option maxRecDepth 100000 in
theorem c_it_make (l : Launch) (D : va_G) (cy : Nat → ClassId) (lay : Nat → Nat) (X : Nat → Option va_E) {ki kl : Nat} (hki : ki < 128) (hkl : kl < 128) (hne : kl ≠ ki) {mo n : Int32} {e : Value} (h1 : X ki = none) (h2 : X kl = some (.inr (4, [.int mo, e, .int n]))) (sz : Nat) : Met l yJx4a65c_iterator_32c93 wsJx4a65c_iterator_32c93 rm_itr (va_Pc [.ref (lay kl)] (hI D cy lay X sz)) (va_Qr (S := GY) (fun Y => ∃ q, sz ≤ q ∧ Y = (gU lay ki q, gU X ki (some (itE lay kl 0 (-1) mo)))) (fun Y a t => a = Y.1 ki ∧ gO D (gA lay X sz) Y t) (gA lay X sz)) 1 4 (gA lay X sz) := by
  refine h_ofW (cc := cJx4a65c_iterator_32c93) (maxL := 1) (ret := some (.object "java/util/Iterator")) (own := RJx4a65c) (Qc := fun sz => va_Qr (S := GY) (fun Y => ∃ q, sz ≤ q ∧ Y = (gU lay ki q, gU X ki (some (itE lay kl 0 (-1) mo)))) (fun Y a t => a = Y.1 ki ∧ gO D (gA lay X sz) Y t) (gA lay X sz)) (by decide) rfl (Nat.le_of_ble_eq_true rfl) rfl ?_
  intro p e0 s m args below meth c ls hC hr hlocks hname hT G hl
  have hl : lv_has ls 1 [(0, .ref (lay kl))] := hl
  have hA : ∀ q, s.heap.size ≤ q → gA lay X s.heap.size q := fun _ h => Or.inr h
  refine va_new hC.1 hC.2.1 hC.2.2.2.2 i_itr_I tyJx35411 k_IT.2.1 hC.2.2.2.1 (hC.2.2.2.2 _ (wm 1 rfl)) (hC.2.2.2.2 _ (wm 2 rfl)) (hC.2.2.2.2 _ (wm 3 rfl)) hT.1 (gP_list G.1) (gI_list G.2.1) G.2.2 hA k_IT.1 (fs := [.int 0, .int 0, .int 0, .null]) (by decide) (Nat.le_of_ble_eq_true rfl) (Nat.le_of_ble_eq_true rfl) dJx4a65c_iterator_32c93_0 (fun q H hP hD hS => ?_)
  have hq : s.heap.size ≤ q := by
    rcases (gI_new G.2.1 h1 hD).2 ki _ hki gU_eq with ⟨j, x, hj, hx, hh⟩ | z
    · rw [gU_eq] at hh
      have hjk : j ≠ ki := fun z => by rw [z, h1] at hx; cases hx
      have := (gI_new G.2.1 h1 hD).1 ki j _ x hki hj gU_eq (by rw [gU_ne hjk]; exact hx) (by rw [gU_eq, gU_ne hjk]; exact hh)
      exact absurd this.symm hjk
    · rw [gU_eq] at z; exact z
  have G1 : gG D (gU lay ki q) (gU X ki (some (.inr (3, [.int 0, .int 0, .int 0, .null])))) (gA lay X s.heap.size) s.heap H [] := ⟨gP_new h1 hP, gI_new G.2.1 h1 hD, hS⟩
  refine lv_dup hC.1 hC.2.1 dJx4a65c_iterator_32c93_3 rfl ?_
  refine lv_aload_n hC.1 hC.2.1 dJx4a65c_iterator_32c93_4 rfl (lv_at hl 0 rfl) ?_
  have e1 : gU lay ki q ki = q := gU_eq
  have e2 : gU lay ki q kl = lay kl := gU_ne hne
  have hM := c_it_init l D cy (gU lay ki q) (gU X ki (some (.inr (3, [.int 0, .int 0, .int 0, .null])))) hki hkl hne gU_eq ((gU_ne hne).trans h2) H.size
  rw [e1, e2] at hM
  refine g_v G1 hA (h_runI (b := q) (As := [.ref (lay kl)]) (rest := [.ref q]) hC hT G1 hM ⟨callB_of 1 hC.2.2.2.2 ggJx4a65c_iterator_32c93_Jx35411_init_45d68 rfl rfl rfl (hC.2.2.2.2 (.initialized RJx35411) (wm 3 rfl)) (hC.2.2.2.2 (.methodLink RJx4a65c 269 yJx35411_init_45d68) (wm 4 rfl)) hdI_IT ⟨Nat.le_of_ble_eq_true rfl, Nat.le_of_ble_eq_true rfl⟩, rfl, hC.2.2.2.2 (.instanceMethod yJx35411_init_45d68) (wm 5 rfl)⟩ rfl hl.1 rfl (Nat.le_of_ble_eq_true rfl) dJx4a65c_iterator_32c93_5 ⟨Nat.le_of_ble_eq_true rfl, Nat.le_of_ble_eq_true rfl⟩) (fun Y H locs hY G => ?_)
  subst hY
  have G : gG D (gU lay ki q) (gU X ki (some (itE lay kl 0 (-1) mo))) (gA lay X s.heap.size) s.heap H locs := by
    have := gG_up2 G
    rw [show itE (gU lay ki q) kl 0 (-1) mo = itE lay kl 0 (-1) mo by unfold itE; rw [e2]] at this
    exact this
  exact W.aret (v := .ref q) hC.1 hC.2.1 hr (Or.inl ⟨_, rfl⟩) (Or.inr ⟨_, rfl⟩) (fun t ht hW => ⟨⟨(gU lay ki q, gU X ki (some (itE lay kl 0 (-1) mo))), q, rfl, ⟨q, hq, rfl⟩, e1.symm, by rw [ht]; exact G.1, G.2.1⟩, G.2.2.F ht⟩) G.2.2.2.2 dJx4a65c_iterator_32c93_8 hlocks
/-! in the reference's world: the walker over the weddings, in cell k -/
section RIT
variable {p : Program} {l : Launch} {e : Env} {R : Room} {s : State} {m : MethodId} {args : Array Value} {below : List Frame} {meth : Method} {c : Code} {H : Heap} {locs : List Loc} {cells slots : Nat} {Q : State → Prop}
variable {cc bytes : ByteArray} {pc nL maxL mc ms n index count : Nat} {ls : Array Slot} {ST rest As : List Value} {D : va_G} {cy : Nat → ClassId} {lay : Nat → Nat} {Γ : RG} {tm : Nat → Option (Nat × Nat)} {σ : MS} {Ts ws : List Cond} {own Cn host : String} {y : MethodName} {ret : Option FieldType} {rm : Room} {b : Addr}
variable {Qc : Array Value → State → Outcome → State → Prop} {free : Addr → Prop}
def itR (mo : Int32) : Nat → Int32 := fun j => if j = 1 then -1 else if j = 2 then mo else 0
theorem gA_rA (hT : rT D cy lay Γ s) (G : rG D cy lay Γ tm σ (rA cy lay Γ s.heap.size) s.heap H locs) : ∀ q, gA lay (rX cy lay Γ tm σ) H.size q → rA cy lay Γ s.heap.size q := gA_in G (fun _ h => Or.inr h)
theorem rg_iter {Q : (Nat → Nat) → State → Prop} (hQ : QL Q) (hC : CallFix p m c cc nL s args Ts own) (hT : rT D cy lay Γ s) (G : rG D cy lay Γ tm σ (rA cy lay Γ s.heap.size) s.heap H locs) (hO : tmO tm) {k : Nat} (hk : 64 ≤ k) (hk2 : k < 128) (hX : tm k = none) (cw : CallW R s args own RJx4a65c index yJx4a65c_iterator_32c93 cJx4a65c_iterator_32c93 1 (some (.object "java/util/Iterator")) wsJx4a65c_iterator_32c93 rm_itr 1 4 0)
    (hls : ls.size = nL) (hW : (rest.map fun v => v.category).sum ≤ 8) (hdg : decode cc pc = .ok (.invokevirtual index, 3)) (hf : cells + 1 ≤ R.cells ∧ slots + 4 ≤ R.slots)
    (kk : ∀ (lay' : Nat → Nat), (∀ j, j ≠ k → lay' j = lay j) → rT D cy lay' Γ s → ∀ (H1 : Heap) (locs1 : List Loc), rG D cy lay' Γ (gU tm k (some (2, 3))) (rw0 σ k (itR (σ 3 0))) (rA cy lay' Γ s.heap.size) s.heap H1 locs1 → W p l e R s m args below meth c H1 locs1 (cells + 1) (slots + 4) (Q lay') (F0 m (pc + 3) ls (.ref (lay' k) :: rest))) : W p l e R s m args below meth c H locs cells slots (Q lay) (F0 m pc ls (.ref (lay 3) :: rest)) := by
  have hX0 : rX cy lay Γ tm σ k = none := by rw [r_tm hk, hX]; rfl
  refine va_callr (h_runV (As := []) (rest := rest) hC ⟨hT.1, hT.2.1⟩ G (c_it_make l D cy lay (rX cy lay Γ tm σ) hk2 (by decide) (by omega) hX0 r_lw H.size) cw (rg_recv hT G (by decide) r_lw k_AL) rfl hls rfl hW hdg hf) G.2.2 (fun q _ h => gA_rA hT G q h) (gA_rA hT G) (fun Y ra t H1 locs1 ht hvm hw hB hz hk3 hS => ?_)
  obtain ⟨q, hq, rfl⟩ := hw
  obtain ⟨e1, hO1⟩ := hB
  have e1 : ra = q := e1.trans gU_eq
  subst e1
  have hl : ∀ j, j ≠ k → gU lay k ra j = lay j := fun j hj => gU_ne hj
  have hL : Lsm lay (gU lay k ra) := fun j hj => hl j (by omega)
  have hG : gG D (gU lay k ra) (gU (rX cy lay Γ tm σ) k (some (itE lay 3 0 (-1) (σ 3 0)))) (rA cy lay Γ s.heap.size) s.heap H1 locs1 := ⟨by rw [← ht]; exact hO1.1, gI_weak hO1.2 (gA_rA hT G), hS⟩
  have h := kk (gU lay k ra) hl (rT_lay hL hT) H1 locs1 (by
    rw [rA_lay hL]
    exact gG_eq (fun j _ => rX_new (t := (2, 3)) (f := itR (σ 3 0)) hT.2.2.2 hk (Or.inr (Nat.le_of_ble_eq_true rfl)) hl hO j) hG)
  rw [hQ lay _ hL, gU_eq] at h
  exact h
theorem r_it {k : Nat} (hk : 64 ≤ k) (h : tm k = some (2, 3)) : rX cy lay Γ tm σ k = some (itE lay 3 (σ k 0) (σ k 1) (σ k 2)) := by
  rw [r_tm hk, h]
  rfl
theorem rg_hasNext (hC : CallFix p m c cc nL s args Ts own) (hT : rT D cy lay Γ s) (G : rG D cy lay Γ tm σ (rA cy lay Γ s.heap.size) s.heap H locs) {k : Nat} (hk : 64 ≤ k) (hk2 : k < 128) (hX : tm k = some (2, 3)) (cw : va_CI R s args own RJx35411 index ⟨"java/util/Iterator", "hasNext", "()Z"⟩ yJx35411_hasNext_aae02 cJx35411_hasNext_aae02 1 (some .boolean) wsJx35411_hasNext_aae02 rm_it0 0 0 0)
    (hls : ls.size = nL) (hW : (rest.map fun v => v.category).sum ≤ 8) (hdg : decode cc pc = .ok (.invokeinterface index count, 5)) (hf : cells + 0 ≤ R.cells ∧ slots + 0 ≤ R.slots)
    (kk : ∀ (H1 : Heap) (locs1 : List Loc), rG D cy lay Γ tm σ (rA cy lay Γ s.heap.size) s.heap H1 locs1 → W p l e R s m args below meth c H1 locs1 (cells + 0) (slots + 0) Q (F0 m (pc + 5) ls (.int (b01 (!decide (σ k 0 = σ 3 2))) :: rest))) : W p l e R s m args below meth c H locs cells slots Q (F0 m pc ls (.ref (lay k) :: rest)) :=
  va_callFi (h_runF (As := []) (rest := rest) (hT.1.1 3 _ k_IT.1).2 hC ⟨hT.1, hT.2.1⟩ G (c_it_hasNext l D cy lay (rX cy lay Γ tm σ) hk2 (by decide) (r_it hk hX) r_lw H.size) cw (h_recv ⟨hT.1, hT.2.1⟩ G hk2 (r_it hk hX) k_IT) rfl hls rfl hW hdg hf) G.2.2 (fun q _ h => gA_rA hT G q h) (gA_rA hT G) (fun r Y t H1 locs1 ht hvm hw hB hz hk3 hS => by
    obtain ⟨e1, e2⟩ := hw
    subst e1
    subst e2
    exact kk H1 locs1 ⟨by rw [← ht]; exact hB.1, gI_weak hB.2 (gA_rA hT G), hS⟩)
theorem rg_next (hC : CallFix p m c cc nL s args Ts own) (hT : rT D cy lay Γ s) (G : rG D cy lay Γ tm σ (rA cy lay Γ s.heap.size) s.heap H locs) {k ci : Nat} (hk : 64 ≤ k) (hk2 : k < 128) (hX : tm k = some (2, 3)) (h0 : σ k 0 = nI ci ∧ ci < Γ.2.2.1) (h2 : σ k 2 = σ 3 0) (h3 : σ 3 2 = nI Γ.2.2.1) (cw : va_CI R s args own RJx35411 index ⟨"java/util/Iterator", "next", "()Ljava/lang/Object;"⟩ yJx35411_next_0502b cJx35411_next_0502b 3 (some (.object "java/lang/Object")) wsJx35411_next_0502b rm_itn 0 0 0)
    (hls : ls.size = nL) (hW : (rest.map fun v => v.category).sum ≤ 8) (hdg : decode cc pc = .ok (.invokeinterface index count, 5)) (hf : cells + 0 ≤ R.cells ∧ slots + 0 ≤ R.slots)
    (kk : ∀ (H1 : Heap) (locs1 : List Loc), rG D cy lay Γ tm (up2 (up2 σ k 0 (nI (ci + 1))) k 1 (nI ci)) (rA cy lay Γ s.heap.size) s.heap H1 locs1 → W p l e R s m args below meth c H1 locs1 (cells + 0) (slots + 0) Q (F0 m (pc + 5) ls (.ref (lay (33 + ci)) :: rest))) : W p l e R s m args below meth c H locs cells slots Q (F0 m pc ls (.ref (lay k) :: rest)) := by
  have hne : Γ.2.2.1 ≠ 0 := by omega
  have hB := hT.2.2.2.2.2
  have x1 : rX cy lay Γ tm σ k = some (itE lay 3 (nI ci) (σ k 1) (σ 3 0)) := by rw [r_it hk hX, h0.1, h2]
  have x2 : rX cy lay Γ tm σ 3 = some (.inr (4, [.int (σ 3 0), .ref (lay 6), .int (nI Γ.2.2.1)])) := by
    rw [r_lw, if_neg hne, h3]
  refine va_callFr (h_runF (As := []) (rest := rest) (hT.1.1 3 _ k_IT.1).2 hC ⟨hT.1, hT.2.1⟩ G (c_it_next l D cy lay (rX cy lay Γ tm σ) (q := lay (33 + ci)) hk2 (by decide) (by decide) (by omega) (by omega) x1 x2 (r_ew hne) h0.2 (by split <;> omega) (by split <;> omega) (if_pos h0.2) H.size) cw (h_recv ⟨hT.1, hT.2.1⟩ G hk2 x1 k_IT) rfl hls rfl hW hdg hf) G.2.2 (fun q _ h => gA_rA hT G q h) (gA_rA hT G) (fun Y ra t H1 locs1 ht hvm hw hB2 hz hk3 hS => ?_)
  subst hw
  obtain ⟨e1, hO1⟩ := hB2
  subst e1
  refine kk H1 locs1 ?_
  have hG : gG D lay (gU (rX cy lay Γ tm σ) k (some (itE lay 3 (nI (ci + 1)) (nI ci) (σ 3 0)))) (rA cy lay Γ s.heap.size) s.heap H1 locs1 := ⟨by rw [← ht]; exact hO1.1, gI_weak hO1.2 (gA_rA hT G), hS⟩
  refine gG_eq (fun j _ => ?_) hG
  by_cases hj : j = k
  · subst hj
    rw [gU_eq, r_it hk hX, up2_at (j' := 0) (by omega), up2_same, up2_same, up2_at (j' := 2) (by omega), up2_at (j' := 2) (by omega), h2]
  · rw [gU_ne hj]
    exact (r_loc ((up2_ne hj).trans (up2_ne hj))).symm
end RIT
theorem hdV_Jx4a65c_iterator_32c93 : yJx4a65c_iterator_32c93.cls = RJx4a65c ∧ yJx4a65c_iterator_32c93.cls ≠ "java/lang/invoke/MethodHandle" ∧ yJx4a65c_iterator_32c93.cls ≠ "java/lang/invoke/VarHandle" ∧ (parseMethodDescriptor yJx4a65c_iterator_32c93.desc).map (fun d => d.parameters.length) = some 0 := by decide +kernel
theorem hdF_hasNext : (⟨"java/util/Iterator", "hasNext", "()Z"⟩ : MethodName).cls ≠ "java/lang/invoke/MethodHandle" ∧ (⟨"java/util/Iterator", "hasNext", "()Z"⟩ : MethodName).cls ≠ "java/lang/invoke/VarHandle" ∧ (parseMethodDescriptor (⟨"java/util/Iterator", "hasNext", "()Z"⟩ : MethodName).desc).map (fun d => d.parameters.length) = some 0 := by decide +kernel
theorem hdF_next : (⟨"java/util/Iterator", "next", "()Ljava/lang/Object;"⟩ : MethodName).cls ≠ "java/lang/invoke/MethodHandle" ∧ (⟨"java/util/Iterator", "next", "()Ljava/lang/Object;"⟩ : MethodName).cls ≠ "java/lang/invoke/VarHandle" ∧ (parseMethodDescriptor (⟨"java/util/Iterator", "next", "()Ljava/lang/Object;"⟩ : MethodName).desc).map (fun d => d.parameters.length) = some 0 := by decide +kernel
end
section
/-! THE REFERENCE: a row of ints that is handed in, and read alone -/
def rIa (D : va_G) (cy : Nat → ClassId) (lay : Nat → Nat) (Γ : RG) (aq : Nat) (af : Nat → Int32) (σ : MS) (sz : Nat) (U : State) : Prop := rI D cy lay Γ σ sz U ∧ va_at D vwCl (aq, .inl (cy 0, 3, .inl af)) U.heap ∧ ¬ rA cy lay Γ sz aq
theorem rIa_blind {D : va_G} {cy : Nat → ClassId} {lay : Nat → Nat} {Γ : RG} {aq : Nat} {af : Nat → Int32} {σ : MS} {sz : Nat} {As : List Value} : FrameBlind (va_Pc As (rIa D cy lay Γ aq af σ sz)) := by
  intro a U g mk h
  obtain ⟨h0, h1, h2⟩ := h
  have := rI_blind (D := D) (cy := cy) (lay := lay) (Γ := Γ) (σ := σ) (sz := sz) (As := As) a U g mk ⟨h0, h1⟩
  exact ⟨this.1, this.2, h2⟩
section RARR
variable {p : Program} {l : Launch} {e : Env} {R : Room} {s : State} {m : MethodId} {args : Array Value} {below : List Frame} {meth : Method} {c : Code} {H : Heap} {locs : List Loc} {cells slots : Nat} {Q : State → Prop}
variable {cc bytes : ByteArray} {pc nL maxL mc ms n index : Nat} {ls : Array Slot} {ST rest As : List Value} {D : va_G} {cy : Nat → ClassId} {lay : Nat → Nat} {Γ : RG} {tm : Nat → Option (Nat × Nat)} {σ : MS} {aq : Nat} {af : Nat → Int32} {Ts ws : List Cond} {own Cn host : String} {y : MethodName} {ret : Option FieldType} {rm : Room} {b : Addr}
variable {Qc : Array Value → State → Outcome → State → Prop} {free : Addr → Prop}
theorem rg_ofA {ws' : List Cond} {maxL : Nat} {sz : Nat} {Qc : Nat → Array Value → State → Outcome → State → Prop} (hy : plainName y.cls = true) (hw : ws = Cond.code y cc maxL ret :: ws') (hnl : (lg_sl As).length ≤ maxL) (hoo : y.cls = own)
    (body : ∀ (p : Program) (e : Env) (s : State) (m : MethodId) (args : Array Value) (below : List Frame) (meth : Method) (c : Code) (ls : Array Slot), CallFix p m c cc maxL s args ws own → meth.sig.returnType = ret → meth.locks = false → rT D cy lay Γ s → (va_at D vwCl (aq, .inl (cy 0, 3, .inl af)) s.heap ∧ ¬ rA cy lay Γ s.heap.size aq) → rG D cy lay Γ tn σ (rA cy lay Γ s.heap.size) s.heap s.heap [] → lv_has ls maxL (lv_args 0 As) →
      W p l e rm s m args below meth c s.heap [] 0 0 (MQ below (Qc s.heap.size) args s mc ms (rA cy lay Γ s.heap.size)) (F0 m 0 ls [])) : Met l y ws rm (va_Pc As (rIa D cy lay Γ aq af σ sz)) (Qc sz) mc ms (rA cy lay Γ sz) := by
  refine Met.ofW (cc := cc) (maxL := maxL) (ret := ret) hy hw ?_
  intro p e s m args below meth c s₁ B hml hv
  obtain ⟨rfl, ⟨hsz, hT, hP, hD⟩, hra⟩ := hv
  subst hsz
  have hl := lv_entry As (n := maxL) hnl
  rw [lg_entry_eq]
  have hown : s.vm.findClass y.cls = some m.cls := findClass_of_methodNamed B.named
  rw [hoo] at hown
  exact body p e s m As.toArray below meth c _ ⟨B.exec, B.bytes, hml, hown, atoms_spec (ws := ws) B.pre⟩ B.returns B.notSynchronized hT hra ⟨hP, rI_of hD, va_S.rf⟩ hl
theorem rg_raload (hC : CallFix p m c cc nL s args Ts own) (hT : rT D cy lay Γ s) (G : rG D cy lay Γ tm σ (rA cy lay Γ s.heap.size) s.heap H locs) (hra : va_at D vwCl (aq, .inl (cy 0, 3, .inl af)) s.heap ∧ ¬ rA cy lay Γ s.heap.size aq) {i : Int32} (hin : vp_in i 3) (hdg : decode cc pc = .ok (.iaload, 1))
    (kk : W p l e R s m args below meth c H locs cells slots Q (F0 m (pc + 1) ls (.int (af i.toNatClampNeg) :: rest))) : W p l e R s m args below meth c H locs cells slots Q (F0 m pc ls (.int i :: .ref aq :: rest)) := by
  have hat : va_at D vwCl (aq, .inl (cy 0, 3, .inl af)) H := hra.1.kept (G.2.2.2.1 _ hra.1.lt hra.2)
  exact va_iald (ws := [(aq, .inl (cy 0, 3, .inl af))]) hC.1 hC.2.1 hT.1 (fun k q hk => by
    cases k with
    | zero => cases hk; exact hat
    | succ k => cases hk) 0 0 rfl rfl hin hdg kk
theorem rg_runVA (hC : CallFix p m c cc nL s args Ts own) (hT : rT D cy lay Γ s) (G : rG D cy lay Γ tm σ (rA cy lay Γ s.heap.size) s.heap H locs) {k : Nat} (hk : 64 ≤ k) (hk2 : k < 128) (hX : tm k = some (0, 3)) (hM : Met l y ws rm (va_Pc (.ref b :: As) (rIa D cy lay Γ (lay k) (σ k) σ H.size)) Qc mc ms free) (cw : CallW R s args own Cn index y bytes maxL ret ws rm mc ms n) (hrv : ∃ cell : Cell, H[b]? = some cell ∧ cell.vm.isStatics = false ∧ s.vm.findClass Cn = some cell.cls)
    (hn : As.length = n) (hls : ls.size = nL) (hst : ST = As.reverse ++ .ref b :: rest) (hW : (rest.map fun v => v.category).sum ≤ 8) (hdg : decode cc pc = .ok (.invokevirtual index, 3)) (hf : cells + mc ≤ R.cells ∧ slots + ms ≤ R.slots) :
    va_Run p l e R s m args below meth c H locs cells slots mc ms (F0 m pc ls ST) rest (Qc (.ref b :: As).toArray) free :=
  va_runV hC hM cw ⟨rIa_blind, hrv, fun U hU hW => ⟨rfl, rI_next hT (rG_drop G hT.2.2.2) hU hW, by
    have hx : rX cy lay Γ tm σ k = some (.inl (cy 0, 3, .inl (σ k))) := r_ti hk hX
    rw [hU]
    refine ⟨G.1 k _ hk2 hx, fun z => ?_⟩
    rcases z with ⟨j, hj, hs, hq⟩ | z
    · have h2 := r_some (cy := cy) (lay := lay) (lay' := lay) (Γ := Γ) (tm := tn) (tm' := tm) (σ := fun _ _ => 0) (σ' := σ) hj
      rw [hs] at h2
      cases q : rX cy lay Γ tm σ j with
      | none => rw [q] at h2; cases h2
      | some y =>
        have := G.2.1.1 k j _ y hk2 (by omega) hx q hq
        omega
    · exact absurd z (Nat.not_le.mpr (G.1 k _ hk2 hx).lt)⟩⟩ rfl hn hls hst (lv_room hW) hdg hf
end RARR
/-! how many can still be played in a call: a number beside the world -/
def gh (σ : MS) : Nat := (σ 62 0).toNatClampNeg
theorem gh_up {σ : MS} {k j : Nat} {v : Int32} (h : k ≠ 62) : gh (up2 σ k j v) = gh σ := by
  unfold gh
  rw [up2_ne (Ne.symm h)]
theorem gh_rw0 {σ : MS} {k : Nat} {f : Nat → Int32} (h : k ≠ 62) : gh (rw0 σ k f) = gh σ := by
  unfold gh
  rw [rw0_ne (Ne.symm h)]
theorem gh_mrg {σ' σ : MS} : gh (mrg σ' σ) = gh σ' := by
  unfold gh
  rw [mrg_lo (by decide)]
theorem gh_set {σ : MS} {b : Nat} (h : b < 2 ^ 31) : gh (up2 σ 62 0 (nI b)) = b := by
  unfold gh
  rw [up2_same, nI_clamp h]
theorem rG_gh {D : va_G} {cy : Nat → ClassId} {lay : Nat → Nat} {Γ : RG} {tm : Nat → Option (Nat × Nat)} {σ : MS} {A : Nat → Prop} {H0 H : Heap} {locs : List Loc} {v : Int32} (G : rG D cy lay Γ tm σ A H0 H locs) : rG D cy lay Γ tm (up2 σ 62 0 v) A H0 H locs :=
  gG_eq (fun k _ => by
    by_cases h : k = 62
    · subst h
      rfl
    · exact (r_loc (up2_ne h)).symm) G
end
