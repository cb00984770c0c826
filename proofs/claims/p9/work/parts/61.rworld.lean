/-! THE REFERENCE'S WORLD: cells by number; 's k j' the number in place j of cell k.
0 the model; 1, 2, 3 its lists (players, bands, weddings); 4, 5, 6 their rows; 7 keys, 8 energies, 9 minutes, 10 plays (16 each); 11 roads, 12 drives (36 each);
13 to 22 players; 23 to 32 their days off; 33 to 46 weddings; 64 on: what a method makes for itself. -/
/-- how many players, bands, weddings; the empty row's address; where the bands' shapes lie -/
abbrev RG : Type := Nat × Nat × Nat × Nat × (Nat → Nat) × (Nat → Int32)
def m64 (h l : Int32) : Int64 := ⟨⟨h.toBitVec ++ l.toBitVec⟩⟩
def hi32 (v : Int64) : Int32 := ⟨⟨v.toBitVec.extractLsb' 32 32⟩⟩
def lo32 (v : Int64) : Int32 := ⟨⟨v.toBitVec.extractLsb' 0 32⟩⟩
theorem m64_of (v : Int64) : m64 (hi32 v) (lo32 v) = v := by
  apply Int64.toBitVec_inj.mp
  show v.toBitVec.extractLsb' 32 32 ++ v.toBitVec.extractLsb' 0 32 = v.toBitVec
  apply BitVec.eq_of_getLsbD_eq
  intro i hi
  rw [BitVec.getLsbD_append]
  by_cases h : i < 32
  · simp [h]
  · simp [h]
    rw [decide_eq_true (by omega : i - 32 < 32), Bool.true_and, show 32 + (i - 32) = i by omega]
abbrev Lmo (lay : Nat → Nat) (f : Nat → Int32) : List Value := [.int (f 0), .int (f 1), .int (f 2), .ref (lay 1), .ref (lay 2), .ref (lay 3), .ref (lay 7), .ref (lay 8), .ref (lay 9), .ref (lay 10), .ref (lay 11), .ref (lay 12), .long (m64 (f 12) (f 13))]
abbrev Lrp (f : Nat → Int32) (o : Nat) : List Value := [.int (f 0), .int (f 1), .int (f 2), .int (f 3), .int (f 4), .int (f 5), .ref o]
abbrev rfS (g : Nat → Option Nat) : (Nat → Int32) ⊕ (Nat → Int64) ⊕ (Nat → UInt32) ⊕ (Nat → UInt64) ⊕ (Nat → Option Nat) := .inr (.inr (.inr (.inr g)))
/-- a list: its row is the empty one while it has nothing -/
def rL (cy : Nat → ClassId) (lay : Nat → Nat) (n ea k : Nat) (f : Nat → Int32) : va_E := .inr (4, [.int (f 0), .ref (if n = 0 then ea else lay k), .int (f 2)])
/-- what a method makes for itself: a row of ints, of booleans, a walker over a list -/
def rTm (cy : Nat → ClassId) (lay : Nat → Nat) (f : Nat → Int32) (t : Nat × Nat) : va_E := if t.1 = 0 then .inl (cy 0, t.2, .inl f) else if t.1 = 1 then .inl (cy 1, t.2, .inl f) else .inr (3, [.int (f 0), .int (f 1), .int (f 2), .ref (lay t.2)])
def rX (cy : Nat → ClassId) (lay : Nat → Nat) (Γ : RG) (tm : Nat → Option (Nat × Nat)) (σ : MS) (k : Nat) : Option va_E :=
  if k = 0 then some (.inr (16, Lmo lay (σ 0)))
  else if k = 1 then some (rL cy lay Γ.1 Γ.2.2.2.1 4 (σ 1))
  else if k = 2 then some (rL cy lay Γ.2.1 Γ.2.2.2.1 5 (σ 2))
  else if k = 3 then some (rL cy lay Γ.2.2.1 Γ.2.2.2.1 6 (σ 3))
  else if k = 4 then (if Γ.1 = 0 then none else some (.inl (cy 7, 10, rfS fun i => if i < Γ.1 then some (lay (13 + i)) else none)))
  else if k = 5 then (if Γ.2.1 = 0 then none else some (.inl (cy 7, 10, rfS fun i => if i < Γ.2.1 then some (Γ.2.2.2.2.1 i) else none)))
  else if k = 6 then (if Γ.2.2.1 = 0 then none else some (.inl (cy 7, if Γ.2.2.1 ≤ 10 then 10 else 15, rfS fun i => if i < Γ.2.2.1 then some (lay (33 + i)) else none)))
  else if k < 11 then some (.inl (cy 0, 16, .inl (σ k)))
  else if k < 13 then some (.inl (cy 0, 36, .inl (σ k)))
  else if k < 23 then (if k - 13 < Γ.1 then some (.inr (14, Lrp (σ k) (lay (23 + (k - 13))))) else none)
  else if k < 33 then (if k - 23 < Γ.1 then some (.inl (cy 1, 366, .inl (σ k))) else none)
  else if k < 47 then (if k - 33 < Γ.2.2.1 then some (.inr (15, L12 (σ k))) else none)
  else if k < 64 then none
  else (tm k).map (rTm cy lay (σ k))
section RX
variable {cy : Nat → ClassId} {lay : Nat → Nat} {Γ : RG} {tm : Nat → Option (Nat × Nat)} {σ : MS}
theorem r_mo : rX cy lay Γ tm σ 0 = some (.inr (16, Lmo lay (σ 0))) := rfl
theorem r_lp : rX cy lay Γ tm σ 1 = some (.inr (4, [.int (σ 1 0), .ref (if Γ.1 = 0 then Γ.2.2.2.1 else lay 4), .int (σ 1 2)])) := rfl
theorem r_lb : rX cy lay Γ tm σ 2 = some (.inr (4, [.int (σ 2 0), .ref (if Γ.2.1 = 0 then Γ.2.2.2.1 else lay 5), .int (σ 2 2)])) := rfl
theorem r_lw : rX cy lay Γ tm σ 3 = some (.inr (4, [.int (σ 3 0), .ref (if Γ.2.2.1 = 0 then Γ.2.2.2.1 else lay 6), .int (σ 3 2)])) := rfl
theorem r_ep (h : Γ.1 ≠ 0) : rX cy lay Γ tm σ 4 = some (.inl (cy 7, 10, rfS fun i => if i < Γ.1 then some (lay (13 + i)) else none)) := if_neg h
theorem r_eb (h : Γ.2.1 ≠ 0) : rX cy lay Γ tm σ 5 = some (.inl (cy 7, 10, rfS fun i => if i < Γ.2.1 then some (Γ.2.2.2.2.1 i) else none)) := if_neg h
theorem r_ew (h : Γ.2.2.1 ≠ 0) : rX cy lay Γ tm σ 6 = some (.inl (cy 7, if Γ.2.2.1 ≤ 10 then 10 else 15, rfS fun i => if i < Γ.2.2.1 then some (lay (33 + i)) else none)) := if_neg h
theorem r_ky : rX cy lay Γ tm σ 7 = some (.inl (cy 0, 16, .inl (σ 7))) := rfl
theorem r_en : rX cy lay Γ tm σ 8 = some (.inl (cy 0, 16, .inl (σ 8))) := rfl
theorem r_mi : rX cy lay Γ tm σ 9 = some (.inl (cy 0, 16, .inl (σ 9))) := rfl
theorem r_py : rX cy lay Γ tm σ 10 = some (.inl (cy 0, 16, .inl (σ 10))) := rfl
theorem r_ro : rX cy lay Γ tm σ 11 = some (.inl (cy 0, 36, .inl (σ 11))) := rfl
theorem r_dr : rX cy lay Γ tm σ 12 = some (.inl (cy 0, 36, .inl (σ 12))) := rfl
theorem r_pl {i : Nat} (h : i < 10 ∧ i < Γ.1) : rX cy lay Γ tm σ (13 + i) = some (.inr (14, Lrp (σ (13 + i)) (lay (23 + i)))) := by
  have h1 := h.1
  have h2 := h.2
  unfold rX
  rw [if_neg (by omega), if_neg (by omega), if_neg (by omega), if_neg (by omega), if_neg (by omega), if_neg (by omega), if_neg (by omega), if_neg (by omega), if_neg (by omega), if_pos (by omega), show 13 + i - 13 = i by omega, if_pos h2]
theorem r_of {i : Nat} (h : i < 10 ∧ i < Γ.1) : rX cy lay Γ tm σ (23 + i) = some (.inl (cy 1, 366, .inl (σ (23 + i)))) := by
  have h1 := h.1
  have h2 := h.2
  unfold rX
  rw [if_neg (by omega), if_neg (by omega), if_neg (by omega), if_neg (by omega), if_neg (by omega), if_neg (by omega), if_neg (by omega), if_neg (by omega), if_neg (by omega), if_neg (by omega), if_pos (by omega), show 23 + i - 23 = i by omega, if_pos h2]
theorem r_wd {i : Nat} (h : i < 14 ∧ i < Γ.2.2.1) : rX cy lay Γ tm σ (33 + i) = some (.inr (15, L12 (σ (33 + i)))) := by
  have h1 := h.1
  have h2 := h.2
  unfold rX
  rw [if_neg (by omega), if_neg (by omega), if_neg (by omega), if_neg (by omega), if_neg (by omega), if_neg (by omega), if_neg (by omega), if_neg (by omega), if_neg (by omega), if_neg (by omega), if_neg (by omega), if_pos (by omega), show 33 + i - 33 = i by omega, if_pos h2]
theorem r_tm {k : Nat} (h : 64 ≤ k) : rX cy lay Γ tm σ k = (tm k).map (rTm cy lay (σ k)) := by
  unfold rX
  rw [if_neg (by omega), if_neg (by omega), if_neg (by omega), if_neg (by omega), if_neg (by omega), if_neg (by omega), if_neg (by omega), if_neg (by omega), if_neg (by omega), if_neg (by omega), if_neg (by omega), if_neg (by omega), if_neg (by omega)]
/-- the world looks at cell k for itself alone -/
theorem r_loc {σ' : MS} {k : Nat} (h : σ' k = σ k) : rX cy lay Γ tm σ' k = rX cy lay Γ tm σ k := by
  by_cases h0 : k = 0
  · subst h0; unfold rX; rw [if_pos rfl, if_pos rfl, h]
  by_cases h1 : k = 1
  · subst h1; unfold rX; rw [if_neg h0, if_pos rfl, if_neg h0, if_pos rfl, h]
  by_cases h2 : k = 2
  · subst h2; unfold rX; rw [if_neg h0, if_neg h1, if_pos rfl, if_neg h0, if_neg h1, if_pos rfl, h]
  by_cases h3 : k = 3
  · subst h3; unfold rX; rw [if_neg h0, if_neg h1, if_neg h2, if_pos rfl, if_neg h0, if_neg h1, if_neg h2, if_pos rfl, h]
  unfold rX
  rw [if_neg h0, if_neg h1, if_neg h2, if_neg h3, if_neg h0, if_neg h1, if_neg h2, if_neg h3, h]
theorem r_upd {k j : Nat} {v : Int32} {e : va_E} (he : rX cy lay Γ tm (up2 σ k j v) k = some e) : gU (rX cy lay Γ tm σ) k (some e) = rX cy lay Γ tm (up2 σ k j v) := by
  funext i
  by_cases h : i = k
  · subst h; rw [gU_eq, he]
  · rw [gU_ne h]; exact (r_loc (up2_ne h)).symm
end RX
def tn : Nat → Option (Nat × Nat) := fun _ => none
theorem r_some {cy : Nat → ClassId} {lay lay' : Nat → Nat} {Γ : RG} {tm tm' : Nat → Option (Nat × Nat)} {σ σ' : MS} {k : Nat} (hk : k < 64) : (rX cy lay Γ tm σ k).isSome = (rX cy lay' Γ tm' σ' k).isSome := by
  unfold rX
  by_cases c0 : k = 0
  · simp [c0]
  by_cases c1 : k = 1
  · simp [c1]
  by_cases c2 : k = 2
  · simp [c2]
  by_cases c3 : k = 3
  · simp [c3]
  by_cases c4 : k = 4
  · simp [c4]
    by_cases z : Γ.1 = 0
    · simp [z]
    · simp [z]
  by_cases c5 : k = 5
  · simp [c5]
  by_cases c6 : k = 6
  · simp [c6]
    by_cases z : Γ.2.2.1 = 0
    · simp [z]
    · simp [z]
  by_cases c7 : k < 11
  · simp [c0, c1, c2, c3, c4, c5, c6, c7]
  by_cases c8 : k < 13
  · simp [c0, c1, c2, c3, c4, c5, c6, c7, c8]
  by_cases c9 : k < 23
  · simp [c0, c1, c2, c3, c4, c5, c6, c7, c8, c9]
    by_cases z : k - 13 < Γ.1
    · simp [z]
    · simp [z]
  by_cases c10 : k < 33
  · simp [c0, c1, c2, c3, c4, c5, c6, c7, c8, c9, c10]
    by_cases z : k - 23 < Γ.1
    · simp [z]
    · simp [z]
  by_cases c11 : k < 47
  · simp [c0, c1, c2, c3, c4, c5, c6, c7, c8, c9, c10, c11]
    by_cases z : k - 33 < Γ.2.2.1
    · simp [z]
    · simp [z]
  simp [c0, c1, c2, c3, c4, c5, c6, c7, c8, c9, c10, c11, hk]
/-- the world's addresses, and new ones -/
def rA (cy : Nat → ClassId) (lay : Nat → Nat) (Γ : RG) (n : Nat) : Nat → Prop := fun q => (∃ k, k < 64 ∧ (rX cy lay Γ tn (fun _ _ => 0) k).isSome = true ∧ q = lay k) ∨ n ≤ q
theorem rA_new {cy : Nat → ClassId} {lay : Nat → Nat} {Γ : RG} {n : Nat} : ∀ q, n ≤ q → rA cy lay Γ n q := fun _ h => Or.inr h
theorem rA_le {cy : Nat → ClassId} {lay : Nat → Nat} {Γ : RG} {n k : Nat} (h : n ≤ k) : ∀ q, rA cy lay Γ k q → rA cy lay Γ n q := fun _ hq => hq.elim Or.inl (fun h2 => Or.inr (Nat.le_trans h h2))
theorem rI_of {cy : Nat → ClassId} {lay : Nat → Nat} {Γ : RG} {σ : MS} {A : Nat → Prop} {n : Nat} (h : gI A lay (rX cy lay Γ tn σ)) : gI (rA cy lay Γ n) lay (rX cy lay Γ tn σ) := ⟨h.1, fun k e hk hX => by
  by_cases h64 : k < 64
  · exact Or.inl ⟨k, h64, by rw [r_some (lay' := lay) (tm' := tn) (σ' := σ) h64, hX]; rfl, rfl⟩
  · rw [r_tm (by omega)] at hX
    exact absurd hX (by unfold tn; simp)⟩
/-- the bands' shapes and the empty row, apart from the world -/
def rS (D : va_G) (cy : Nat → ClassId) (Γ : RG) (A : Nat → Prop) (U : State) (H : Heap) : Prop :=
  ((∃ cell : Cell, H[Γ.2.2.2.1]? = some cell) ∧ ¬ A Γ.2.2.2.1) ∧ ∀ i, i < Γ.2.1 → va_O RJ6 (Γ.2.2.2.2.1 i) A U H ∧ va_OF RJ6 "value" "I" (.int (Γ.2.2.2.2.2 i)) (Γ.2.2.2.2.1 i) A U H
theorem bxO_kept {E : String} {t : Nat} {A B : Nat → Prop} {U : State} {H H1 : Heap} (h : va_O E t A U H) (hq : ∀ q : Nat, q < H.size → ¬ A q → H1[q]? = H[q]?) (hB : ∀ q, q < H.size → B q → A q) : va_O E t B U H1 := by
  obtain ⟨cell, h1, h2, h3, h4⟩ := h
  have hl := (Array.getElem?_eq_some_iff.mp h1).1
  exact ⟨cell, by rw [hq t hl h4]; exact h1, h2, h3, fun z => h4 (hB t hl z)⟩
theorem bxF_kept {o n d : String} {v : Value} {t : Nat} {A B : Nat → Prop} {U : State} {H H1 : Heap} (h : va_OF o n d v t A U H) (hq : ∀ q : Nat, q < H.size → ¬ A q → H1[q]? = H[q]?) (hB : ∀ q, q < H.size → B q → A q) : va_OF o n d v t B U H1 := by
  obtain ⟨cf, k, i, f, cell, h1, h2, h3, h4, h5, h6⟩ := h
  have hl := (Array.getElem?_eq_some_iff.mp h3).1
  exact ⟨cf, k, i, f, cell, h1, h2, by rw [hq t hl h6]; exact h3, h4, h5, fun z => h6 (hB t hl z)⟩
theorem rS_kept {D : va_G} {cy : Nat → ClassId} {Γ : RG} {A B : Nat → Prop} {U : State} {H H1 : Heap} (h : rS D cy Γ A U H) (hq : ∀ q : Nat, q < H.size → ¬ A q → H1[q]? = H[q]?) (hB : ∀ q, q < H.size → B q → A q) : rS D cy Γ B U H1 :=
  have hlt : Γ.2.2.2.1 < H.size := h.1.1.elim (fun _ hc => (Array.getElem?_eq_some_iff.mp hc).1)
  ⟨⟨h.1.1.elim (fun cell hc => ⟨cell, by rw [hq _ hlt h.1.2]; exact hc⟩), fun z => h.1.2 (hB _ hlt z)⟩, fun i hi => ⟨bxO_kept (h.2 i hi).1 hq hB, bxF_kept (h.2 i hi).2 hq hB⟩⟩
theorem rS_moved {D : va_G} {cy : Nat → ClassId} {Γ : RG} {A : Nat → Prop} {u U : State} {H : Heap} (hvm : u.vm.Alike U.vm) (h : rS D cy Γ A u H) : rS D cy Γ A U H :=
  ⟨h.1, fun i hi => ⟨va_O.moved hvm (h.2 i hi).1, va_OF.moved hvm (h.2 i hi).2⟩⟩
def nestR : List Cond := [.fieldLinkNest "java/util/ArrayList$Itr" 28 "java/util/ArrayList" "size" "I" "java/util/ArrayList", .methodLinkNest "FirstdanceAgencyModel" 70 ⟨"FirstdanceAgencyModel$Player", "<init>", "()V"⟩ "FirstdanceAgencyModel", .fieldLinkNest "FirstdanceAgencyModel" 71 "FirstdanceAgencyModel$Player" "instruments" "I" "FirstdanceAgencyModel", .fieldLinkNest "FirstdanceAgencyModel" 74 "FirstdanceAgencyModel$Player" "songs" "I" "FirstdanceAgencyModel", .fieldLinkNest "FirstdanceAgencyModel" 77 "FirstdanceAgencyModel$Player" "home" "I" "FirstdanceAgencyModel", .fieldLinkNest "FirstdanceAgencyModel" 80 "FirstdanceAgencyModel$Player" "fee" "I" "FirstdanceAgencyModel", .fieldLinkNest "FirstdanceAgencyModel" 99 "FirstdanceAgencyModel$Player" "feuds" "I" "FirstdanceAgencyModel", .fieldLinkNest "FirstdanceAgencyModel" 267 "FirstdanceAgencyModel$Player" "earned" "I" "FirstdanceAgencyModel", .fieldLinkNest "FirstdanceAgencyModel" 156 "FirstdanceAgencyModel$Player" "isOff" "[Z" "FirstdanceAgencyModel", .methodLinkNest "FirstdanceAgencyModel" 142 ⟨"FirstdanceAgencyModel$Wedding", "<init>", "()V"⟩ "FirstdanceAgencyModel", .fieldLinkNest "FirstdanceAgencyModel" 127 "FirstdanceAgencyModel$Wedding" "band" "I" "FirstdanceAgencyModel", .fieldLinkNest "FirstdanceAgencyModel" 130 "FirstdanceAgencyModel$Wedding" "day" "I" "FirstdanceAgencyModel", .fieldLinkNest "FirstdanceAgencyModel" 143 "FirstdanceAgencyModel$Wedding" "town" "I" "FirstdanceAgencyModel", .fieldLinkNest "FirstdanceAgencyModel" 146 "FirstdanceAgencyModel$Wedding" "start" "I" "FirstdanceAgencyModel", .fieldLinkNest "FirstdanceAgencyModel" 149 "FirstdanceAgencyModel$Wedding" "length" "I" "FirstdanceAgencyModel", .fieldLinkNest "FirstdanceAgencyModel" 152 "FirstdanceAgencyModel$Wedding" "songs" "I" "FirstdanceAgencyModel", .fieldLinkNest "FirstdanceAgencyModel" 153 "FirstdanceAgencyModel$Wedding" "told" "I" "FirstdanceAgencyModel", .fieldLinkNest "FirstdanceAgencyModel" 124 "FirstdanceAgencyModel$Wedding" "state" "I" "FirstdanceAgencyModel", .fieldLinkNest "FirstdanceAgencyModel" 160 "FirstdanceAgencyModel$Wedding" "set" "I" "FirstdanceAgencyModel", .fieldLinkNest "FirstdanceAgencyModel" 207 "FirstdanceAgencyModel$Wedding" "price" "I" "FirstdanceAgencyModel", .fieldLinkNest "FirstdanceAgencyModel" 252 "FirstdanceAgencyModel$Wedding" "late" "I" "FirstdanceAgencyModel", .fieldLinkNest "FirstdanceAgencyModel" 210 "FirstdanceAgencyModel$Wedding" "paid" "I" "FirstdanceAgencyModel", .declares ⟨"java/util/Iterator", "hasNext", "()Z"⟩, .declares ⟨"java/util/Iterator", "next", "()Ljava/lang/Object;"⟩, .castable "java/util/ArrayList$Itr" "java/util/Iterator", .castable "FirstdanceAgencyModel$Player" "java/lang/Object", .castable "FirstdanceAgencyModel$Wedding" "java/lang/Object", .castable "java/lang/Integer" "java/lang/Object"]
theorem nestR_ok : ∀ w ∈ nestR, nestB w = true := List.all_eq_true.mp (by rfl)
/-- what the tables say: the nest's words, the walker's two calls -/
def rN (U : State) : Prop := (∀ w ∈ nestR, va_Nw w U) ∧ va_Fw RJx35411 ⟨"java/util/Iterator", "hasNext", "()Z"⟩ yJx35411_hasNext_aae02 U ∧ va_Fw RJx35411 ⟨"java/util/Iterator", "next", "()Ljava/lang/Object;"⟩ yJx35411_next_0502b U
theorem it_mh : (⟨"java/util/Iterator", "hasNext", "()Z"⟩ : MethodName).cls ≠ "java/lang/invoke/MethodHandle" ∧ (⟨"java/util/Iterator", "hasNext", "()Z"⟩ : MethodName).cls ≠ "java/lang/invoke/VarHandle" := by decide +kernel
theorem it_mh2 : (⟨"java/util/Iterator", "next", "()Ljava/lang/Object;"⟩ : MethodName).cls ≠ "java/lang/invoke/MethodHandle" ∧ (⟨"java/util/Iterator", "next", "()Ljava/lang/Object;"⟩ : MethodName).cls ≠ "java/lang/invoke/VarHandle" := by decide +kernel
theorem rN_warm {s U : State} (hW : s.WarmedH U.vm) (h : rN s) : rN U := ⟨fun w hw => nest_warm hW w (nestR_ok w hw) (h.1 w hw), va_Fw.moved it_mh hW.alike h.2.1, va_Fw.moved it_mh2 hW.alike h.2.2⟩
theorem rN_same {u U : State} (hv : u.vm = U.vm) (h : rN u) : rN U := ⟨fun w hw => nest_same hv w (nestR_ok w hw) (h.1 w hw), va_Fw.moved it_mh (hv ▸ Vm.Alike.refl u.vm) h.2.1, va_Fw.moved it_mh2 (hv ▸ Vm.Alike.refl u.vm) h.2.2⟩
/-- how many there can be -/
def rB (Γ : RG) : Prop := Γ.1 ≤ 10 ∧ Γ.2.1 ≤ 6 ∧ Γ.2.2.1 ≤ 14
def rT (D : va_G) (cy : Nat → ClassId) (lay : Nat → Nat) (Γ : RG) (U : State) : Prop := va_K D vwCl (fdT cy) U ∧ rN U ∧ rS D cy Γ (rA cy lay Γ U.heap.size) U U.heap ∧ rB Γ
def rG (D : va_G) (cy : Nat → ClassId) (lay : Nat → Nat) (Γ : RG) (tm : Nat → Option (Nat × Nat)) (σ : MS) (A : Nat → Prop) (H0 H : Heap) (locs : List Loc) : Prop := gG D lay (rX cy lay Γ tm σ) A H0 H locs
/-- a method's start, its end -/
def rI (D : va_G) (cy : Nat → ClassId) (lay : Nat → Nat) (Γ : RG) (σ : MS) (sz : Nat) (U : State) : Prop := U.heap.size = sz ∧ rT D cy lay Γ U ∧ gP D lay (rX cy lay Γ tn σ) U.heap ∧ gI (fun _ => True) lay (rX cy lay Γ tn σ)
def rO (D : va_G) (cy : Nat → ClassId) (lay : Nat → Nat) (Γ : RG) (σ : MS) (t : State) : Prop := gP D lay (rX cy lay Γ tn σ) t.heap ∧ gI (fun _ => True) lay (rX cy lay Γ tn σ)
theorem rT_next {D : va_G} {cy : Nat → ClassId} {lay : Nat → Nat} {Γ : RG} {s U : State} {H : Heap} {locs : List Loc} (hT : rT D cy lay Γ s) (hS : va_S (rA cy lay Γ s.heap.size) s.heap H locs) (hU : U.heap = H) (hW : s.WarmedH U.vm) : rT D cy lay Γ U :=
  ⟨va_K.moved hW.alike hT.1, rN_warm hW hT.2.1, by rw [hU]; exact rS_kept (rS_moved hW.alike hT.2.2.1) hS.2.1 (fun q hq => rA_le hS.1 q), hT.2.2.2⟩
theorem rI_blind {D : va_G} {cy : Nat → ClassId} {lay : Nat → Nat} {Γ : RG} {σ : MS} {sz : Nat} {As : List Value} : FrameBlind (va_Pc As (rI D cy lay Γ σ sz)) := by
  intro a U g mk h
  obtain ⟨h0, h1, ⟨k1, k2, k3, k4⟩, h2, h3⟩ := h
  exact ⟨h0, h1, ⟨va_K.moved (u := U) (U := U.calling g mk a) (Vm.Alike.refl U.vm) k1, rN_same (u := U) (U := U.calling g mk a) rfl k2, rS_moved (u := U) (U := U.calling g mk a) (Vm.Alike.refl U.vm) k3, k4⟩, h2, h3⟩
theorem gI_true {A : Nat → Prop} {lay : Nat → Nat} {X : Nat → Option va_E} (h : gI A lay X) : gI (fun _ => True) lay X := gI_weak h (fun _ _ => trivial)
theorem rI_next {D : va_G} {cy : Nat → ClassId} {lay : Nat → Nat} {Γ : RG} {σ : MS} {s U : State} {H : Heap} {locs : List Loc} (hT : rT D cy lay Γ s) (G : rG D cy lay Γ tn σ (rA cy lay Γ s.heap.size) s.heap H locs) (hU : U.heap = H) (hW : s.WarmedH U.vm) : rI D cy lay Γ σ H.size U :=
  ⟨by rw [hU], rT_next hT G.2.2 hU hW, by rw [hU]; exact G.1, gI_true G.2.1⟩
theorem rO_G {D : va_G} {cy : Nat → ClassId} {lay : Nat → Nat} {Γ : RG} {σ : MS} {s t : State} {H : Heap} {locs : List Loc} (G : rG D cy lay Γ tn σ (rA cy lay Γ s.heap.size) s.heap H locs) (ht : t.heap = H) : rO D cy lay Γ σ t := ⟨by rw [ht]; exact G.1, gI_true G.2.1⟩
theorem k_X9 : agCl RX9 TX9 7 14 tyX9 := ⟨rfl, tyX9_ok, nmX9⟩
theorem k_X10 : agCl RX10 TX10 12 15 tyX10 := ⟨rfl, tyX10_ok, nmX10⟩
theorem k_X11 : agCl RX11 TX11 13 16 tyX11 := ⟨rfl, tyX11_ok, nmX11⟩
theorem k_AL : agCl RJx4a65c TJx4a65c 3 4 tyJx4a65c := ⟨rfl, tyJx4a65c_ok, nmJx4a65c⟩
theorem k_IN : agCl RJ6 TJ6 1 2 tyJ6 := ⟨rfl, tyJ6_ok, nmJ6⟩
theorem rk_pl {i : Nat} {Γ : RG} (h : i < 10 ∧ i < Γ.1) : 13 + i < 128 := by have := h.1; omega
theorem rk_of {i : Nat} {Γ : RG} (h : i < 10 ∧ i < Γ.1) : 23 + i < 128 := by have := h.1; omega
theorem rk_wd {i : Nat} {Γ : RG} (h : i < 14 ∧ i < Γ.2.2.1) : 33 + i < 128 := by have := h.1; omega
section RROWS
variable {p : Program} {l : Launch} {e : Env} {R : Room} {s : State} {m : MethodId} {args : Array Value} {below : List Frame} {meth : Method} {c : Code} {H : Heap} {locs : List Loc} {cells slots : Nat} {Q : State → Prop}
variable {cc bytes : ByteArray} {pc nL maxL mc ms n index : Nat} {ls : Array Slot} {ST rest As : List Value} {D : va_G} {cy : Nat → ClassId} {lay : Nat → Nat} {Γ : RG} {tm : Nat → Option (Nat × Nat)} {σ : MS} {A : Nat → Prop} {H0 : Heap} {Ts ws : List Cond} {own Cn host : String} {y : MethodName} {ret : Option FieldType} {rm : Room} {b : Addr}
variable {Qc : Array Value → State → Outcome → State → Prop} {free : Addr → Prop}
theorem rg_get {C : String} {T : u_T} {N ci index : Nat} {ty : Nat → FieldType} (hC : CallFix p m c cc nL s args Ts own) (hT : rT D cy lay Γ s) (G : rG D cy lay Γ tm σ A H0 H locs) {k : Nat} (hk : k < 128) {fs : List Value} (he : rX cy lay Γ tm σ k = some (.inr (ci, fs))) (hcl : agCl C T N ci ty) (hin : ∀ w ∈ u_ws C T N, w ∈ Ts) (j : Nat) (hj : j < N) (hl : Cond.fieldLink own index (T j).1 (T j).2.1 (T j).2.2.1 ∈ Ts) {v : Value} (hv : fs[j]? = some v) (hdg : decode cc pc = .ok (.getfield index, 3))
    (kk : W p l e R s m args below meth c H locs cells slots Q (F0 m (pc + 3) ls (v :: rest))) : W p l e R s m args below meth c H locs cells slots Q (F0 m pc ls (.ref (lay k) :: rest)) := g_get hC hT.1 G hk he hcl hin j hj hl hv hdg kk
theorem rg_getN {C : String} {T : u_T} {N ci index : Nat} {ty : Nat → FieldType} (hC : CallFix p m c cc nL s args Ts own) (hT : rT D cy lay Γ s) (G : rG D cy lay Γ tm σ A H0 H locs) {k : Nat} (hk : k < 128) {fs : List Value} (he : rX cy lay Γ tm σ k = some (.inr (ci, fs))) (hcl : agCl C T N ci ty) (hin : ∀ w ∈ u_ws C T N, w ∈ Ts) (j : Nat) (hj : j < N) (q : Nat) (hl : nestR[q]? = some (Cond.fieldLinkNest own index (T j).1 (T j).2.1 (T j).2.2.1 host)) {v : Value} (hv : fs[j]? = some v) (hdg : decode cc pc = .ok (.getfield index, 3))
    (kk : W p l e R s m args below meth c H locs cells slots Q (F0 m (pc + 3) ls (v :: rest))) : W p l e R s m args below meth c H locs cells slots Q (F0 m pc ls (.ref (lay k) :: rest)) := g_getN hC hT.1 G hk he hcl hin j hj (nest_use _ (nestR_ok _ (wm q hl)) (hT.2.1.1 _ (wm q hl))) hv hdg kk
theorem rg_put {C : String} {T : u_T} {N ci index : Nat} {ty : Nat → FieldType} (hC : CallFix p m c cc nL s args Ts own) (hT : rT D cy lay Γ s) (G : rG D cy lay Γ tm σ A H0 H locs) {k : Nat} (hk : k < 128) {fs : List Value} (he : rX cy lay Γ tm σ k = some (.inr (ci, fs))) (hcl : agCl C T N ci ty) (hin : ∀ w ∈ u_ws C T N, w ∈ Ts) (j : Nat) (hj : j < N) (hl : Cond.fieldLink own index (T j).1 (T j).2.1 (T j).2.2.1 ∈ Ts) (hfin : (T j).2.2.2 = false) (hty : ty j = .int) (hjl : j < fs.length) {v : Int32} {fs' : List Value} (he' : rX cy lay Γ tm (up2 σ k j v) k = some (.inr (ci, fs'))) (hs : fs' = fs.set j (.int v)) (hdg : decode cc pc = .ok (.putfield index, 3))
    (kk : ∀ (H1 : Heap) (locs1 : List Loc), rG D cy lay Γ tm (up2 σ k j v) A H0 H1 locs1 → W p l e R s m args below meth c H1 locs1 cells slots Q (F0 m (pc + 3) ls rest)) : W p l e R s m args below meth c H locs cells slots Q (F0 m pc ls (.int v :: .ref (lay k) :: rest)) := by
  refine g_put hC hT.1 G hk he hcl hin j hj hl hfin (v := .int v) (by rw [hty]; rfl) (by rw [hty]; rfl) hjl hdg (fun H1 locs1 G1 => kk H1 locs1 ?_)
  rw [← hs, r_upd he'] at G1
  exact G1
theorem rg_putN {C : String} {T : u_T} {N ci index : Nat} {ty : Nat → FieldType} (hC : CallFix p m c cc nL s args Ts own) (hT : rT D cy lay Γ s) (G : rG D cy lay Γ tm σ A H0 H locs) {k : Nat} (hk : k < 128) {fs : List Value} (he : rX cy lay Γ tm σ k = some (.inr (ci, fs))) (hcl : agCl C T N ci ty) (hin : ∀ w ∈ u_ws C T N, w ∈ Ts) (j : Nat) (hj : j < N) (q : Nat) (hl : nestR[q]? = some (Cond.fieldLinkNest own index (T j).1 (T j).2.1 (T j).2.2.1 host)) (hfin : (T j).2.2.2 = false) (hty : ty j = .int) (hjl : j < fs.length) {v : Int32} {fs' : List Value} (he' : rX cy lay Γ tm (up2 σ k j v) k = some (.inr (ci, fs'))) (hs : fs' = fs.set j (.int v)) (hdg : decode cc pc = .ok (.putfield index, 3))
    (kk : ∀ (H1 : Heap) (locs1 : List Loc), rG D cy lay Γ tm (up2 σ k j v) A H0 H1 locs1 → W p l e R s m args below meth c H1 locs1 cells slots Q (F0 m (pc + 3) ls rest)) : W p l e R s m args below meth c H locs cells slots Q (F0 m pc ls (.int v :: .ref (lay k) :: rest)) := by
  refine g_putN hC hT.1 G hk he hcl hin j hj (nest_use _ (nestR_ok _ (wm q hl)) (hT.2.1.1 _ (wm q hl))) hfin (v := .int v) (by rw [hty]; rfl) (by rw [hty]; rfl) hjl hdg (fun H1 locs1 G1 => kk H1 locs1 ?_)
  rw [← hs, r_upd he'] at G1
  exact G1
theorem rg_iald (hC : CallFix p m c cc nL s args Ts own) (hT : rT D cy lay Γ s) (G : rG D cy lay Γ tm σ A H0 H locs) {k : Nat} (hk : k < 128) {n : Nat} (he : rX cy lay Γ tm σ k = some (.inl (cy 0, n, .inl (σ k)))) {i : Int32} (hin : vp_in i n) (hdg : decode cc pc = .ok (.iaload, 1))
    (kk : W p l e R s m args below meth c H locs cells slots Q (F0 m (pc + 1) ls (.int (σ k i.toNatClampNeg) :: rest))) : W p l e R s m args below meth c H locs cells slots Q (F0 m pc ls (.int i :: .ref (lay k) :: rest)) := g_iald hC hT.1 G 0 hk he rfl hin hdg kk
theorem rg_zald (hC : CallFix p m c cc nL s args Ts own) (hT : rT D cy lay Γ s) (G : rG D cy lay Γ tm σ A H0 H locs) {k : Nat} (hk : k < 128) {n : Nat} (he : rX cy lay Γ tm σ k = some (.inl (cy 1, n, .inl (σ k)))) {i : Int32} (hin : vp_in i n) (hdg : decode cc pc = .ok (.baload, 1))
    (kk : W p l e R s m args below meth c H locs cells slots Q (F0 m (pc + 1) ls (.int (σ k i.toNatClampNeg) :: rest))) : W p l e R s m args below meth c H locs cells slots Q (F0 m pc ls (.int i :: .ref (lay k) :: rest)) := g_zald hC hT.1 G 1 hk he rfl hin hdg kk
theorem rg_iast (hC : CallFix p m c cc nL s args Ts own) (hT : rT D cy lay Γ s) (G : rG D cy lay Γ tm σ A H0 H locs) {k : Nat} (hk : k < 128) {n : Nat} (he : ∀ σ, rX cy lay Γ tm σ k = some (.inl (cy 0, n, .inl (σ k)))) {i x : Int32} (hin : vp_in i n) (hdg : decode cc pc = .ok (.iastore, 1))
    (kk : ∀ (H1 : Heap) (locs1 : List Loc), rG D cy lay Γ tm (up2 σ k i.toNatClampNeg x) A H0 H1 locs1 → W p l e R s m args below meth c H1 locs1 cells slots Q (F0 m (pc + 1) ls rest)) : W p l e R s m args below meth c H locs cells slots Q (F0 m pc ls (.int x :: .int i :: .ref (lay k) :: rest)) := by
  refine g_iast hC hT.1 G 0 hk (he σ) rfl hin hdg (fun H1 locs1 G1 => kk H1 locs1 ?_)
  rw [← up2_eq, r_upd (he _)] at G1
  exact G1
theorem rg_zast (hC : CallFix p m c cc nL s args Ts own) (hT : rT D cy lay Γ s) (G : rG D cy lay Γ tm σ A H0 H locs) {k : Nat} (hk : k < 128) {n : Nat} (he : ∀ σ, rX cy lay Γ tm σ k = some (.inl (cy 1, n, .inl (σ k)))) {i x : Int32} (hin : vp_in i n) (hdg : decode cc pc = .ok (.bastore, 1))
    (kk : ∀ (H1 : Heap) (locs1 : List Loc), rG D cy lay Γ tm (up2 σ k i.toNatClampNeg (vp_nar .boolean x)) A H0 H1 locs1 → W p l e R s m args below meth c H1 locs1 cells slots Q (F0 m (pc + 1) ls rest)) : W p l e R s m args below meth c H locs cells slots Q (F0 m pc ls (.int x :: .int i :: .ref (lay k) :: rest)) := by
  refine g_zast hC hT.1 G 1 hk (he σ) rfl hin hdg (fun H1 locs1 G1 => kk H1 locs1 ?_)
  rw [← up2_eq, r_upd (he _)] at G1
  exact G1
/-- an element of a list's row -/
theorem rg_aald (hC : CallFix p m c cc nL s args Ts own) (hT : rT D cy lay Γ s) (G : rG D cy lay Γ tm σ A H0 H locs) {k : Nat} (hk : k < 128) {n q : Nat} {f : Nat → Option Nat} (he : rX cy lay Γ tm σ k = some (.inl (cy 7, n, rfS f))) {i : Int32} (hin : vp_in i n) (hf : f i.toNatClampNeg = some q) (hdg : decode cc pc = .ok (.aaload, 1))
    (kk : W p l e R s m args below meth c H locs cells slots Q (F0 m (pc + 1) ls (.ref q :: rest))) : W p l e R s m args below meth c H locs cells slots Q (F0 m pc ls (.int i :: .ref (lay k) :: rest)) := by
  obtain ⟨q0, hq⟩ := gW_pos (lay := lay) hk he
  exact va_aldq hC.1 hC.2.1 hT.1 (gP_list G.1) q0 7 hq rfl hin hdg (by rw [hf]; exact kk)
theorem rg_recv {ci : Nat} {C : String} {T : u_T} {N : Nat} {ty : Nat → FieldType} {fs : List Value} (hT : rT D cy lay Γ s) (G : rG D cy lay Γ tm σ A H0 H locs) {k : Nat} (hk : k < 128) (he : rX cy lay Γ tm σ k = some (.inr (ci, fs))) (hcl : agCl C T N ci ty) : ∃ cell : Cell, H[lay k]? = some cell ∧ cell.vm.isStatics = false ∧ s.vm.findClass C = some cell.cls := by
  obtain ⟨q0, hq⟩ := gW_pos (lay := lay) hk he
  exact va_recv hT.1 (gP_list G.1) hcl.1 hq
theorem rg_runV (hC : CallFix p m c cc nL s args Ts own) (hT : rT D cy lay Γ s) (G : rG D cy lay Γ tn σ (rA cy lay Γ s.heap.size) s.heap H locs) (hM : Met l y ws rm (va_Pc (.ref b :: As) (rI D cy lay Γ σ H.size)) Qc mc ms free) (cw : CallW R s args own Cn index y bytes maxL ret ws rm mc ms n) (hrv : ∃ cell : Cell, H[b]? = some cell ∧ cell.vm.isStatics = false ∧ s.vm.findClass Cn = some cell.cls)
    (hn : As.length = n) (hls : ls.size = nL) (hst : ST = As.reverse ++ .ref b :: rest) (hW : (rest.map fun v => v.category).sum ≤ 8) (hdg : decode cc pc = .ok (.invokevirtual index, 3)) (hf : cells + mc ≤ R.cells ∧ slots + ms ≤ R.slots) :
    va_Run p l e R s m args below meth c H locs cells slots mc ms (F0 m pc ls ST) rest (Qc (.ref b :: As).toArray) free :=
  va_runV hC hM cw ⟨rI_blind, hrv, fun U hU hW => ⟨rfl, rI_next hT G hU hW⟩⟩ rfl hn hls hst (lv_room hW) hdg hf
theorem rg_runS (hC : CallFix p m c cc nL s args Ts own) (hT : rT D cy lay Γ s) (G : rG D cy lay Γ tn σ (rA cy lay Γ s.heap.size) s.heap H locs) (hM : Met l y ws rm (va_Pc As (rI D cy lay Γ σ H.size)) Qc mc ms free) (cw : CallB R s args own index y bytes maxL ret ws rm mc ms n ∧ (Cond.static y).before args s = true)
    (hn : As.length = n) (hls : ls.size = nL) (hst : ST = As.reverse ++ rest) (hW : (rest.map fun v => v.category).sum ≤ 8) (hdg : decode cc pc = .ok (.invokestatic index, 3)) (hf : cells + mc ≤ R.cells ∧ slots + ms ≤ R.slots) :
    va_Run p l e R s m args below meth c H locs cells slots mc ms (F0 m pc ls ST) rest (Qc As.toArray) free :=
  va_runS hC hM cw ⟨rI_blind, fun U hU hW => ⟨rfl, rI_next hT G hU hW⟩⟩ rfl hn hls hst (lv_room hW) hdg hf
theorem rG_of {σ' : MS} {t : State} {H1 : Heap} {locs1 : List Loc} (hB : rO D cy lay Γ σ' t) (ht : t.heap = H1) (hS : va_S (rA cy lay Γ s.heap.size) s.heap H1 locs1) : rG D cy lay Γ tn σ' (rA cy lay Γ s.heap.size) s.heap H1 locs1 := ⟨by rw [← ht]; exact hB.1, rI_of hB.2, hS⟩
theorem rg_i {post : Int32 → MS → Prop} {a : Array Value} (G : rG D cy lay Γ tn σ (rA cy lay Γ s.heap.size) s.heap H locs) (hr : va_Run p l e R s m args below meth c H locs cells slots mc ms (F0 m pc ls ST) rest (va_Qi post (rO D cy lay Γ) (rA cy lay Γ H.size) a) (rA cy lay Γ H.size))
    (kk : ∀ (r : Int32) (σ' : MS) (H1 : Heap) (locs1 : List Loc), post r σ' → rG D cy lay Γ tn σ' (rA cy lay Γ s.heap.size) s.heap H1 locs1 → W p l e R s m args below meth c H1 locs1 (cells + mc) (slots + ms) Q (F0 m (pc + 3) ls (.int r :: rest))) : W p l e R s m args below meth c H locs cells slots Q (F0 m pc ls ST) :=
  va_calli hr G.2.2 (fun q _ h => rA_le G.2.2.1 q h) (rA_le G.2.2.1) (fun r u t H1 locs1 ht hvm hw hB hz hk hS => kk r u H1 locs1 hw (rG_of hB ht hS))
theorem rg_l {post : Int64 → MS → Prop} {a : Array Value} (G : rG D cy lay Γ tn σ (rA cy lay Γ s.heap.size) s.heap H locs) (hr : va_Run p l e R s m args below meth c H locs cells slots mc ms (F0 m pc ls ST) rest (va_Ql post (rO D cy lay Γ) (rA cy lay Γ H.size) a) (rA cy lay Γ H.size))
    (kk : ∀ (r : Int64) (σ' : MS) (H1 : Heap) (locs1 : List Loc), post r σ' → rG D cy lay Γ tn σ' (rA cy lay Γ s.heap.size) s.heap H1 locs1 → W p l e R s m args below meth c H1 locs1 (cells + mc) (slots + ms) Q (F0 m (pc + 3) ls (.long r :: rest))) : W p l e R s m args below meth c H locs cells slots Q (F0 m pc ls ST) :=
  va_calll hr G.2.2 (fun q _ h => rA_le G.2.2.1 q h) (rA_le G.2.2.1) (fun r u t H1 locs1 ht hvm hw hB hz hk hS => kk r u H1 locs1 hw (rG_of hB ht hS))
theorem rg_v {post : MS → Prop} {a : Array Value} (G : rG D cy lay Γ tn σ (rA cy lay Γ s.heap.size) s.heap H locs) (hr : va_Run p l e R s m args below meth c H locs cells slots mc ms (F0 m pc ls ST) rest (va_Qv post (rO D cy lay Γ) (rA cy lay Γ H.size) a) (rA cy lay Γ H.size))
    (kk : ∀ (σ' : MS) (H1 : Heap) (locs1 : List Loc), post σ' → rG D cy lay Γ tn σ' (rA cy lay Γ s.heap.size) s.heap H1 locs1 → W p l e R s m args below meth c H1 locs1 (cells + mc) (slots + ms) Q (F0 m (pc + 3) ls rest)) : W p l e R s m args below meth c H locs cells slots Q (F0 m pc ls ST) :=
  va_callv hr G.2.2 (fun q _ h => rA_le G.2.2.1 q h) (rA_le G.2.2.1) (fun u t H1 locs1 ht hvm hw hB hz hk hS => kk u H1 locs1 hw (rG_of hB ht hS))
/-- behind a call that answers a reference: the f of a number -/
def rQ (post : Nat → MS → Prop) (f : Nat → Nat) (D : va_G) (cy : Nat → ClassId) (lay : Nat → Nat) (Γ : RG) (A : Nat → Prop) : Array Value → State → Outcome → State → Prop := va_Qr (S := Nat × MS) (fun u => post u.1 u.2) (fun u a t => a = f u.1 ∧ rO D cy lay Γ u.2 t) A
theorem rg_r {post : Nat → MS → Prop} {f : Nat → Nat} {a : Array Value} (G : rG D cy lay Γ tn σ (rA cy lay Γ s.heap.size) s.heap H locs) (hr : va_Run p l e R s m args below meth c H locs cells slots mc ms (F0 m pc ls ST) rest (rQ post f D cy lay Γ (rA cy lay Γ H.size) a) (rA cy lay Γ H.size))
    (kk : ∀ (i : Nat) (σ' : MS) (H1 : Heap) (locs1 : List Loc), post i σ' → rG D cy lay Γ tn σ' (rA cy lay Γ s.heap.size) s.heap H1 locs1 → W p l e R s m args below meth c H1 locs1 (cells + mc) (slots + ms) Q (F0 m (pc + 3) ls (.ref (f i) :: rest))) : W p l e R s m args below meth c H locs cells slots Q (F0 m pc ls ST) :=
  va_callr hr G.2.2 (fun q _ h => rA_le G.2.2.1 q h) (rA_le G.2.2.1) (fun u ra t H1 locs1 ht hvm hw hB hz hk hS => by
    obtain ⟨e1, hO⟩ := hB
    rw [e1]
    exact kk u.1 u.2 H1 locs1 hw (rG_of hO ht hS))
theorem rg_ofW {ws' : List Cond} {maxL : Nat} {sz : Nat} {Qc : Nat → Array Value → State → Outcome → State → Prop} (hy : plainName y.cls = true) (hw : ws = Cond.code y cc maxL ret :: ws') (hnl : (lg_sl As).length ≤ maxL) (hoo : y.cls = own)
    (body : ∀ (p : Program) (e : Env) (s : State) (m : MethodId) (args : Array Value) (below : List Frame) (meth : Method) (c : Code) (ls : Array Slot), CallFix p m c cc maxL s args ws own → meth.sig.returnType = ret → meth.locks = false → rT D cy lay Γ s → rG D cy lay Γ tn σ (rA cy lay Γ s.heap.size) s.heap s.heap [] → lv_has ls maxL (lv_args 0 As) →
      W p l e rm s m args below meth c s.heap [] 0 0 (MQ below (Qc s.heap.size) args s mc ms (rA cy lay Γ s.heap.size)) (F0 m 0 ls [])) : Met l y ws rm (va_Pc As (rI D cy lay Γ σ sz)) (Qc sz) mc ms (rA cy lay Γ sz) := by
  refine Met.ofW (cc := cc) (maxL := maxL) (ret := ret) hy hw ?_
  intro p e s m args below meth c s₁ B hml hv
  obtain ⟨rfl, hsz, hT, hP, hD⟩ := hv
  subst hsz
  have hl := lv_entry As (n := maxL) hnl
  rw [lg_entry_eq]
  have hown : s.vm.findClass y.cls = some m.cls := findClass_of_methodNamed B.named
  rw [hoo] at hown
  exact body p e s m As.toArray below meth c _ ⟨B.exec, B.bytes, hml, hown, atoms_spec (ws := ws) B.pre⟩ B.returns B.notSynchronized hT ⟨hP, rI_of hD, va_S.rf⟩ hl
theorem rg_iret {post : Int32 → MS → Prop} {v : Int32} {locs : List Loc} (hC : CallFix p m c cc nL s args Ts own) (hr : meth.sig.returnType = some .int) (hlocks : meth.locks = false) (G : rG D cy lay Γ tn σ (rA cy lay Γ s.heap.size) s.heap H locs) (h : post v σ) (hdg : decode cc pc = .ok (.ireturn, 1)) :
    W p l e R s m args below meth c H locs cells slots (MQ below (va_Qi post (rO D cy lay Γ) (rA cy lay Γ s.heap.size)) args s cells slots (rA cy lay Γ s.heap.size)) (F0 m pc ls [.int v]) :=
  W.iret (v := v) hC.1 hC.2.1 hr (fun t ht hW => ⟨⟨v, σ, rfl, h, rO_G G ht⟩, G.2.2.F ht⟩) G.2.2.2.2 hdg hlocks
theorem rg_zret {post : Int32 → MS → Prop} {v : Int32} {locs : List Loc} (hC : CallFix p m c cc nL s args Ts own) (hr : meth.sig.returnType = some .boolean) (hlocks : meth.locks = false) (G : rG D cy lay Γ tn σ (rA cy lay Γ s.heap.size) s.heap H locs) (hn : narrow .boolean (.int v) = .int v) (h : post v σ) (hdg : decode cc pc = .ok (.ireturn, 1)) :
    W p l e R s m args below meth c H locs cells slots (MQ below (va_Qi post (rO D cy lay Γ) (rA cy lay Γ s.heap.size)) args s cells slots (rA cy lay Γ s.heap.size)) (F0 m pc ls [.int v]) :=
  W.zret (v := v) hC.1 hC.2.1 hr hn (fun t ht hW => ⟨⟨v, σ, rfl, h, rO_G G ht⟩, G.2.2.F ht⟩) G.2.2.2.2 hdg hlocks
theorem rg_lret {post : Int64 → MS → Prop} {v : Int64} {locs : List Loc} (hC : CallFix p m c cc nL s args Ts own) (hr : meth.sig.returnType = some .long) (hlocks : meth.locks = false) (G : rG D cy lay Γ tn σ (rA cy lay Γ s.heap.size) s.heap H locs) (h : post v σ) (hdg : decode cc pc = .ok (.lreturn, 1)) :
    W p l e R s m args below meth c H locs cells slots (MQ below (va_Ql post (rO D cy lay Γ) (rA cy lay Γ s.heap.size)) args s cells slots (rA cy lay Γ s.heap.size)) (F0 m pc ls [.long v]) :=
  W.lret (v := v) hC.1 hC.2.1 hr (fun t ht hW => ⟨⟨v, σ, rfl, h, rO_G G ht⟩, G.2.2.F ht⟩) G.2.2.2.2 hdg hlocks
theorem rg_vret {post : MS → Prop} {locs : List Loc} (hC : CallFix p m c cc nL s args Ts own) (hr : meth.sig.returnType = none) (hlocks : meth.locks = false) (G : rG D cy lay Γ tn σ (rA cy lay Γ s.heap.size) s.heap H locs) (h : post σ) (hdg : decode cc pc = .ok (.return_, 1)) :
    W p l e R s m args below meth c H locs cells slots (MQ below (va_Qv post (rO D cy lay Γ) (rA cy lay Γ s.heap.size)) args s cells slots (rA cy lay Γ s.heap.size)) (F0 m pc ls []) :=
  W.vret hC.1 hC.2.1 hr (fun t ht hW => ⟨⟨σ, rfl, h, rO_G G ht⟩, G.2.2.F ht⟩) G.2.2.2.2 hdg hlocks
theorem rg_rret {post : Nat → MS → Prop} {f : Nat → Nat} {i : Nat} {rt : FieldType} {locs : List Loc} (hC : CallFix p m c cc nL s args Ts own) (hr : meth.sig.returnType = some rt) (hrt : (∃ n, rt = .object n) ∨ ∃ t, rt = .array t) (hlocks : meth.locks = false) (G : rG D cy lay Γ tn σ (rA cy lay Γ s.heap.size) s.heap H locs) (h : post i σ) (hdg : decode cc pc = .ok (.areturn, 1)) :
    W p l e R s m args below meth c H locs cells slots (MQ below (rQ post f D cy lay Γ (rA cy lay Γ s.heap.size)) args s cells slots (rA cy lay Γ s.heap.size)) (F0 m pc ls [.ref (f i)]) :=
  W.aret (v := .ref (f i)) hC.1 hC.2.1 hr hrt (Or.inr ⟨_, rfl⟩) (fun t ht hW => ⟨⟨(i, σ), f i, rfl, h, rfl, rO_G G ht⟩, G.2.2.F ht⟩) G.2.2.2.2 hdg hlocks
/-- a reference is of the class that it is cast to -/
theorem rg_cast {ci : Nat} {C : String} {T : u_T} {N : Nat} {ty : Nat → FieldType} (hC : CallFix p m c cc nL s args Ts own) (hT : rT D cy lay Γ s) (hcl : agCl C T N ci ty) (hlk : Cond.classLink own index C ∈ Ts) {a : Nat} (hr : ∃ cell : Cell, H[a]? = some cell ∧ cell.vm.isStatics = false ∧ s.vm.findClass C = some cell.cls) (hdg : decode cc pc = .ok (.checkcast index, 3))
    (k : W p l e R s m args below meth c H locs cells slots Q (F0 m (pc + 3) ls (.ref a :: rest))) : W p l e R s m args below meth c H locs cells slots Q (F0 m pc ls (.ref a :: rest)) :=
  va_castS hC.1 hC.2.1 hC.2.2.2.1 (hC.2.2.2.2 _ hlk) (hT.1.1 ci _ hcl.1).2 hr hdg k
/-- a band's shape is an Integer -/
theorem rg_recvI (hT : rT D cy lay Γ s) (G : rG D cy lay Γ tm σ (rA cy lay Γ s.heap.size) s.heap H locs) {i : Nat} (hi : i < Γ.2.1) : ∃ cell : Cell, H[Γ.2.2.2.2.1 i]? = some cell ∧ cell.vm.isStatics = false ∧ s.vm.findClass RJ6 = some cell.cls :=
  (by
    obtain ⟨cell, a1, a2, a3, -⟩ := ((rS_kept hT.2.2.1 G.2.2.2.1 (fun q hq => rA_le G.2.2.1 q)).2 i hi).1
    exact ⟨cell, a1, a2, a3⟩)
theorem rg_getI (hC : CallFix p m c cc nL s args Ts own) (hT : rT D cy lay Γ s) (G : rG D cy lay Γ tm σ (rA cy lay Γ s.heap.size) s.heap H locs) {i : Nat} (hi : i < Γ.2.1) (hin : ∀ w ∈ u_ws RJ6 TJ6 1, w ∈ Ts) (hl : Cond.fieldLink own index (TJ6 0).1 (TJ6 0).2.1 (TJ6 0).2.2.1 ∈ Ts) (hdg : decode cc pc = .ok (.getfield index, 3))
    (kk : W p l e R s m args below meth c H locs cells slots Q (F0 m (pc + 3) ls (.int (Γ.2.2.2.2.2 i) :: rest))) : W p l e R s m args below meth c H locs cells slots Q (F0 m pc ls (.ref (Γ.2.2.2.2.1 i) :: rest)) :=
  va_getX (o := RJ6) (n := "value") (d := "I") (ref := RJ6) (N := Γ.2.1) (v := fun i => .int (Γ.2.2.2.2.2 i)) (ad := Γ.2.2.2.2.1) hC.1 hC.2.1 (fun i hi => (hT.2.2.1.2 i hi).2) hi G.2.2 hC.2.2.2.1 (hC.2.2.2.2 _ hl) (fun _ h => h) hdg kk
theorem r_sum {v : Int64} : gU (rX cy lay Γ tm σ) 0 (some (.inr (16, (Lmo lay (σ 0)).set 12 (.long v)))) = rX cy lay Γ tm (up2 (up2 σ 0 12 (hi32 v)) 0 13 (lo32 v)) := by
  funext i
  by_cases h : i = 0
  · subst h
    rw [gU_eq]
    show _ = some (Sum.inr (16, Lmo lay (up2 (up2 σ 0 12 (hi32 v)) 0 13 (lo32 v) 0)))
    have e : ∀ j, j < 12 → up2 (up2 σ 0 12 (hi32 v)) 0 13 (lo32 v) 0 j = σ 0 j := fun j hj => by
      show (if j = 13 then _ else (if (0 : Nat) = 0 then upd (σ 0) 12 (hi32 v) else σ 0) j) = _
      rw [if_neg (by omega)]
      show (if j = 12 then _ else σ 0 j) = _
      rw [if_neg (by omega)]
    have e12 : up2 (up2 σ 0 12 (hi32 v)) 0 13 (lo32 v) 0 12 = hi32 v := rfl
    have e13 : up2 (up2 σ 0 12 (hi32 v)) 0 13 (lo32 v) 0 13 = lo32 v := rfl
    unfold Lmo
    rw [e 0 (by decide), e 1 (by decide), e 2 (by decide), e12, e13, m64_of]
    rfl
  · rw [gU_ne h]
    exact (r_loc ((up2_ne h).trans (up2_ne h))).symm
theorem rg_putS (hC : CallFix p m c cc nL s args Ts own) (hT : rT D cy lay Γ s) (G : rG D cy lay Γ tm σ A H0 H locs) (hin : ∀ w ∈ u_ws RX11 TX11 13, w ∈ Ts) (hl : Cond.fieldLink own index (TX11 12).1 (TX11 12).2.1 (TX11 12).2.2.1 ∈ Ts) {v : Int64} (hdg : decode cc pc = .ok (.putfield index, 3))
    (kk : ∀ (H1 : Heap) (locs1 : List Loc), rG D cy lay Γ tm (up2 (up2 σ 0 12 (hi32 v)) 0 13 (lo32 v)) A H0 H1 locs1 → W p l e R s m args below meth c H1 locs1 cells slots Q (F0 m (pc + 3) ls rest)) : W p l e R s m args below meth c H locs cells slots Q (F0 m pc ls (.long v :: .ref (lay 0) :: rest)) := by
  refine g_put hC hT.1 G (by decide) r_mo k_X11 hin 12 (by decide) hl rfl (v := .long v) rfl rfl (by simp) hdg (fun H1 locs1 G1 => kk H1 locs1 ?_)
  rw [r_sum] at G1
  exact G1
end RROWS
