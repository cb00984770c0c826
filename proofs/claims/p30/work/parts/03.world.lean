section
/-! THE CLASS'S WORLD: 87 cells, numbered; 'lay' gives each cell's address, 's k j' the number in place j of cell k.
0 the agency; 1 players, 2 allSongs, 3 bands, 4 weddings (rows of references); 5 roads; 6 offOn; 7 stage; 8 seated; 9 found; 10 bestSet;
11 row, 12 order, 13 longest, 14 next; 15 hours, 16 ways (outer rows); 17 to 22 rows of hours; 23 to 28 rows of ways; 29 to 38 players; 39 to 54 songs;
55 to 60 bands; 61 to 66 needs; 67 to 72 places; 73 to 86 weddings. -/
abbrev MS : Type := Nat → Nat → Int32
def up2 (σ : MS) (k j : Nat) (v : Int32) : MS := fun i => if i = k then upd (σ k) j v else σ i
theorem up2_ne {σ : MS} {k j i : Nat} {v : Int32} (h : i ≠ k) : up2 σ k j v i = σ i := if_neg h
theorem up2_eq {σ : MS} {k j : Nat} {v : Int32} : up2 σ k j v k = upd (σ k) j v := if_pos rfl
abbrev fdT (cy : Nat → ClassId) : List (ClassId × FieldType) := [(cy 0, .int), (cy 1, .boolean), (cy 2, .object "FirstdanceAgency$Player"), (cy 3, .object "FirstdanceAgency$Song"), (cy 4, .object "FirstdanceAgency$Band"), (cy 5, .object "FirstdanceAgency$Wedding"), (cy 6, .array .int), (cy 7, .object "java/lang/Object"), (cy 8, .byte)]
abbrev rfA (lay : Nat → Nat) (b : Nat) : (Nat → Int32) ⊕ (Nat → Int64) ⊕ (Nat → UInt32) ⊕ (Nat → UInt64) ⊕ (Nat → Option Nat) := .inr (.inr (.inr (.inr (fun i => some (lay (b + i))))))
abbrev L4 (f : Nat → Int32) : List Value := [.int (f 0), .int (f 1), .int (f 2), .int (f 3)]
abbrev L6 (f : Nat → Int32) : List Value := [.int (f 0), .int (f 1), .int (f 2), .int (f 3), .int (f 4), .int (f 5)]
abbrev L8 (f : Nat → Int32) : List Value := [.int (f 0), .int (f 1), .int (f 2), .int (f 3), .int (f 4), .int (f 5), .int (f 6), .int (f 7)]
abbrev L12 (f : Nat → Int32) : List Value := [.int (f 0), .int (f 1), .int (f 2), .int (f 3), .int (f 4), .int (f 5), .int (f 6), .int (f 7), .int (f 8), .int (f 9), .int (f 10), .int (f 11)]
abbrev Lag (lay : Nat → Nat) (f : Nat → Int32) : List Value := [.ref (lay 1), .ref (lay 2), .ref (lay 3), .ref (lay 4), .ref (lay 5), .ref (lay 6), .int (f 6), .int (f 7), .int (f 8), .int (f 9), .int (f 10), .ref (lay 7), .ref (lay 8), .ref (lay 9), .ref (lay 10)]
abbrev Lbs (lay : Nat → Nat) (f : Nat → Int32) : List Value := [.ref (lay 11), .int (f 1), .int (f 2), .ref (lay 12), .ref (lay 13), .ref (lay 14), .int (f 6)]
/-- what cell k holds, of the row f of numbers -/
def agR (cy : Nat → ClassId) (lay : Nat → Nat) (f : Nat → Int32) (k : Nat) : va_E :=
  if k = 0 then .inr (12, Lag lay f)
  else if k = 1 then .inl (cy 2, 10, rfA lay 29)
  else if k = 2 then .inl (cy 3, 16, rfA lay 39)
  else if k = 3 then .inl (cy 4, 6, rfA lay 55)
  else if k = 4 then .inl (cy 5, 14, rfA lay 73)
  else if k = 5 then .inr (9, [.ref (lay 15), .ref (lay 16)])
  else if k = 6 then .inl (cy 0, 366, .inl f)
  else if k = 7 then .inl (cy 0, 14, .inl f)
  else if k = 8 then .inl (cy 1, 1024, .inl f)
  else if k = 9 then .inr (7, L6 f)
  else if k = 10 then .inr (6, Lbs lay f)
  else if k < 15 then .inl (cy 0, 16, .inl f)
  else if k = 15 then .inl (cy 6, 6, rfA lay 17)
  else if k = 16 then .inl (cy 6, 6, rfA lay 23)
  else if k < 29 then .inl (cy 0, 6, .inl f)
  else if k < 39 then .inr (8, L8 f)
  else if k < 55 then .inr (10, L4 f)
  else if k < 61 then .inr (5, [.ref (lay (61 + (k - 55))), .ref (lay (67 + (k - 55))), .int (f 2)])
  else if k < 67 then .inl (cy 0, 6, .inl f)
  else if k < 73 then .inl (cy 0, 5, .inl f)
  else .inr (11, L12 f)
section AGR
variable {cy : Nat → ClassId} {lay : Nat → Nat} {f : Nat → Int32}
theorem e_ag : agR cy lay f 0 = .inr (12, Lag lay f) := rfl
theorem e_pls : agR cy lay f 1 = .inl (cy 2, 10, rfA lay 29) := rfl
theorem e_sgs : agR cy lay f 2 = .inl (cy 3, 16, rfA lay 39) := rfl
theorem e_bds : agR cy lay f 3 = .inl (cy 4, 6, rfA lay 55) := rfl
theorem e_wds : agR cy lay f 4 = .inl (cy 5, 14, rfA lay 73) := rfl
theorem e_rd : agR cy lay f 5 = .inr (9, [.ref (lay 15), .ref (lay 16)]) := rfl
theorem e_off : agR cy lay f 6 = .inl (cy 0, 366, .inl f) := rfl
theorem e_stg : agR cy lay f 7 = .inl (cy 0, 14, .inl f) := rfl
theorem e_sea : agR cy lay f 8 = .inl (cy 1, 1024, .inl f) := rfl
theorem e_fd : agR cy lay f 9 = .inr (7, L6 f) := rfl
theorem e_bs : agR cy lay f 10 = .inr (6, Lbs lay f) := rfl
theorem e_row : agR cy lay f 11 = .inl (cy 0, 16, .inl f) := rfl
theorem e_ord : agR cy lay f 12 = .inl (cy 0, 16, .inl f) := rfl
theorem e_lng : agR cy lay f 13 = .inl (cy 0, 16, .inl f) := rfl
theorem e_nxt : agR cy lay f 14 = .inl (cy 0, 16, .inl f) := rfl
theorem e_hrs : agR cy lay f 15 = .inl (cy 6, 6, rfA lay 17) := rfl
theorem e_wys : agR cy lay f 16 = .inl (cy 6, 6, rfA lay 23) := rfl
theorem e_hrr {i : Nat} (h : i < 6) : agR cy lay f (17 + i) = .inl (cy 0, 6, .inl f) := by
  unfold agR
  rw [if_neg (by omega), if_neg (by omega), if_neg (by omega), if_neg (by omega), if_neg (by omega), if_neg (by omega), if_neg (by omega), if_neg (by omega), if_neg (by omega), if_neg (by omega), if_neg (by omega), if_neg (by omega), if_neg (by omega), if_neg (by omega), if_pos (by omega)]
theorem e_wyr {i : Nat} (h : i < 6) : agR cy lay f (23 + i) = .inl (cy 0, 6, .inl f) := by
  unfold agR
  rw [if_neg (by omega), if_neg (by omega), if_neg (by omega), if_neg (by omega), if_neg (by omega), if_neg (by omega), if_neg (by omega), if_neg (by omega), if_neg (by omega), if_neg (by omega), if_neg (by omega), if_neg (by omega), if_neg (by omega), if_neg (by omega), if_pos (by omega)]
theorem e_pl {i : Nat} (h : i < 10) : agR cy lay f (29 + i) = .inr (8, L8 f) := by
  unfold agR
  rw [if_neg (by omega), if_neg (by omega), if_neg (by omega), if_neg (by omega), if_neg (by omega), if_neg (by omega), if_neg (by omega), if_neg (by omega), if_neg (by omega), if_neg (by omega), if_neg (by omega), if_neg (by omega), if_neg (by omega), if_neg (by omega), if_neg (by omega), if_pos (by omega)]
theorem e_sg {i : Nat} (h : i < 16) : agR cy lay f (39 + i) = .inr (10, L4 f) := by
  unfold agR
  rw [if_neg (by omega), if_neg (by omega), if_neg (by omega), if_neg (by omega), if_neg (by omega), if_neg (by omega), if_neg (by omega), if_neg (by omega), if_neg (by omega), if_neg (by omega), if_neg (by omega), if_neg (by omega), if_neg (by omega), if_neg (by omega), if_neg (by omega), if_neg (by omega), if_pos (by omega)]
theorem e_bd {i : Nat} (h : i < 6) : agR cy lay f (55 + i) = .inr (5, [.ref (lay (61 + i)), .ref (lay (67 + i)), .int (f 2)]) := by
  unfold agR
  rw [if_neg (by omega), if_neg (by omega), if_neg (by omega), if_neg (by omega), if_neg (by omega), if_neg (by omega), if_neg (by omega), if_neg (by omega), if_neg (by omega), if_neg (by omega), if_neg (by omega), if_neg (by omega), if_neg (by omega), if_neg (by omega), if_neg (by omega), if_neg (by omega), if_neg (by omega), if_pos (by omega), show 55 + i - 55 = i by omega]
theorem e_nds {i : Nat} (h : i < 6) : agR cy lay f (61 + i) = .inl (cy 0, 6, .inl f) := by
  unfold agR
  rw [if_neg (by omega), if_neg (by omega), if_neg (by omega), if_neg (by omega), if_neg (by omega), if_neg (by omega), if_neg (by omega), if_neg (by omega), if_neg (by omega), if_neg (by omega), if_neg (by omega), if_neg (by omega), if_neg (by omega), if_neg (by omega), if_neg (by omega), if_neg (by omega), if_neg (by omega), if_neg (by omega), if_pos (by omega)]
theorem e_plc {i : Nat} (h : i < 6) : agR cy lay f (67 + i) = .inl (cy 0, 5, .inl f) := by
  unfold agR
  rw [if_neg (by omega), if_neg (by omega), if_neg (by omega), if_neg (by omega), if_neg (by omega), if_neg (by omega), if_neg (by omega), if_neg (by omega), if_neg (by omega), if_neg (by omega), if_neg (by omega), if_neg (by omega), if_neg (by omega), if_neg (by omega), if_neg (by omega), if_neg (by omega), if_neg (by omega), if_neg (by omega), if_neg (by omega), if_pos (by omega)]
theorem e_wd {i : Nat} (h : i < 14) : agR cy lay f (73 + i) = .inr (11, L12 f) := by
  unfold agR
  rw [if_neg (by omega), if_neg (by omega), if_neg (by omega), if_neg (by omega), if_neg (by omega), if_neg (by omega), if_neg (by omega), if_neg (by omega), if_neg (by omega), if_neg (by omega), if_neg (by omega), if_neg (by omega), if_neg (by omega), if_neg (by omega), if_neg (by omega), if_neg (by omega), if_neg (by omega), if_neg (by omega), if_neg (by omega), if_neg (by omega)]
theorem k_hrr {i : Nat} (h : i < 6) : 17 + i < 87 := by omega
theorem k_wyr {i : Nat} (h : i < 6) : 23 + i < 87 := by omega
theorem k_pl {i : Nat} (h : i < 10) : 29 + i < 87 := by omega
theorem k_sg {i : Nat} (h : i < 16) : 39 + i < 87 := by omega
theorem k_bd {i : Nat} (h : i < 6) : 55 + i < 87 := by omega
theorem k_nds {i : Nat} (h : i < 6) : 61 + i < 87 := by omega
theorem k_plc {i : Nat} (h : i < 6) : 67 + i < 87 := by omega
theorem k_wd {i : Nat} (h : i < 14) : 73 + i < 87 := by omega
end AGR
theorem vlt {i : Int32} {n : Nat} (h : vp_in i n) : i.toNatClampNeg < n := Nat.not_le.mp fun q => h (Or.inr q)
/-- the world -/
def agW (cy : Nat → ClassId) (lay : Nat → Nat) (σ : MS) : va_W := (List.range 87).map fun k => (lay k, agR cy lay (σ k) k)
theorem ag_at {cy : Nat → ClassId} {lay : Nat → Nat} {σ : MS} {k : Nat} {e : va_E} (hk : k < 87) (he : agR cy lay (σ k) k = e) : (agW cy lay σ)[k]? = some (lay k, e) := by
  unfold agW
  rw [List.getElem?_map, List.getElem?_range hk, ← he]
  rfl
theorem ag_len {cy : Nat → ClassId} {lay : Nat → Nat} {σ : MS} : (agW cy lay σ).length = 87 := by
  unfold agW
  rw [List.length_map, List.length_range]
theorem ag_of {cy : Nat → ClassId} {lay : Nat → Nat} {σ : MS} {k : Nat} {q : Nat × va_E} (h : (agW cy lay σ)[k]? = some q) : k < 87 ∧ q = (lay k, agR cy lay (σ k) k) := by
  have h1 : k < (agW cy lay σ).length := (List.getElem?_eq_some_iff.mp h).1
  rw [ag_len] at h1
  rw [ag_at h1 rfl] at h
  exact ⟨h1, (Option.some.inj h).symm⟩
theorem ag_set {cy : Nat → ClassId} {lay : Nat → Nat} {σ : MS} {k j : Nat} {v : Int32} {e : va_E} (hk : k < 87) (he : agR cy lay (upd (σ k) j v) k = e) : (agW cy lay σ).set k (lay k, e) = agW cy lay (up2 σ k j v) := by
  apply List.ext_getElem?
  intro i
  by_cases hi : i < 87
  · rw [ag_at (σ := up2 σ k j v) hi rfl]
    by_cases e1 : i = k
    · subst e1
      rw [List.getElem?_set_self (by rw [ag_len]; exact hk), up2_eq, he]
    · rw [List.getElem?_set_ne (Ne.symm e1), ag_at hi rfl, up2_ne e1]
  · rw [List.getElem?_eq_none (by rw [List.length_set, ag_len]; omega), List.getElem?_eq_none (by rw [ag_len]; omega)]
/-- the cells that a method of the class may change: the world's, and new ones -/
def agA (lay : Nat → Nat) (n : Nat) : Nat → Prop := fun q => (∃ k, k < 87 ∧ q = lay k) ∨ n ≤ q
theorem agA_new {lay : Nat → Nat} {n : Nat} : ∀ q, n ≤ q → agA lay n q := fun _ h => Or.inr h
theorem agA_le {lay : Nat → Nat} {n k : Nat} (h : n ≤ k) : ∀ q, agA lay k q → agA lay n q := fun _ hq => hq.elim Or.inl (fun h2 => Or.inr (Nat.le_trans h h2))
theorem agD_of {cy : Nat → ClassId} {lay : Nat → Nat} {σ : MS} {A : Nat → Prop} {n : Nat} (h : va_D A (agW cy lay σ)) : va_D (agA lay n) (agW cy lay σ) := ⟨h.1, fun k q hk => by
  obtain ⟨h1, rfl⟩ := ag_of hk
  exact Or.inl ⟨k, h1, rfl⟩⟩
theorem agD_t {cy : Nat → ClassId} {lay : Nat → Nat} {σ : MS} {A : Nat → Prop} (h : va_D A (agW cy lay σ)) : va_D (fun _ => True) (agW cy lay σ) := ⟨h.1, fun _ _ _ => trivial⟩
/-- the nest's words and the texts of the throws: what the tables say beside the good words -/
def nestL : List Cond := [.declares ⟨"java/lang/RuntimeException", "<init>", "(Ljava/lang/String;)V"⟩, .declares ⟨"java/lang/Exception", "<init>", "(Ljava/lang/String;)V"⟩, .declares ⟨"java/lang/Throwable", "<init>", "(Ljava/lang/String;)V"⟩, .castable "java/lang/IndexOutOfBoundsException" "java/lang/IndexOutOfBoundsException", .castable "java/lang/IllegalArgumentException" "java/lang/IllegalArgumentException", .castable "java/lang/IllegalStateException" "java/lang/IllegalStateException", .fieldLinkNest "FirstdanceAgencyLaw" 13 "FirstdanceAgencyLaw$Out" "n" "J" "FirstdanceAgencyLaw", .fieldLinkNest "FirstdanceAgencyLaw" 93 "FirstdanceAgencyLaw$Out" "s" "Ljava/lang/String;" "FirstdanceAgencyLaw", .fieldLinkNest "FirstdanceAgencyModel" 124 "FirstdanceAgencyModel$Wedding" "state" "I" "FirstdanceAgencyModel", .fieldLinkNest "FirstdanceAgencyModel" 127 "FirstdanceAgencyModel$Wedding" "band" "I" "FirstdanceAgencyModel", .fieldLinkNest "FirstdanceAgencyModel" 130 "FirstdanceAgencyModel$Wedding" "day" "I" "FirstdanceAgencyModel", .fieldLinkNest "FirstdanceAgencyModel" 143 "FirstdanceAgencyModel$Wedding" "town" "I" "FirstdanceAgencyModel", .fieldLinkNest "FirstdanceAgencyModel" 146 "FirstdanceAgencyModel$Wedding" "start" "I" "FirstdanceAgencyModel", .fieldLinkNest "FirstdanceAgencyModel" 149 "FirstdanceAgencyModel$Wedding" "length" "I" "FirstdanceAgencyModel", .fieldLinkNest "FirstdanceAgencyModel" 152 "FirstdanceAgencyModel$Wedding" "songs" "I" "FirstdanceAgencyModel", .fieldLinkNest "FirstdanceAgencyModel" 153 "FirstdanceAgencyModel$Wedding" "told" "I" "FirstdanceAgencyModel", .fieldLinkNest "FirstdanceAgencyModel" 156 "FirstdanceAgencyModel$Player" "isOff" "[Z" "FirstdanceAgencyModel", .fieldLinkNest "FirstdanceAgencyModel" 160 "FirstdanceAgencyModel$Wedding" "set" "I" "FirstdanceAgencyModel", .fieldLinkNest "FirstdanceAgencyModel" 207 "FirstdanceAgencyModel$Wedding" "price" "I" "FirstdanceAgencyModel", .fieldLinkNest "FirstdanceAgencyModel" 210 "FirstdanceAgencyModel$Wedding" "paid" "I" "FirstdanceAgencyModel", .fieldLinkNest "FirstdanceAgencyModel" 252 "FirstdanceAgencyModel$Wedding" "late" "I" "FirstdanceAgencyModel", .fieldLinkNest "FirstdanceAgencyModel" 267 "FirstdanceAgencyModel$Player" "earned" "I" "FirstdanceAgencyModel", .fieldLinkNest "FirstdanceAgencyModel" 71 "FirstdanceAgencyModel$Player" "instruments" "I" "FirstdanceAgencyModel", .fieldLinkNest "FirstdanceAgencyModel" 74 "FirstdanceAgencyModel$Player" "songs" "I" "FirstdanceAgencyModel", .fieldLinkNest "FirstdanceAgencyModel" 77 "FirstdanceAgencyModel$Player" "home" "I" "FirstdanceAgencyModel", .fieldLinkNest "FirstdanceAgencyModel" 80 "FirstdanceAgencyModel$Player" "fee" "I" "FirstdanceAgencyModel", .fieldLinkNest "FirstdanceAgencyModel" 99 "FirstdanceAgencyModel$Player" "feuds" "I" "FirstdanceAgencyModel", .fieldLinkNest "java/util/ArrayList$Itr" 28 "java/util/ArrayList" "size" "I" "java/util/ArrayList", .methodLinkNest "FirstdanceAgency" 69 ⟨"FirstdanceAgency$Fillings", "<init>", "()V"⟩ "FirstdanceAgency", .methodLinkNest "FirstdanceAgency" 76 ⟨"FirstdanceAgency$BestSet", "<init>", "()V"⟩ "FirstdanceAgency", .methodLinkNest "FirstdanceAgency" 81 ⟨"FirstdanceAgency$Player", "<init>", "()V"⟩ "FirstdanceAgency", .methodLinkNest "FirstdanceAgency" 85 ⟨"FirstdanceAgency$Band", "<init>", "()V"⟩ "FirstdanceAgency", .methodLinkNest "FirstdanceAgency" 86 ⟨"FirstdanceAgency$Wedding", "<init>", "()V"⟩ "FirstdanceAgency", .methodLinkNest "FirstdanceAgency$BestSet" 53 ⟨"FirstdanceAgency", "has", "(II)Z"⟩ "FirstdanceAgency", .methodLinkNest "FirstdanceAgency$Wedding" 48 ⟨"FirstdanceAgency", "has", "(II)Z"⟩ "FirstdanceAgency", .methodLinkNest "FirstdanceAgencyLaw" 119 ⟨"FirstdanceAgencyLaw$Out", "<init>", "()V"⟩ "FirstdanceAgencyLaw", .methodLinkNest "FirstdanceAgencyModel" 142 ⟨"FirstdanceAgencyModel$Wedding", "<init>", "()V"⟩ "FirstdanceAgencyModel", .methodLinkNest "FirstdanceAgencyModel" 70 ⟨"FirstdanceAgencyModel$Player", "<init>", "()V"⟩ "FirstdanceAgencyModel"]
def strL : List (String × Nat × String) := [("FirstdanceAgency", 93, "no such town"), ("FirstdanceAgency", 103, "no such player can be told"), ("FirstdanceAgency", 108, "there are as many players as there can be"), ("FirstdanceAgency", 126, "not a set of songs"), ("FirstdanceAgency", 137, "no song can be like that"), ("FirstdanceAgency", 148, "nobody has a feud alone"), ("FirstdanceAgency", 160, "no such road can be told"), ("FirstdanceAgency", 173, "not the shape of a band"), ("FirstdanceAgency", 175, "there are as many bands as there can be"), ("FirstdanceAgency", 186, "no such wedding can be asked for"), ("FirstdanceAgency", 191, "there is no place for that wedding"), ("FirstdanceAgency", 220, "it is not the first in its queue"), ("FirstdanceAgency", 228, "it has no filling"), ("FirstdanceAgency", 254, "it is over"), ("FirstdanceAgency", 280, "nothing runs that late"), ("FirstdanceAgency", 282, "it is not fixed"), ("FirstdanceAgency", 291, "not so many days"), ("FirstdanceAgency", 293, "there is no such day"), ("FirstdanceAgency", 313, "nothing like that is known of a player"), ("FirstdanceAgency", 323, "nothing like that is known of a song"), ("FirstdanceAgency", 325, "nothing like that is known of a band"), ("FirstdanceAgency", 340, "nothing like that is known of a wedding"), ("FirstdanceAgency", 348, "nothing like that is known of a filling"), ("FirstdanceAgency", 353, "not a set of players"), ("FirstdanceAgency", 364, "-"), ("FirstdanceAgency", 398, "nothing like that is on the desk"), ("FirstdanceAgency", 400, " on day "), ("FirstdanceAgency", 405, " in "), ("FirstdanceAgency", 407, ", "), ("FirstdanceAgency", 417, "not a day"), ("FirstdanceAgency", 483, "no such song"), ("FirstdanceAgency", 485, "no such player"), ("FirstdanceAgency", 487, "no such band"), ("FirstdanceAgency", 489, "no such wedding"), ("FirstdanceAgency", 491, "not a day to come"), ("FirstdanceAgency", 543, "asked"), ("FirstdanceAgency", 545, "fixed"), ("FirstdanceAgency", 547, "played"), ("FirstdanceAgency", 548, "lost"), ("FirstdanceAgency", 550, ": "), ("FirstdanceAgency", 552, ","), ("FirstdanceAgencyModel", 323, ""), ("FirstdanceAgencyModel", 330, " "), ("FirstdanceAgencyModel", 339, "-"), ("FirstdanceAgencyModel", 354, "asked"), ("FirstdanceAgencyModel", 356, "fixed"), ("FirstdanceAgencyModel", 358, "played"), ("FirstdanceAgencyModel", 360, "lost"), ("FirstdanceAgencyModel", 362, " on day "), ("FirstdanceAgencyModel", 364, " in "), ("FirstdanceAgencyModel", 366, ", "), ("FirstdanceAgencyModel", 368, ","), ("FirstdanceAgencyModel", 370, ": "), ("java/util/Arrays", 337, " > ")]
def nestB (w : Cond) : Bool := match w with
  | .fieldLinkNest .. => true
  | .methodLinkNest .. => true
  | .castable .. => true
  | .declares .. => true
  | _ => false
theorem nestL_ok : ∀ w ∈ nestL, nestB w = true := List.all_eq_true.mp (by rfl)
theorem nest_warm {s U : State} (hW : s.WarmedH U.vm) (w : Cond) (hb : nestB w = true) (h : va_Nw w s) : va_Nw w U := by
  unfold nestB at hb
  split at hb
  · exact va_Nw.warmF hW h
  · exact va_Nw.warmM hW h
  · exact va_Nw.warmC hW h
  · exact va_tabs rfl (rfl : (s.setVm U.vm).vm = U.vm) (by rw [Cond.declares_setVm hW.alike]; exact h)
  · cases hb
theorem nest_same {u U : State} (hv : u.vm = U.vm) (w : Cond) (hb : nestB w = true) (h : va_Nw w u) : va_Nw w U := by
  unfold nestB at hb
  split at hb
  · exact va_Nw.same rfl hv h
  · exact va_Nw.same rfl hv h
  · exact va_Nw.same rfl hv h
  · exact va_Nw.same rfl hv h
  · cases hb
theorem nest_use {U : State} {A : Array Value} (w : Cond) (hb : nestB w = true) (h : va_Nw w U) : w.before A U = true := by
  unfold nestB at hb
  split at hb
  · exact va_Nw.use rfl h
  · exact va_Nw.use rfl h
  · exact va_Nw.use rfl h
  · exact va_Nw.use rfl h
  · cases hb
/-- what the tables say at a state, and the two statics that a throw reads -/
def agT (D : va_G) (cy : Nat → ClassId) (lay : Nat → Nat) (U : State) : Prop :=
  va_K D vwCl (fdT cy) U ∧ (∀ w ∈ nestL, va_Nw w U) ∧ (∀ q ∈ strL, ∃ sa, vk_R q.1 q.2.1 q.2.2 sa U) ∧
  vx_Zq Bundle.tN "UNASSIGNED_STACK" Bundle.steD (agA lay U.heap.size) U U.heap ∧ vx_Zq Bundle.tN "SUPPRESSED_SENTINEL" Bundle.listD (agA lay U.heap.size) U U.heap
/-- the world at heap H, within a method that began at H0 -/
def agG (D : va_G) (cy : Nat → ClassId) (lay : Nat → Nat) (σ : MS) (A : Nat → Prop) (H0 H : Heap) (locs : List Loc) : Prop :=
  va_P D vwCl (agW cy lay σ) H ∧ va_D A (agW cy lay σ) ∧ va_S A H0 H locs
/-- a method's start -/
def agI (D : va_G) (cy : Nat → ClassId) (lay : Nat → Nat) (σ : MS) (sz : Nat) (U : State) : Prop :=
  U.heap.size = sz ∧ agT D cy lay U ∧ va_P D vwCl (agW cy lay σ) U.heap ∧ va_D (fun _ => True) (agW cy lay σ)
/-- a method's end -/
def agO (D : va_G) (cy : Nat → ClassId) (lay : Nat → Nat) (σ : MS) (t : State) : Prop := va_P D vwCl (agW cy lay σ) t.heap ∧ va_D (fun _ => True) (agW cy lay σ)
theorem agT_next {D : va_G} {cy : Nat → ClassId} {lay : Nat → Nat} {s U : State} {H : Heap} {locs : List Loc} (hT : agT D cy lay s) (hS : va_S (agA lay s.heap.size) s.heap H locs) (hU : U.heap = H) (hW : s.WarmedH U.vm) : agT D cy lay U := by
  obtain ⟨h1, h2, h3, h4, h5⟩ := hT
  refine ⟨va_K.moved hW.alike h1, fun w hw => nest_warm hW w (nestL_ok w hw) (h2 w hw), fun q hq => ?_, ?_, ?_⟩
  · obtain ⟨sa, h⟩ := h3 q hq
    exact ⟨sa, vk_R.warm hW h⟩
  · rw [hU]
    exact (((h4.moved hW.alike).kept hS.2.1)).narrow (agA_le hS.1)
  · rw [hU]
    exact (((h5.moved hW.alike).kept hS.2.1)).narrow (agA_le hS.1)
theorem agI_blind {D : va_G} {cy : Nat → ClassId} {lay : Nat → Nat} {σ : MS} {sz : Nat} {As : List Value} : FrameBlind (va_Pc As (agI D cy lay σ sz)) := by
  intro a U g mk h
  obtain ⟨h0, h1, ⟨k1, k2, k3, k4, k5⟩, h2, h3⟩ := h
  refine ⟨h0, h1, ⟨va_K.moved (u := U) (U := U.calling g mk a) (Vm.Alike.refl U.vm) k1, fun w hw => nest_same (u := U) (U := U.calling g mk a) rfl w (nestL_ok w hw) (k2 w hw), fun q hq => ?_, ?_, ?_⟩, h2, h3⟩
  · obtain ⟨sa, h⟩ := k3 q hq
    exact ⟨sa, vk_R.same (u := U) (U := U.calling g mk a) rfl h⟩
  · exact vx_Zq.moved (u := U) (U := U.calling g mk a) (Vm.Alike.refl U.vm) k4
  · exact vx_Zq.moved (u := U) (U := U.calling g mk a) (Vm.Alike.refl U.vm) k5
theorem agI_next {D : va_G} {cy : Nat → ClassId} {lay : Nat → Nat} {σ : MS} {s U : State} {H : Heap} {locs : List Loc} (hT : agT D cy lay s) (G : agG D cy lay σ (agA lay s.heap.size) s.heap H locs) (hU : U.heap = H) (hW : s.WarmedH U.vm) : agI D cy lay σ H.size U :=
  ⟨by rw [hU], agT_next hT G.2.2 hU hW, by rw [hU]; exact G.1, agD_t G.2.1⟩
theorem agO_G {D : va_G} {cy : Nat → ClassId} {lay : Nat → Nat} {σ : MS} {s t : State} {H : Heap} {locs : List Loc} (G : agG D cy lay σ (agA lay s.heap.size) s.heap H locs) (ht : t.heap = H) : agO D cy lay σ t := ⟨by rw [ht]; exact G.1, agD_t G.2.1⟩
/-- a class: its place among vwCl, its fields' types, their names apart -/
def agCl (C : String) (T : u_T) (N ci : Nat) (ty : Nat → FieldType) : Prop := vwCl[ci]? = some (C, T, N) ∧ (∀ k, k < N → parseFieldDescriptor (T k).2.2.1 = some (ty k)) ∧ ∀ a, a < N → ∀ b, b < N → a ≠ b → (T a).2.1 ≠ (T b).2.1
theorem k_X0 : agCl RX0 TX0 3 5 tyX0 := ⟨rfl, tyX0_ok, nmX0⟩
theorem k_X1 : agCl RX1 TX1 7 6 tyX1 := ⟨rfl, tyX1_ok, nmX1⟩
theorem k_X2 : agCl RX2 TX2 6 7 tyX2 := ⟨rfl, tyX2_ok, nmX2⟩
theorem k_X3 : agCl RX3 TX3 8 8 tyX3 := ⟨rfl, tyX3_ok, nmX3⟩
theorem k_X4 : agCl RX4 TX4 2 9 tyX4 := ⟨rfl, tyX4_ok, nmX4⟩
theorem k_X5 : agCl RX5 TX5 4 10 tyX5 := ⟨rfl, tyX5_ok, nmX5⟩
theorem k_X6 : agCl RX6 TX6 12 11 tyX6 := ⟨rfl, tyX6_ok, nmX6⟩
theorem k_X7 : agCl RX7 TX7 15 12 tyX7 := ⟨rfl, tyX7_ok, nmX7⟩
theorem wm {Ts : List Cond} {w : Cond} (i : Nat) (h : Ts[i]? = some w) : w ∈ Ts := List.mem_of_getElem? h
section AGROWS
variable {p : Program} {l : Launch} {e : Env} {R : Room} {s : State} {m : MethodId} {args : Array Value} {below : List Frame} {meth : Method} {c : Code} {H : Heap} {locs : List Loc} {cells slots : Nat} {Q : State → Prop}
variable {cc : ByteArray} {pc nL : Nat} {ls : Array Slot} {rest : List Value} {D : va_G} {cy : Nat → ClassId} {lay : Nat → Nat} {σ : MS} {A : Nat → Prop} {H0 : Heap} {Ts : List Cond} {own : String}
theorem ag_get {C : String} {T : u_T} {N ci index : Nat} {ty : Nat → FieldType} (hC : CallFix p m c cc nL s args Ts own) (hT : agT D cy lay s) (G : agG D cy lay σ A H0 H locs) {k : Nat} (hk : k < 87) {fs : List Value} (he : agR cy lay (σ k) k = .inr (ci, fs)) (hcl : agCl C T N ci ty) (hin : ∀ w ∈ u_ws C T N, w ∈ Ts) (j : Nat) (hj : j < N) (hl : Cond.fieldLink own index (T j).1 (T j).2.1 (T j).2.2.1 ∈ Ts) {v : Value} (hv : fs[j]? = some v) (hdg : decode cc pc = .ok (.getfield index, 3))
    (kk : W p l e R s m args below meth c H locs cells slots Q (F0 m (pc + 3) ls (v :: rest))) : W p l e R s m args below meth c H locs cells slots Q (F0 m pc ls (.ref (lay k) :: rest)) :=
  va_get hC.1 hC.2.1 hC.2.2.2.2 hin hC.2.2.2.1 hT.1 G.1 k (ag_at hk he) hcl.1 j hj (hC.2.2.2.2 _ hl) (fun _ h => h) hv hdg kk
theorem ag_put {C : String} {T : u_T} {N ci index : Nat} {ty : Nat → FieldType} (hC : CallFix p m c cc nL s args Ts own) (hT : agT D cy lay s) (G : agG D cy lay σ A H0 H locs) {k : Nat} (hk : k < 87) {fs : List Value} (he : agR cy lay (σ k) k = .inr (ci, fs)) (hcl : agCl C T N ci ty) (hin : ∀ w ∈ u_ws C T N, w ∈ Ts) (j : Nat) (hj : j < N) (hl : Cond.fieldLink own index (T j).1 (T j).2.1 (T j).2.2.1 ∈ Ts) (hfin : (T j).2.2.2 = false) (hty : ty j = .int) (hjl : j < fs.length) {v : Int32} {fs' : List Value} (he' : agR cy lay (upd (σ k) j v) k = .inr (ci, fs')) (hs : fs' = fs.set j (.int v)) (hdg : decode cc pc = .ok (.putfield index, 3))
    (kk : ∀ (H1 : Heap) (locs1 : List Loc), agG D cy lay (up2 σ k j v) A H0 H1 locs1 → W p l e R s m args below meth c H1 locs1 cells slots Q (F0 m (pc + 3) ls rest)) : W p l e R s m args below meth c H locs cells slots Q (F0 m pc ls (.int v :: .ref (lay k) :: rest)) := by
  have hs' : (agW cy lay σ).set k (lay k, .inr (ci, fs.set j (.int v))) = agW cy lay (up2 σ k j v) := ag_set hk (by rw [he', hs])
  refine va_put hC.1 hC.2.1 hC.2.2.2.2 hin ty hcl.2.1 hcl.2.2 hC.2.2.2.1 hT.1 G.1 G.2.1 G.2.2 k (ag_at hk he) hcl.1 j hj (hC.2.2.2.2 _ hl) (fun _ h => h) hfin (ty := .int) (v := .int v) (by rw [hcl.2.1 j hj, hty]) rfl rfl hjl hdg (fun H1 locs1 hP hD hS => ?_)
  rw [hs'] at hP hD
  exact kk H1 locs1 ⟨hP, hD, hS⟩
theorem ag_iald (hC : CallFix p m c cc nL s args Ts own) (hT : agT D cy lay s) (G : agG D cy lay σ A H0 H locs) {k : Nat} (hk : k < 87) {n : Nat} (he : agR cy lay (σ k) k = .inl (cy 0, n, .inl (σ k))) {i : Int32} (hin : vp_in i n) (hdg : decode cc pc = .ok (.iaload, 1))
    (kk : W p l e R s m args below meth c H locs cells slots Q (F0 m (pc + 1) ls (.int (σ k i.toNatClampNeg) :: rest))) : W p l e R s m args below meth c H locs cells slots Q (F0 m pc ls (.int i :: .ref (lay k) :: rest)) :=
  va_iald hC.1 hC.2.1 hT.1 G.1 k 0 (ag_at hk he) rfl hin hdg kk
theorem ag_zald (hC : CallFix p m c cc nL s args Ts own) (hT : agT D cy lay s) (G : agG D cy lay σ A H0 H locs) {k : Nat} (hk : k < 87) {n : Nat} (he : agR cy lay (σ k) k = .inl (cy 1, n, .inl (σ k))) {i : Int32} (hin : vp_in i n) (hdg : decode cc pc = .ok (.baload, 1))
    (kk : W p l e R s m args below meth c H locs cells slots Q (F0 m (pc + 1) ls (.int (σ k i.toNatClampNeg) :: rest))) : W p l e R s m args below meth c H locs cells slots Q (F0 m pc ls (.int i :: .ref (lay k) :: rest)) :=
  va_zald hC.1 hC.2.1 hT.1 G.1 k 1 (ag_at hk he) rfl hin hdg kk
theorem ag_iast (hC : CallFix p m c cc nL s args Ts own) (hT : agT D cy lay s) (G : agG D cy lay σ A H0 H locs) {k : Nat} (hk : k < 87) {n : Nat} (he : ∀ f : Nat → Int32, agR cy lay f k = .inl (cy 0, n, .inl f)) {i x : Int32} (hin : vp_in i n) (hdg : decode cc pc = .ok (.iastore, 1))
    (kk : ∀ (H1 : Heap) (locs1 : List Loc), agG D cy lay (up2 σ k i.toNatClampNeg x) A H0 H1 locs1 → W p l e R s m args below meth c H1 locs1 cells slots Q (F0 m (pc + 1) ls rest)) : W p l e R s m args below meth c H locs cells slots Q (F0 m pc ls (.int x :: .int i :: .ref (lay k) :: rest)) := by
  refine va_iast hC.1 hC.2.1 hT.1 G.1 G.2.1 G.2.2 k 0 (ag_at hk (he _)) rfl hin hdg (fun H1 locs1 hP hD hS => ?_)
  rw [ag_set hk (he _)] at hP hD
  exact kk H1 locs1 ⟨hP, hD, hS⟩
theorem ag_zast (hC : CallFix p m c cc nL s args Ts own) (hT : agT D cy lay s) (G : agG D cy lay σ A H0 H locs) {k : Nat} (hk : k < 87) {n : Nat} (he : ∀ f : Nat → Int32, agR cy lay f k = .inl (cy 1, n, .inl f)) {i x : Int32} (hin : vp_in i n) (hdg : decode cc pc = .ok (.bastore, 1))
    (kk : ∀ (H1 : Heap) (locs1 : List Loc), agG D cy lay (up2 σ k i.toNatClampNeg (vp_nar .boolean x)) A H0 H1 locs1 → W p l e R s m args below meth c H1 locs1 cells slots Q (F0 m (pc + 1) ls rest)) : W p l e R s m args below meth c H locs cells slots Q (F0 m pc ls (.int x :: .int i :: .ref (lay k) :: rest)) := by
  refine va_zast hC.1 hC.2.1 hT.1 G.1 G.2.1 G.2.2 k 1 (ag_at hk (he _)) rfl hin hdg (fun H1 locs1 hP hD hS => ?_)
  rw [ag_set hk (he _)] at hP hD
  exact kk H1 locs1 ⟨hP, hD, hS⟩
theorem ag_aald (hC : CallFix p m c cc nL s args Ts own) (hT : agT D cy lay s) (G : agG D cy lay σ A H0 H locs) {k : Nat} (hk : k < 87) {n b t : Nat} (C : String) (ht : (fdT cy)[t]? = some (cy t, .object C)) (he : agR cy lay (σ k) k = .inl (cy t, n, rfA lay b)) {i : Int32} (hin : vp_in i n) (hdg : decode cc pc = .ok (.aaload, 1))
    (kk : W p l e R s m args below meth c H locs cells slots Q (F0 m (pc + 1) ls (.ref (lay (b + i.toNatClampNeg)) :: rest))) : W p l e R s m args below meth c H locs cells slots Q (F0 m pc ls (.int i :: .ref (lay k) :: rest)) :=
  va_aldq hC.1 hC.2.1 hT.1 G.1 k t (ag_at hk he) ht hin hdg kk
theorem ag_aalda (hC : CallFix p m c cc nL s args Ts own) (hT : agT D cy lay s) (G : agG D cy lay σ A H0 H locs) {k : Nat} (hk : k < 87) {n b : Nat} (he : agR cy lay (σ k) k = .inl (cy 6, n, rfA lay b)) {i : Int32} (hin : vp_in i n) (hdg : decode cc pc = .ok (.aaload, 1))
    (kk : W p l e R s m args below meth c H locs cells slots Q (F0 m (pc + 1) ls (.ref (lay (b + i.toNatClampNeg)) :: rest))) : W p l e R s m args below meth c H locs cells slots Q (F0 m pc ls (.int i :: .ref (lay k) :: rest)) := by
  have ha := ag_at (σ := σ) hk he
  have hlt : i.toNatClampNeg < n := vlt hin
  exact W.aald (v := va_rf (some (lay (b + i.toNatClampNeg)))) (ty := .array .int) hC.1 hC.2.1 (G.1 k _ ha) ((hT.1.2 6 _ rfl).1 n (fun j => va_rf (some (lay (b + j))))) rfl (fun q => by cases q) (by show ¬ (i < 0 ∨ (arrV _ _ _).slots.size ≤ _); rw [arrV_size]; exact hin) (by show (arrV _ _ _).slots[_]? = _; rw [arrV_read _ _ hlt]) rfl rfl hdg kk
theorem ag_recv {ci : Nat} {C : String} {T : u_T} {N : Nat} {ty : Nat → FieldType} {fs : List Value} (hT : agT D cy lay s) (G : agG D cy lay σ A H0 H locs) {k : Nat} (hk : k < 87) (he : agR cy lay (σ k) k = .inr (ci, fs)) (hcl : agCl C T N ci ty) : ∃ cell : Cell, H[lay k]? = some cell ∧ cell.vm.isStatics = false ∧ s.vm.findClass C = some cell.cls := va_recv hT.1 G.1 hcl.1 (ag_at hk he)
end AGROWS
section AGCALLS
variable {p : Program} {l : Launch} {e : Env} {R : Room} {s : State} {m : MethodId} {args : Array Value} {below : List Frame} {meth : Method} {c : Code} {H : Heap} {locs : List Loc} {cells slots : Nat} {Q : State → Prop}
variable {cc bytes : ByteArray} {pc nL maxL mc ms n index : Nat} {ls : Array Slot} {ST rest As : List Value} {D : va_G} {cy : Nat → ClassId} {lay : Nat → Nat} {σ : MS} {Ts ws : List Cond} {own Cn host : String} {y : MethodName} {ret : Option FieldType} {rm : Room} {b : Addr}
variable {Qc : Array Value → State → Outcome → State → Prop} {free : Addr → Prop}
theorem ag_runV (hC : CallFix p m c cc nL s args Ts own) (hT : agT D cy lay s) (G : agG D cy lay σ (agA lay s.heap.size) s.heap H locs) (hM : Met l y ws rm (va_Pc (.ref b :: As) (agI D cy lay σ H.size)) Qc mc ms free) (cw : CallW R s args own Cn index y bytes maxL ret ws rm mc ms n) (hrv : ∃ cell : Cell, H[b]? = some cell ∧ cell.vm.isStatics = false ∧ s.vm.findClass Cn = some cell.cls)
    (hn : As.length = n) (hls : ls.size = nL) (hst : ST = As.reverse ++ .ref b :: rest) (hW : (rest.map fun v => v.category).sum ≤ 8) (hdg : decode cc pc = .ok (.invokevirtual index, 3)) (hf : cells + mc ≤ R.cells ∧ slots + ms ≤ R.slots) :
    va_Run p l e R s m args below meth c H locs cells slots mc ms (F0 m pc ls ST) rest (Qc (.ref b :: As).toArray) free :=
  va_runV hC hM cw ⟨agI_blind, hrv, fun U hU hW => ⟨rfl, agI_next hT G hU hW⟩⟩ rfl hn hls hst (lv_room hW) hdg hf
theorem ag_runS (hC : CallFix p m c cc nL s args Ts own) (hT : agT D cy lay s) (G : agG D cy lay σ (agA lay s.heap.size) s.heap H locs) (hM : Met l y ws rm (va_Pc As (agI D cy lay σ H.size)) Qc mc ms free) (cw : CallB R s args own index y bytes maxL ret ws rm mc ms n ∧ (Cond.static y).before args s = true)
    (hn : As.length = n) (hls : ls.size = nL) (hst : ST = As.reverse ++ rest) (hW : (rest.map fun v => v.category).sum ≤ 8) (hdg : decode cc pc = .ok (.invokestatic index, 3)) (hf : cells + mc ≤ R.cells ∧ slots + ms ≤ R.slots) :
    va_Run p l e R s m args below meth c H locs cells slots mc ms (F0 m pc ls ST) rest (Qc As.toArray) free :=
  va_runS hC hM cw ⟨agI_blind, fun U hU hW => ⟨rfl, agI_next hT G hU hW⟩⟩ rfl hn hls hst (lv_room hW) hdg hf
theorem ag_runSN (hC : CallFix p m c cc nL s args Ts own) (hT : agT D cy lay s) (G : agG D cy lay σ (agA lay s.heap.size) s.heap H locs) (hM : Met l y ws rm (va_Pc As (agI D cy lay σ H.size)) Qc mc ms free) (cw : va_CN R s args own index y host bytes maxL ret ws rm mc ms n ∧ (Cond.static y).before args s = true ∧ True)
    (hn : As.length = n) (hls : ls.size = nL) (hst : ST = As.reverse ++ rest) (hW : (rest.map fun v => v.category).sum ≤ 8) (hdg : decode cc pc = .ok (.invokestatic index, 3)) (hf : cells + mc ≤ R.cells ∧ slots + ms ≤ R.slots) :
    va_Run p l e R s m args below meth c H locs cells slots mc ms (F0 m pc ls ST) rest (Qc As.toArray) free :=
  va_runSN hC hM cw ⟨agI_blind, fun U hU hW => ⟨rfl, agI_next hT G hU hW⟩⟩ rfl hn hls hst (lv_room hW) hdg hf
/-- behind a call that answers an int -/
theorem ag_i {post : Int32 → MS → Prop} {a : Array Value} (G : agG D cy lay σ (agA lay s.heap.size) s.heap H locs) (hr : va_Run p l e R s m args below meth c H locs cells slots mc ms (F0 m pc ls ST) rest (va_Qi post (agO D cy lay) (agA lay H.size) a) (agA lay H.size))
    (kk : ∀ (r : Int32) (σ' : MS) (H1 : Heap) (locs1 : List Loc), post r σ' → agG D cy lay σ' (agA lay s.heap.size) s.heap H1 locs1 → W p l e R s m args below meth c H1 locs1 (cells + mc) (slots + ms) Q (F0 m (pc + 3) ls (.int r :: rest))) : W p l e R s m args below meth c H locs cells slots Q (F0 m pc ls ST) :=
  va_calli hr G.2.2 (fun q _ h => agA_le G.2.2.1 q h) (agA_le G.2.2.1) (fun r u t H1 locs1 ht hvm hw hB hz hk hS => kk r u H1 locs1 hw ⟨by rw [← ht]; exact hB.1, agD_of hB.2, hS⟩)
theorem ag_l {post : Int64 → MS → Prop} {a : Array Value} (G : agG D cy lay σ (agA lay s.heap.size) s.heap H locs) (hr : va_Run p l e R s m args below meth c H locs cells slots mc ms (F0 m pc ls ST) rest (va_Ql post (agO D cy lay) (agA lay H.size) a) (agA lay H.size))
    (kk : ∀ (r : Int64) (σ' : MS) (H1 : Heap) (locs1 : List Loc), post r σ' → agG D cy lay σ' (agA lay s.heap.size) s.heap H1 locs1 → W p l e R s m args below meth c H1 locs1 (cells + mc) (slots + ms) Q (F0 m (pc + 3) ls (.long r :: rest))) : W p l e R s m args below meth c H locs cells slots Q (F0 m pc ls ST) :=
  va_calll hr G.2.2 (fun q _ h => agA_le G.2.2.1 q h) (agA_le G.2.2.1) (fun r u t H1 locs1 ht hvm hw hB hz hk hS => kk r u H1 locs1 hw ⟨by rw [← ht]; exact hB.1, agD_of hB.2, hS⟩)
theorem ag_v {post : MS → Prop} {a : Array Value} (G : agG D cy lay σ (agA lay s.heap.size) s.heap H locs) (hr : va_Run p l e R s m args below meth c H locs cells slots mc ms (F0 m pc ls ST) rest (va_Qv post (agO D cy lay) (agA lay H.size) a) (agA lay H.size))
    (kk : ∀ (σ' : MS) (H1 : Heap) (locs1 : List Loc), post σ' → agG D cy lay σ' (agA lay s.heap.size) s.heap H1 locs1 → W p l e R s m args below meth c H1 locs1 (cells + mc) (slots + ms) Q (F0 m (pc + 3) ls rest)) : W p l e R s m args below meth c H locs cells slots Q (F0 m pc ls ST) :=
  va_callv hr G.2.2 (fun q _ h => agA_le G.2.2.1 q h) (agA_le G.2.2.1) (fun u t H1 locs1 ht hvm hw hB hz hk hS => kk u H1 locs1 hw ⟨by rw [← ht]; exact hB.1, agD_of hB.2, hS⟩)
/-- a method's contract out of the walk of its body -/
theorem ag_ofW {ws' : List Cond} {maxL : Nat} {sz : Nat} {Qc : Nat → Array Value → State → Outcome → State → Prop} (hy : plainName y.cls = true) (hw : ws = Cond.code y cc maxL ret :: ws') (hnl : (lg_sl As).length ≤ maxL) (hoo : y.cls = own)
    (body : ∀ (p : Program) (e : Env) (s : State) (m : MethodId) (args : Array Value) (below : List Frame) (meth : Method) (c : Code) (ls : Array Slot), CallFix p m c cc maxL s args ws own → meth.sig.returnType = ret → meth.locks = false → agT D cy lay s → agG D cy lay σ (agA lay s.heap.size) s.heap s.heap [] → lv_has ls maxL (lv_args 0 As) →
      W p l e rm s m args below meth c s.heap [] 0 0 (MQ below (Qc s.heap.size) args s mc ms (agA lay s.heap.size)) (F0 m 0 ls [])) : Met l y ws rm (va_Pc As (agI D cy lay σ sz)) (Qc sz) mc ms (agA lay sz) := by
  refine Met.ofW (cc := cc) (maxL := maxL) (ret := ret) hy hw ?_
  intro p e s m args below meth c s₁ B hml hv
  obtain ⟨rfl, hsz, hT, hP, hD⟩ := hv
  subst hsz
  have hl := lv_entry As (n := maxL) hnl
  rw [lg_entry_eq]
  have hown : s.vm.findClass y.cls = some m.cls := findClass_of_methodNamed B.named
  rw [hoo] at hown
  exact body p e s m As.toArray below meth c _ ⟨B.exec, B.bytes, hml, hown, atoms_spec (ws := ws) B.pre⟩ B.returns B.notSynchronized hT ⟨hP, agD_of hD, va_S.rf⟩ hl
theorem ag_iret {post : Int32 → MS → Prop} {v : Int32} {locs : List Loc} (hC : CallFix p m c cc nL s args Ts own) (hr : meth.sig.returnType = some .int) (hlocks : meth.locks = false) (G : agG D cy lay σ (agA lay s.heap.size) s.heap H locs) (h : post v σ) (hdg : decode cc pc = .ok (.ireturn, 1)) :
    W p l e R s m args below meth c H locs cells slots (MQ below (va_Qi post (agO D cy lay) (agA lay s.heap.size)) args s cells slots (agA lay s.heap.size)) (F0 m pc ls [.int v]) :=
  W.iret (v := v) hC.1 hC.2.1 hr (fun t ht hW => ⟨⟨v, σ, rfl, h, agO_G G ht⟩, G.2.2.F ht⟩) G.2.2.2.2 hdg hlocks
theorem ag_zret {post : Int32 → MS → Prop} {v : Int32} {locs : List Loc} (hC : CallFix p m c cc nL s args Ts own) (hr : meth.sig.returnType = some .boolean) (hlocks : meth.locks = false) (G : agG D cy lay σ (agA lay s.heap.size) s.heap H locs) (hn : narrow .boolean (.int v) = .int v) (h : post v σ) (hdg : decode cc pc = .ok (.ireturn, 1)) :
    W p l e R s m args below meth c H locs cells slots (MQ below (va_Qi post (agO D cy lay) (agA lay s.heap.size)) args s cells slots (agA lay s.heap.size)) (F0 m pc ls [.int v]) :=
  W.zret (v := v) hC.1 hC.2.1 hr hn (fun t ht hW => ⟨⟨v, σ, rfl, h, agO_G G ht⟩, G.2.2.F ht⟩) G.2.2.2.2 hdg hlocks
theorem ag_vret {post : MS → Prop} {locs : List Loc} (hC : CallFix p m c cc nL s args Ts own) (hr : meth.sig.returnType = none) (hlocks : meth.locks = false) (G : agG D cy lay σ (agA lay s.heap.size) s.heap H locs) (h : post σ) (hdg : decode cc pc = .ok (.return_, 1)) :
    W p l e R s m args below meth c H locs cells slots (MQ below (va_Qv post (agO D cy lay) (agA lay s.heap.size)) args s cells slots (agA lay s.heap.size)) (F0 m pc ls []) :=
  W.vret hC.1 hC.2.1 hr (fun t ht hW => ⟨⟨σ, rfl, h, agO_G G ht⟩, G.2.2.F ht⟩) G.2.2.2.2 hdg hlocks
end AGCALLS
end
section
theorem ne_t {x y : Int32} (h : ¬ x ≠ y) : x = y := Decidable.not_not.mp h
theorem tsw_out {x : Int32} {hi : Int} (n : Nat) (hh : hi = (n : Int) - 1) (hn : n < 2 ^ 31) (h : ∀ k : Nat, k < n → ¬ x = Int32.ofNat k) : x.toInt < 0 ∨ hi < x.toInt := by
  rcases Int.lt_or_le x.toInt 0 with h0 | h0
  · exact Or.inl h0
  · rcases Int.lt_or_le hi x.toInt with h1 | h1
    · exact Or.inr h1
    · exfalso
      obtain ⟨j, hj, e⟩ := nI_of (x := x) (fun z => by
        have := Int32.lt_iff_toInt_lt.mp z
        rw [Int32.toInt_zero] at this
        omega)
      have e2 : x.toInt = (j : Int) := by rw [e]; exact nI_toInt hj
      exact h j (by omega) e
section AGT
variable {p : Program} {l : Launch} {e : Env} {R : Room} {s : State} {m : MethodId} {args : Array Value} {below : List Frame} {meth : Method} {c : Code} {H : Heap} {locs : List Loc} {cells slots : Nat} {Q : State → Prop}
variable {cc bytes : ByteArray} {pc nL maxL mc ms kc ks n index : Nat} {ls : Array Slot} {ST rest As : List Value} {D : va_G} {cy : Nat → ClassId} {lay : Nat → Nat} {σ : MS} {Ts ws : List Cond} {own Cn host : String} {y : MethodName} {ret : Option FieldType} {rm : Room} {b : Addr}
variable {Qc : Array Value → State → Outcome → State → Prop} {free : Addr → Prop} {pex : String → MS → Prop}
theorem ag_lret {post : Int64 → MS → Prop} {v : Int64} {locs : List Loc} (hC : CallFix p m c cc nL s args Ts own) (hr : meth.sig.returnType = some .long) (hlocks : meth.locks = false) (G : agG D cy lay σ (agA lay s.heap.size) s.heap H locs) (h : post v σ) (hdg : decode cc pc = .ok (.lreturn, 1)) :
    W p l e R s m args below meth c H locs cells slots (MQ below (va_Ql post (agO D cy lay) (agA lay s.heap.size)) args s cells slots (agA lay s.heap.size)) (F0 m pc ls [.long v]) :=
  W.lret (v := v) hC.1 hC.2.1 hr (fun t ht hW => ⟨⟨v, σ, rfl, h, agO_G G ht⟩, G.2.2.F ht⟩) G.2.2.2.2 hdg hlocks
/-- what a method that throws leaves: the class's name and the numbers of the world -/
def agXC (D : va_G) (cy : Nat → ClassId) (lay : Nat → Nat) (pex : String → MS → Prop) (sz : Nat) : String → State → State → Prop := vx_X (S := String × MS) (fun u => pex u.1 u.2) (fun E u t => u.1 = E ∧ agO D cy lay u.2 t) (agA lay sz)
theorem agXC_of {s t : State} {E : String} {locs : List Loc} (G : agG D cy lay σ (agA lay s.heap.size) s.heap H locs) (h : pex E σ) (hz : H.size ≤ t.heap.size) (hq : ∀ q : Nat, q < H.size → t.heap[q]? = H[q]?) : agXC D cy lay pex s.heap.size E s t :=
  ⟨(E, σ), h, ⟨rfl, G.1.kept (fun k q hk => hq q.1 (G.1 k q hk).lt), agD_t G.2.1⟩, Nat.le_trans G.2.2.1 hz, fun q h1 h2 => by rw [hq q (Nat.lt_of_lt_of_le h1 G.2.2.1)]; exact G.2.2.2.1 q h1 h2⟩
theorem ag_runVT (hC : CallFix p m c cc nL s args Ts own) (hT : agT D cy lay s) (G : agG D cy lay σ (agA lay s.heap.size) s.heap H locs) {XC : String → State → State → Prop} (hM : vx_Met l y ws rm (va_Pc (.ref b :: As) (agI D cy lay σ H.size)) Qc XC kc ks free) (cw : CallW R s args own Cn index y bytes maxL ret ws rm kc ks n) (hrv : ∃ cell : Cell, H[b]? = some cell ∧ cell.vm.isStatics = false ∧ s.vm.findClass Cn = some cell.cls)
    (hn : As.length = n) (hls : ls.size = nL) (hst : ST = As.reverse ++ .ref b :: rest) (hW : (rest.map fun v => v.category).sum ≤ 8) (hdg : decode cc pc = .ok (.invokevirtual index, 3)) (hf : cells + kc ≤ R.cells ∧ slots + ks ≤ R.slots) :
    vx_Run p l e R s m args below meth c H locs cells slots kc ks (F0 m pc ls ST) rest (Qc (.ref b :: As).toArray) XC free :=
  vx_runV hC hM cw ⟨agI_blind, hrv, fun U hU hW => ⟨rfl, agI_next hT G hU hW⟩⟩ rfl hn hls hst (lv_room hW) hdg hf
theorem ag_runST (hC : CallFix p m c cc nL s args Ts own) (hT : agT D cy lay s) (G : agG D cy lay σ (agA lay s.heap.size) s.heap H locs) {XC : String → State → State → Prop} (hM : vx_Met l y ws rm (va_Pc As (agI D cy lay σ H.size)) Qc XC kc ks free) (cw : CallB R s args own index y bytes maxL ret ws rm kc ks n ∧ (Cond.static y).before args s = true)
    (hn : As.length = n) (hls : ls.size = nL) (hst : ST = As.reverse ++ rest) (hW : (rest.map fun v => v.category).sum ≤ 8) (hdg : decode cc pc = .ok (.invokestatic index, 3)) (hf : cells + kc ≤ R.cells ∧ slots + ks ≤ R.slots) :
    vx_Run p l e R s m args below meth c H locs cells slots kc ks (F0 m pc ls ST) rest (Qc As.toArray) XC free :=
  vx_runS hC hM cw ⟨agI_blind, fun U hU hW => ⟨rfl, agI_next hT G hU hW⟩⟩ rfl hn hls hst (lv_room hW) hdg hf
/-- thrown by a callee: it goes on to the caller -/
theorem ag_outT {E : String} {ce : Cell} {q9 : Addr} {u : String × MS} {t0 : State} (htab : ∀ x ∈ c.exceptionTable.toList, False) (hlocks : meth.locks = false) (hS : va_S (agA lay s.heap.size) s.heap H locs) (ht : t0.heap = H) (hp : pex u.1 u.2) (hB : u.1 = E ∧ agO D cy lay u.2 t0) (hcell : H[q9]? = some ce) (hv : ce.vm = .none) (hcl : s.vm.findClass E = some ce.cls) (hc : cells ≤ mc) (hs : slots ≤ ms) :
    vx_W p l e R s m args below meth c H locs cells slots (vx_MQ below Qc (agXC D cy lay pex s.heap.size) args s mc ms (agA lay s.heap.size)) (F0 m pc ls rest) q9 := by
  obtain ⟨E0, σ0⟩ := u
  obtain ⟨e1, hO⟩ := hB
  dsimp only at e1
  subst e1
  exact vx_out (fun x hx => (htab x hx).elim) hlocks hcell hv hcl (fun t h1 h2 => agXC_of (H := H) (locs := locs) ⟨by rw [← ht]; exact hO.1, agD_of hO.2, hS⟩ hp (by rw [h1]; exact Nat.le_refl _) (fun q _ => by rw [h1])) hS.2.2 hc hs
theorem ag_iT {post : Int32 → MS → Prop} {a : Array Value} (G : agG D cy lay σ (agA lay s.heap.size) s.heap H locs) (htab : ∀ x ∈ c.exceptionTable.toList, False) (hlocks : meth.locks = false) (hr : vx_Run p l e R s m args below meth c H locs cells slots kc ks (F0 m pc ls ST) rest (va_Qi post (agO D cy lay) (agA lay H.size) a) (agXC D cy lay pex H.size) (agA lay H.size)) (hc : cells + kc ≤ mc) (hs : slots + ks ≤ ms)
    (kk : ∀ (r : Int32) (σ' : MS) (H1 : Heap) (locs1 : List Loc), post r σ' → agG D cy lay σ' (agA lay s.heap.size) s.heap H1 locs1 → W p l e R s m args below meth c H1 locs1 (cells + kc) (slots + ks) (vx_MQ below Qc (agXC D cy lay pex s.heap.size) args s mc ms (agA lay s.heap.size)) (F0 m (pc + 3) ls (.int r :: rest))) : W p l e R s m args below meth c H locs cells slots (vx_MQ below Qc (agXC D cy lay pex s.heap.size) args s mc ms (agA lay s.heap.size)) (F0 m pc ls ST) :=
  vx_calli hr G.2.2 (fun q _ h => agA_le G.2.2.1 q h) (agA_le G.2.2.1) (fun q _ h => agA_le G.2.2.1 q h)
    (fun E ce q9 u t H1 locs1 ht hvm hp hB hz hk hS h1 h2 h3 => ag_outT htab hlocks hS ht hp hB h1 h2 h3 hc hs)
    (fun r u t H1 locs1 ht hvm hw hB hz hk hS => kk r u H1 locs1 hw ⟨by rw [← ht]; exact hB.1, agD_of hB.2, hS⟩)
theorem ag_vT {post : MS → Prop} {a : Array Value} (G : agG D cy lay σ (agA lay s.heap.size) s.heap H locs) (htab : ∀ x ∈ c.exceptionTable.toList, False) (hlocks : meth.locks = false) (hr : vx_Run p l e R s m args below meth c H locs cells slots kc ks (F0 m pc ls ST) rest (va_Qv post (agO D cy lay) (agA lay H.size) a) (agXC D cy lay pex H.size) (agA lay H.size)) (hc : cells + kc ≤ mc) (hs : slots + ks ≤ ms)
    (kk : ∀ (σ' : MS) (H1 : Heap) (locs1 : List Loc), post σ' → agG D cy lay σ' (agA lay s.heap.size) s.heap H1 locs1 → W p l e R s m args below meth c H1 locs1 (cells + kc) (slots + ks) (vx_MQ below Qc (agXC D cy lay pex s.heap.size) args s mc ms (agA lay s.heap.size)) (F0 m (pc + 3) ls rest)) : W p l e R s m args below meth c H locs cells slots (vx_MQ below Qc (agXC D cy lay pex s.heap.size) args s mc ms (agA lay s.heap.size)) (F0 m pc ls ST) :=
  vx_callv hr G.2.2 (fun q _ h => agA_le G.2.2.1 q h) (agA_le G.2.2.1) (fun q _ h => agA_le G.2.2.1 q h)
    (fun E ce q9 u t H1 locs1 ht hvm hp hB hz hk hS h1 h2 h3 => ag_outT htab hlocks hS ht hp hB h1 h2 h3 hc hs)
    (fun u t H1 locs1 ht hvm hw hB hz hk hS => kk u H1 locs1 hw ⟨by rw [← ht]; exact hB.1, agD_of hB.2, hS⟩)
/-- a contract of a method that may throw, out of the walk of its body -/
theorem ag_ofX {ws' : List Cond} {maxL : Nat} {sz : Nat} {Qc : Nat → Array Value → State → Outcome → State → Prop} (hy : plainName y.cls = true) (hw : ws = Cond.code y cc maxL ret :: ws') (hnl : (lg_sl As).length ≤ maxL) (hoo : y.cls = own)
    (body : ∀ (p : Program) (e : Env) (s : State) (m : MethodId) (args : Array Value) (below : List Frame) (meth : Method) (c : Code) (ls : Array Slot), CallFix p m c cc maxL s args ws own → meth.sig.returnType = ret → meth.locks = false → (∀ x ∈ c.exceptionTable.toList, False) → agT D cy lay s → agG D cy lay σ (agA lay s.heap.size) s.heap s.heap [] → lv_has ls maxL (lv_args 0 As) →
      W p l e rm s m args below meth c s.heap [] 0 0 (vx_MQ below (Qc s.heap.size) (agXC D cy lay pex s.heap.size) args s mc ms (agA lay s.heap.size)) (F0 m 0 ls [])) : vx_Met l y ws rm (va_Pc As (agI D cy lay σ sz)) (Qc sz) (agXC D cy lay pex sz) mc ms (agA lay sz) := by
  refine vx_ofW (cc := cc) (maxL := maxL) (ret := ret) hy hw ?_
  intro p e s m args below meth c s₁ B hml htab hv
  obtain ⟨rfl, hsz, hT, hP, hD⟩ := hv
  subst hsz
  have hl := lv_entry As (n := maxL) hnl
  rw [lg_entry_eq]
  have hown : s.vm.findClass y.cls = some m.cls := findClass_of_methodNamed B.named
  rw [hoo] at hown
  exact body p e s m As.toArray below meth c _ ⟨B.exec, B.bytes, hml, hown, atoms_spec (ws := ws) B.pre⟩ B.returns B.notSynchronized htab hT ⟨hP, agD_of hD, va_S.rf⟩ hl
/-- 'throw new E("text")' -/
theorem ag_throw (hl0 : l.stackTraces = false) (hC : CallFix p m c cc nL s args Ts own) (hT : agT D cy lay s) (G : agG D cy lay σ (agA lay s.heap.size) s.heap H locs) (htab : ∀ x ∈ c.exceptionTable.toList, False) (hlocks : meth.locks = false) (hls : ls.size = nL) {cls text : String} {names : List String} {ik is ic : Nat} (hcls : Bundle.fit cls = true) (hnames : ∀ n ∈ names, Bundle.fit n = true)
    (hk : Cond.classLink own ik cls ∈ Ts) (hini : Cond.initialized cls ∈ Ts) (hstr : (own, is, text) ∈ strL) (hat : ∀ w ∈ (vx_atS own ic cls names).filter goodWord, w ∈ Ts) (hall : ∀ w ∈ (vx_atS own ic cls names).filter (fun w => !goodWord w), w ∈ nestL) (hgood : ∀ w ∈ Cond.classLink own ik cls :: Cond.initialized cls :: vx_atS own ic cls names, vx_ot w = true)
    (d0 : decode cc pc = .ok (.new ik, 3)) (d3 : decode cc (pc + 3) = .ok (.dup, 1)) (d4 : decode cc (pc + 4) = .ok (.ldc is, 2)) (d6 : decode cc (pc + 6) = .ok (.invokespecial ic, 3)) (d9 : decode cc (pc + 9) = .ok (.athrow, 1))
    (hRf : names.length + 3 < R.frames) (hRl : (rest.map fun v => v.category).sum + (13 * (names.length + 1) + 43) ≤ R.locals) (hRc : cells + 1 ≤ R.cells) (hRs : slots + 6 ≤ R.slots) (hc : cells + 1 ≤ mc) (hs : slots + 6 ≤ ms) (h : pex cls σ) :
    W p l e R s m args below meth c H locs cells slots (vx_MQ below Qc (agXC D cy lay pex s.heap.size) args s mc ms (agA lay s.heap.size)) (F0 m pc ls rest) := by
  obtain ⟨sa, hsa⟩ := hT.2.2.1 _ hstr
  exact vx_throwS (A := agA lay s.heap.size) hC.1 hC.2.1 hl0 hC.2.2.2.1 hcls hnames (hC.2.2.2.2 _ hk) (hC.2.2.2.2 _ hini) hsa (vx_hat (B := nestL) (fun w hw => hC.2.2.2.2 _ (hat w hw)) hall (fun w hw => nest_use w (nestL_ok w hw) (hT.2.1 w hw))) hgood hT.2.2.2.1 hT.2.2.2.2 G.2.2 (hls.trans hC.2.2.1.symm) d0 d3 d4 d6 d9 (fun x hx => (htab x hx).elim) hRf hRl hRc hRs hlocks (fun t hvm hz hq => agXC_of G h hz hq) G.2.2.2.2 hc hs
/-- the same, the text by a wide index -/
theorem ag_throwW (hl0 : l.stackTraces = false) (hC : CallFix p m c cc nL s args Ts own) (hT : agT D cy lay s) (G : agG D cy lay σ (agA lay s.heap.size) s.heap H locs) (htab : ∀ x ∈ c.exceptionTable.toList, False) (hlocks : meth.locks = false) (hls : ls.size = nL) {cls text : String} {names : List String} {ik is ic : Nat} (hcls : Bundle.fit cls = true) (hnames : ∀ n ∈ names, Bundle.fit n = true)
    (hk : Cond.classLink own ik cls ∈ Ts) (hini : Cond.initialized cls ∈ Ts) (hstr : (own, is, text) ∈ strL) (hat : ∀ w ∈ (vx_atS own ic cls names).filter goodWord, w ∈ Ts) (hall : ∀ w ∈ (vx_atS own ic cls names).filter (fun w => !goodWord w), w ∈ nestL) (hgood : ∀ w ∈ Cond.classLink own ik cls :: Cond.initialized cls :: vx_atS own ic cls names, vx_ot w = true)
    (d0 : decode cc pc = .ok (.new ik, 3)) (d3 : decode cc (pc + 3) = .ok (.dup, 1)) (d4 : decode cc (pc + 4) = .ok (.ldc_w is, 3)) (d6 : decode cc (pc + 7) = .ok (.invokespecial ic, 3)) (d9 : decode cc (pc + 10) = .ok (.athrow, 1))
    (hRf : names.length + 3 < R.frames) (hRl : (rest.map fun v => v.category).sum + (13 * (names.length + 1) + 43) ≤ R.locals) (hRc : cells + 1 ≤ R.cells) (hRs : slots + 6 ≤ R.slots) (hc : cells + 1 ≤ mc) (hs : slots + 6 ≤ ms) (h : pex cls σ) :
    W p l e R s m args below meth c H locs cells slots (vx_MQ below Qc (agXC D cy lay pex s.heap.size) args s mc ms (agA lay s.heap.size)) (F0 m pc ls rest) := by
  obtain ⟨sa, hsa⟩ := hT.2.2.1 _ hstr
  exact vx_throwSW (A := agA lay s.heap.size) hC.1 hC.2.1 hl0 hC.2.2.2.1 hcls hnames (hC.2.2.2.2 _ hk) (hC.2.2.2.2 _ hini) hsa (vx_hat (B := nestL) (fun w hw => hC.2.2.2.2 _ (hat w hw)) hall (fun w hw => nest_use w (nestL_ok w hw) (hT.2.1 w hw))) hgood hT.2.2.2.1 hT.2.2.2.2 G.2.2 (hls.trans hC.2.2.1.symm) d0 d3 d4 d6 d9 (fun x hx => (htab x hx).elim) hRf hRl hRc hRs hlocks (fun t hvm hz hq => agXC_of G h hz hq) G.2.2.2.2 hc hs
end AGT
theorem exIOB_good : ∀ w ∈ Cond.classLink RX7 91 "java/lang/IndexOutOfBoundsException" :: Cond.initialized "java/lang/IndexOutOfBoundsException" :: vx_atS RX7 95 "java/lang/IndexOutOfBoundsException" ["java/lang/RuntimeException", "java/lang/Exception"], vx_ot w = true := by decide +kernel
theorem exIAE_good : ∀ w ∈ Cond.classLink RX7 101 "java/lang/IllegalArgumentException" :: Cond.initialized "java/lang/IllegalArgumentException" :: vx_atS RX7 105 "java/lang/IllegalArgumentException" ["java/lang/RuntimeException", "java/lang/Exception"], vx_ot w = true := by decide +kernel
theorem exISE_good : ∀ w ∈ Cond.classLink RX7 106 "java/lang/IllegalStateException" :: Cond.initialized "java/lang/IllegalStateException" :: vx_atS RX7 110 "java/lang/IllegalStateException" ["java/lang/RuntimeException", "java/lang/Exception"], vx_ot w = true := by decide +kernel
theorem exIOB_all : ∀ w ∈ (vx_atS RX7 95 "java/lang/IndexOutOfBoundsException" ["java/lang/RuntimeException", "java/lang/Exception"]).filter (fun w => !goodWord w), w ∈ nestL := by decide +kernel
theorem exIAE_all : ∀ w ∈ (vx_atS RX7 105 "java/lang/IllegalArgumentException" ["java/lang/RuntimeException", "java/lang/Exception"]).filter (fun w => !goodWord w), w ∈ nestL := by decide +kernel
theorem exISE_all : ∀ w ∈ (vx_atS RX7 110 "java/lang/IllegalStateException" ["java/lang/RuntimeException", "java/lang/Exception"]).filter (fun w => !goodWord w), w ∈ nestL := by decide +kernel
end
section
/-! A WORLD OF NUMBERED CELLS, SOME OF THEM THERE: 'X k = some e': cell k is there and holds e, at the address lay k. For constructors, for the reference, for rows that a method makes. -/
def gW (lay : Nat → Nat) (X : Nat → Option va_E) : va_W := (List.range 128).filterMap fun k => (X k).map fun e => (lay k, e)
def gP (D : va_G) (lay : Nat → Nat) (X : Nat → Option va_E) (H : Heap) : Prop := ∀ k e, k < 128 → X k = some e → va_at D vwCl (lay k, e) H
def gI (A : Nat → Prop) (lay : Nat → Nat) (X : Nat → Option va_E) : Prop := (∀ i j e f, i < 128 → j < 128 → X i = some e → X j = some f → lay i = lay j → i = j) ∧ ∀ k e, k < 128 → X k = some e → A (lay k)
def gU {α : Type} (f : Nat → α) (k : Nat) (v : α) : Nat → α := fun i => if i = k then v else f i
theorem gU_eq {α : Type} {f : Nat → α} {k : Nat} {v : α} : gU f k v k = v := if_pos rfl
theorem gU_ne {α : Type} {f : Nat → α} {k i : Nat} {v : α} (h : i ≠ k) : gU f k v i = f i := if_neg h
theorem gW_pos {lay : Nat → Nat} {X : Nat → Option va_E} {k : Nat} {e : va_E} (hk : k < 128) (h : X k = some e) : ∃ q : Nat, (gW lay X)[q]? = some (lay k, e) := by
  have hm : (lay k, e) ∈ gW lay X := List.mem_filterMap.mpr ⟨k, List.mem_range.mpr hk, by rw [h]; rfl⟩
  exact List.getElem?_of_mem hm
theorem gW_inv {lay : Nat → Nat} {X : Nat → Option va_E} {q : Nat} {x : Nat × va_E} (h : (gW lay X)[q]? = some x) : ∃ k e, k < 128 ∧ X k = some e ∧ x = (lay k, e) := by
  obtain ⟨k, hk, h2⟩ := List.mem_filterMap.mp (List.mem_of_getElem? h)
  cases hX : X k with
  | none => rw [hX] at h2; cases h2
  | some e =>
    rw [hX] at h2
    exact ⟨k, e, List.mem_range.mp hk, hX, (Option.some.inj h2).symm⟩
theorem gP_list {D : va_G} {lay : Nat → Nat} {X : Nat → Option va_E} {H : Heap} (h : gP D lay X H) : va_P D vwCl (gW lay X) H := by
  intro q x hx
  obtain ⟨k, e, hk, hX, rfl⟩ := gW_inv hx
  exact h k e hk hX
theorem gI_list {A : Nat → Prop} {lay : Nat → Nat} {X : Nat → Option va_E} (h : gI A lay X) : va_D A (gW lay X) := by
  refine ⟨?_, fun q x hx => ?_⟩
  · have hp : (gW lay X).Pairwise (fun a b => a.1 ≠ b.1) := by
      unfold gW
      refine List.Pairwise.filterMap _ ?_ (List.Pairwise.and_mem.mp (List.pairwise_lt_range (n := 128)))
      intro a a' haa b hb b' hb' e
      obtain ⟨ha, ha', hlt⟩ := haa
      cases h1 : X a with
      | none => rw [h1] at hb; cases hb
      | some e1 =>
        cases h2 : X a' with
        | none => rw [h2] at hb'; cases hb'
        | some e2 =>
          rw [h1] at hb
          rw [h2] at hb'
          cases hb
          cases hb'
          exact absurd (h.1 a a' e1 e2 (List.mem_range.mp ha) (List.mem_range.mp ha') h1 h2 e) (Nat.ne_of_lt hlt)
    have hpw := List.pairwise_iff_getElem.mp hp
    intro i j x y hi hj hxy
    obtain ⟨hi1, hi2⟩ := List.getElem?_eq_some_iff.mp hi
    obtain ⟨hj1, hj2⟩ := List.getElem?_eq_some_iff.mp hj
    rcases Nat.lt_trichotomy i j with q | q | q
    · exact absurd (by rw [hi2, hj2]; exact hxy) (hpw i j hi1 hj1 q)
    · exact q
    · exact absurd (by rw [hi2, hj2]; exact hxy.symm) (hpw j i hj1 hi1 q)
  · obtain ⟨k, e, hk, hX, rfl⟩ := gW_inv hx
    exact h.2 k e hk hX
/-- one cell written: the rest stays -/
theorem gP_set {D : va_G} {lay : Nat → Nat} {X : Nat → Option va_E} {A : Nat → Prop} {H1 : Heap} {k q0 : Nat} {e0 e : va_E} (hI : gI A lay X) (hk : k < 128) (hX : X k = some e0) (hq : (gW lay X)[q0]? = some (lay k, e0)) (h : va_P D vwCl ((gW lay X).set q0 (lay k, e)) H1) : gP D lay (gU X k (some e)) H1 := by
  have hl := (List.getElem?_eq_some_iff.mp hq).1
  intro i f hi hf
  by_cases hik : i = k
  · subst hik
    rw [gU_eq] at hf
    cases hf
    exact h q0 _ (by rw [List.getElem?_set_self hl])
  · rw [gU_ne hik] at hf
    obtain ⟨q, hq2⟩ := gW_pos (lay := lay) hi hf
    have hne : q0 ≠ q := fun z => by
      subst z
      rw [hq] at hq2
      exact hik (hI.1 i k f e0 hi hk hf hX (congrArg Prod.fst (Option.some.inj hq2)).symm)
    exact h q _ (by rw [List.getElem?_set_ne hne]; exact hq2)
theorem gI_set {A : Nat → Prop} {lay : Nat → Nat} {X : Nat → Option va_E} {k : Nat} {e0 e : va_E} (hI : gI A lay X) (hX : X k = some e0) : gI A lay (gU X k (some e)) := by
  have key : ∀ i f, gU X k (some e) i = some f → ∃ g, X i = some g := fun i f hf => by
    by_cases hik : i = k
    · subst hik; exact ⟨e0, hX⟩
    · rw [gU_ne hik] at hf; exact ⟨f, hf⟩
  refine ⟨fun i j a b hi hj ha hb hab => ?_, fun i a hi ha => ?_⟩
  · obtain ⟨a', ha'⟩ := key i a ha
    obtain ⟨b', hb'⟩ := key j b hb
    exact hI.1 i j a' b' hi hj ha' hb' hab
  · obtain ⟨a', ha'⟩ := key i a ha
    exact hI.2 i a' hi ha'
/-- one cell made -/
theorem gP_new {D : va_G} {lay : Nat → Nat} {X : Nat → Option va_E} {H1 : Heap} {k q : Nat} {e : va_E} (hX : X k = none) (h : va_P D vwCl (gW lay X ++ [(q, e)]) H1) : gP D (gU lay k q) (gU X k (some e)) H1 := by
  intro i f hi hf
  by_cases hik : i = k
  · subst hik
    rw [gU_eq] at hf
    cases hf
    rw [gU_eq]
    exact h (gW lay X).length _ (by rw [List.getElem?_append_right (Nat.le_refl _), Nat.sub_self]; rfl)
  · rw [gU_ne hik] at hf
    rw [gU_ne hik]
    obtain ⟨q2, hq2⟩ := gW_pos (lay := lay) hi hf
    exact h q2 _ (by rw [List.getElem?_append_left (List.getElem?_eq_some_iff.mp hq2).1]; exact hq2)
theorem gI_new {A : Nat → Prop} {lay : Nat → Nat} {X : Nat → Option va_E} {k q : Nat} {e : va_E} (hI : gI A lay X) (hX : X k = none) (h : va_D A (gW lay X ++ [(q, e)])) : gI A (gU lay k q) (gU X k (some e)) := by
  have hnew : (gW lay X ++ [(q, e)])[(gW lay X).length]? = some (q, e) := by rw [List.getElem?_append_right (Nat.le_refl _), Nat.sub_self]; rfl
  have hq : ∀ i f, i < 128 → X i = some f → lay i ≠ q := fun i f hi hf z => by
    obtain ⟨q2, hq2⟩ := gW_pos (lay := lay) hi hf
    have hl := (List.getElem?_eq_some_iff.mp hq2).1
    have := h.1 q2 (gW lay X).length (lay i, f) (q, e) (by rw [List.getElem?_append_left hl]; exact hq2) hnew z
    omega
  refine ⟨fun i j a b hi hj ha hb hab => ?_, fun i a hi ha => ?_⟩
  · by_cases hik : i = k <;> by_cases hjk : j = k
    · rw [hik, hjk]
    · subst hik
      rw [gU_ne hjk] at hb hab
      rw [gU_eq] at hab
      exact absurd hab.symm (hq j b hj hb)
    · subst hjk
      rw [gU_ne hik] at ha hab
      rw [gU_eq] at hab
      exact absurd hab (hq i a hi ha)
    · rw [gU_ne hik] at ha hab
      rw [gU_ne hjk] at hb hab
      exact hI.1 i j a b hi hj ha hb hab
  · by_cases hik : i = k
    · subst hik
      rw [gU_eq]
      exact h.2 _ _ hnew
    · rw [gU_ne hik] at ha ⊢
      exact hI.2 i a hi ha
/-- the world at heap H, within a method that began at H0 -/
def gG (D : va_G) (lay : Nat → Nat) (X : Nat → Option va_E) (A : Nat → Prop) (H0 H : Heap) (locs : List Loc) : Prop := gP D lay X H ∧ gI A lay X ∧ va_S A H0 H locs
theorem gG_eq {D : va_G} {lay : Nat → Nat} {X Y : Nat → Option va_E} {A : Nat → Prop} {H0 H : Heap} {locs : List Loc} (h : ∀ k, k < 128 → X k = Y k) (G : gG D lay X A H0 H locs) : gG D lay Y A H0 H locs :=
  ⟨fun k e hk hY => G.1 k e hk (by rw [h k hk]; exact hY), ⟨fun i j a b hi hj ha hb hab => G.2.1.1 i j a b hi hj (by rw [h i hi]; exact ha) (by rw [h j hj]; exact hb) hab, fun k e hk hY => G.2.1.2 k e hk (by rw [h k hk]; exact hY)⟩, G.2.2⟩
section GROWS
variable {p : Program} {l : Launch} {e : Env} {R : Room} {s : State} {m : MethodId} {args : Array Value} {below : List Frame} {meth : Method} {c : Code} {H : Heap} {locs : List Loc} {cells slots : Nat} {Q : State → Prop}
variable {cc : ByteArray} {pc nL : Nat} {ls : Array Slot} {rest : List Value} {D : va_G} {lay : Nat → Nat} {X : Nat → Option va_E} {A : Nat → Prop} {H0 : Heap} {Ts : List Cond} {own : String} {tys : List (ClassId × FieldType)}
theorem g_get {C : String} {T : u_T} {N ci index : Nat} {ty : Nat → FieldType} (hC : CallFix p m c cc nL s args Ts own) (hK : va_K D vwCl tys s) (G : gG D lay X A H0 H locs) {k : Nat} (hk : k < 128) {fs : List Value} (he : X k = some (.inr (ci, fs))) (hcl : agCl C T N ci ty) (hin : ∀ w ∈ u_ws C T N, w ∈ Ts) (j : Nat) (hj : j < N) (hl : Cond.fieldLink own index (T j).1 (T j).2.1 (T j).2.2.1 ∈ Ts) {v : Value} (hv : fs[j]? = some v) (hdg : decode cc pc = .ok (.getfield index, 3))
    (kk : W p l e R s m args below meth c H locs cells slots Q (F0 m (pc + 3) ls (v :: rest))) : W p l e R s m args below meth c H locs cells slots Q (F0 m pc ls (.ref (lay k) :: rest)) := by
  obtain ⟨q0, hq⟩ := gW_pos (lay := lay) hk he
  exact va_get hC.1 hC.2.1 hC.2.2.2.2 hin hC.2.2.2.1 hK (gP_list G.1) q0 hq hcl.1 j hj (hC.2.2.2.2 _ hl) (fun _ h => h) hv hdg kk
/-- the same by a nest mate's private field -/
theorem g_getN {C host : String} {T : u_T} {N ci index : Nat} {ty : Nat → FieldType} (hC : CallFix p m c cc nL s args Ts own) (hK : va_K D vwCl tys s) (G : gG D lay X A H0 H locs) {k : Nat} (hk : k < 128) {fs : List Value} (he : X k = some (.inr (ci, fs))) (hcl : agCl C T N ci ty) (hin : ∀ w ∈ u_ws C T N, w ∈ Ts) (j : Nat) (hj : j < N) (hl : (Cond.fieldLinkNest own index (T j).1 (T j).2.1 (T j).2.2.1 host).before args s = true) {v : Value} (hv : fs[j]? = some v) (hdg : decode cc pc = .ok (.getfield index, 3))
    (kk : W p l e R s m args below meth c H locs cells slots Q (F0 m (pc + 3) ls (v :: rest))) : W p l e R s m args below meth c H locs cells slots Q (F0 m pc ls (.ref (lay k) :: rest)) := by
  obtain ⟨q0, hq⟩ := gW_pos (lay := lay) hk he
  exact va_getN hC.1 hC.2.1 hC.2.2.2.2 hin hC.2.2.2.1 hK (gP_list G.1) q0 hq hcl.1 j hj hl (fun _ h => h) hv hdg kk
theorem g_put {C : String} {T : u_T} {N ci index : Nat} {ty : Nat → FieldType} (hC : CallFix p m c cc nL s args Ts own) (hK : va_K D vwCl tys s) (G : gG D lay X A H0 H locs) {k : Nat} (hk : k < 128) {fs : List Value} (he : X k = some (.inr (ci, fs))) (hcl : agCl C T N ci ty) (hin : ∀ w ∈ u_ws C T N, w ∈ Ts) (j : Nat) (hj : j < N) (hl : Cond.fieldLink own index (T j).1 (T j).2.1 (T j).2.2.1 ∈ Ts) (hfin : (T j).2.2.2 = false) {v : Value} (hn : narrow (ty j) v = v) (hfit : fits (ty j) v = true) (hjl : j < fs.length) (hdg : decode cc pc = .ok (.putfield index, 3))
    (kk : ∀ (H1 : Heap) (locs1 : List Loc), gG D lay (gU X k (some (.inr (ci, fs.set j v)))) A H0 H1 locs1 → W p l e R s m args below meth c H1 locs1 cells slots Q (F0 m (pc + 3) ls rest)) : W p l e R s m args below meth c H locs cells slots Q (F0 m pc ls (v :: .ref (lay k) :: rest)) := by
  obtain ⟨q0, hq⟩ := gW_pos (lay := lay) hk he
  exact va_put hC.1 hC.2.1 hC.2.2.2.2 hin ty hcl.2.1 hcl.2.2 hC.2.2.2.1 hK (gP_list G.1) (gI_list G.2.1) G.2.2 q0 hq hcl.1 j hj (hC.2.2.2.2 _ hl) (fun _ h => h) hfin (hcl.2.1 j hj) hn hfit hjl hdg (fun H1 locs1 hP hD hS => kk H1 locs1 ⟨gP_set G.2.1 hk he hq hP, gI_set G.2.1 he, hS⟩)
theorem g_putN {C host : String} {T : u_T} {N ci index : Nat} {ty : Nat → FieldType} (hC : CallFix p m c cc nL s args Ts own) (hK : va_K D vwCl tys s) (G : gG D lay X A H0 H locs) {k : Nat} (hk : k < 128) {fs : List Value} (he : X k = some (.inr (ci, fs))) (hcl : agCl C T N ci ty) (hin : ∀ w ∈ u_ws C T N, w ∈ Ts) (j : Nat) (hj : j < N) (hl : (Cond.fieldLinkNest own index (T j).1 (T j).2.1 (T j).2.2.1 host).before args s = true) (hfin : (T j).2.2.2 = false) {v : Value} (hn : narrow (ty j) v = v) (hfit : fits (ty j) v = true) (hjl : j < fs.length) (hdg : decode cc pc = .ok (.putfield index, 3))
    (kk : ∀ (H1 : Heap) (locs1 : List Loc), gG D lay (gU X k (some (.inr (ci, fs.set j v)))) A H0 H1 locs1 → W p l e R s m args below meth c H1 locs1 cells slots Q (F0 m (pc + 3) ls rest)) : W p l e R s m args below meth c H locs cells slots Q (F0 m pc ls (v :: .ref (lay k) :: rest)) := by
  obtain ⟨q0, hq⟩ := gW_pos (lay := lay) hk he
  exact va_putN hC.1 hC.2.1 hC.2.2.2.2 hin ty hcl.2.1 hcl.2.2 hC.2.2.2.1 hK (gP_list G.1) (gI_list G.2.1) G.2.2 q0 hq hcl.1 j hj hl (fun _ h => h) hfin (hcl.2.1 j hj) hn hfit hjl hdg (fun H1 locs1 hP hD hS => kk H1 locs1 ⟨gP_set G.2.1 hk he hq hP, gI_set G.2.1 he, hS⟩)
theorem g_putF {C : String} {T : u_T} {N ci index : Nat} {ty : Nat → FieldType} (hC : CallFix p m c cc nL s args Ts own) (hK : va_K D vwCl tys s) (G : gG D lay X A H0 H locs) {k : Nat} (hk : k < 128) {fs : List Value} (he : X k = some (.inr (ci, fs))) (hcl : agCl C T N ci ty) (hin : ∀ w ∈ u_ws C T N, w ∈ Ts) (j : Nat) (hj : j < N) (hl : Cond.fieldLink own index (T j).1 (T j).2.1 (T j).2.2.1 ∈ Ts) (hfin : (T j).2.2.2 = true) (hin2 : meth.name = "<init>") (hdecl : (T j).1 = own) {v : Value} (hn : narrow (ty j) v = v) (hfit : fits (ty j) v = true) (hjl : j < fs.length) (hdg : decode cc pc = .ok (.putfield index, 3))
    (kk : ∀ (H1 : Heap) (locs1 : List Loc), gG D lay (gU X k (some (.inr (ci, fs.set j v)))) A H0 H1 locs1 → W p l e R s m args below meth c H1 locs1 cells slots Q (F0 m (pc + 3) ls rest)) : W p l e R s m args below meth c H locs cells slots Q (F0 m pc ls (v :: .ref (lay k) :: rest)) := by
  obtain ⟨q0, hq⟩ := gW_pos (lay := lay) hk he
  exact va_putF hC.1 hC.2.1 hC.2.2.2.2 hin ty hcl.2.1 hcl.2.2 hC.2.2.2.1 hK (gP_list G.1) (gI_list G.2.1) G.2.2 q0 hq hcl.1 j hj (hC.2.2.2.2 _ hl) (fun _ h => h) hfin hin2 hdecl (hcl.2.1 j hj) hn hfit hjl hdg (fun H1 locs1 hP hD hS => kk H1 locs1 ⟨gP_set G.2.1 hk he hq hP, gI_set G.2.1 he, hS⟩)
theorem g_iald (hC : CallFix p m c cc nL s args Ts own) (hK : va_K D vwCl tys s) (G : gG D lay X A H0 H locs) (t0 : Nat) {k : Nat} (hk : k < 128) {cA : ClassId} {n : Nat} {f : Nat → Int32} (he : X k = some (.inl (cA, n, .inl f))) (ht : tys[t0]? = some (cA, .int)) {i : Int32} (hin : vp_in i n) (hdg : decode cc pc = .ok (.iaload, 1))
    (kk : W p l e R s m args below meth c H locs cells slots Q (F0 m (pc + 1) ls (.int (f i.toNatClampNeg) :: rest))) : W p l e R s m args below meth c H locs cells slots Q (F0 m pc ls (.int i :: .ref (lay k) :: rest)) := by
  obtain ⟨q0, hq⟩ := gW_pos (lay := lay) hk he
  exact va_iald hC.1 hC.2.1 hK (gP_list G.1) q0 t0 hq ht hin hdg kk
theorem g_zald (hC : CallFix p m c cc nL s args Ts own) (hK : va_K D vwCl tys s) (G : gG D lay X A H0 H locs) (t0 : Nat) {k : Nat} (hk : k < 128) {cA : ClassId} {n : Nat} {f : Nat → Int32} (he : X k = some (.inl (cA, n, .inl f))) (ht : tys[t0]? = some (cA, .boolean)) {i : Int32} (hin : vp_in i n) (hdg : decode cc pc = .ok (.baload, 1))
    (kk : W p l e R s m args below meth c H locs cells slots Q (F0 m (pc + 1) ls (.int (f i.toNatClampNeg) :: rest))) : W p l e R s m args below meth c H locs cells slots Q (F0 m pc ls (.int i :: .ref (lay k) :: rest)) := by
  obtain ⟨q0, hq⟩ := gW_pos (lay := lay) hk he
  exact va_zald hC.1 hC.2.1 hK (gP_list G.1) q0 t0 hq ht hin hdg kk
theorem g_iast (hC : CallFix p m c cc nL s args Ts own) (hK : va_K D vwCl tys s) (G : gG D lay X A H0 H locs) (t0 : Nat) {k : Nat} (hk : k < 128) {cA : ClassId} {n : Nat} {f : Nat → Int32} (he : X k = some (.inl (cA, n, .inl f))) (ht : tys[t0]? = some (cA, .int)) {i x : Int32} (hin : vp_in i n) (hdg : decode cc pc = .ok (.iastore, 1))
    (kk : ∀ (H1 : Heap) (locs1 : List Loc), gG D lay (gU X k (some (.inl (cA, n, .inl (upd f i.toNatClampNeg x))))) A H0 H1 locs1 → W p l e R s m args below meth c H1 locs1 cells slots Q (F0 m (pc + 1) ls rest)) : W p l e R s m args below meth c H locs cells slots Q (F0 m pc ls (.int x :: .int i :: .ref (lay k) :: rest)) := by
  obtain ⟨q0, hq⟩ := gW_pos (lay := lay) hk he
  exact va_iast hC.1 hC.2.1 hK (gP_list G.1) (gI_list G.2.1) G.2.2 q0 t0 hq ht hin hdg (fun H1 locs1 hP hD hS => kk H1 locs1 ⟨gP_set G.2.1 hk he hq hP, gI_set G.2.1 he, hS⟩)
theorem g_zast (hC : CallFix p m c cc nL s args Ts own) (hK : va_K D vwCl tys s) (G : gG D lay X A H0 H locs) (t0 : Nat) {k : Nat} (hk : k < 128) {cA : ClassId} {n : Nat} {f : Nat → Int32} (he : X k = some (.inl (cA, n, .inl f))) (ht : tys[t0]? = some (cA, .boolean)) {i x : Int32} (hin : vp_in i n) (hdg : decode cc pc = .ok (.bastore, 1))
    (kk : ∀ (H1 : Heap) (locs1 : List Loc), gG D lay (gU X k (some (.inl (cA, n, .inl (upd f i.toNatClampNeg (vp_nar .boolean x)))))) A H0 H1 locs1 → W p l e R s m args below meth c H1 locs1 cells slots Q (F0 m (pc + 1) ls rest)) : W p l e R s m args below meth c H locs cells slots Q (F0 m pc ls (.int x :: .int i :: .ref (lay k) :: rest)) := by
  obtain ⟨q0, hq⟩ := gW_pos (lay := lay) hk he
  exact va_zast hC.1 hC.2.1 hK (gP_list G.1) (gI_list G.2.1) G.2.2 q0 t0 hq ht hin hdg (fun H1 locs1 hP hD hS => kk H1 locs1 ⟨gP_set G.2.1 hk he hq hP, gI_set G.2.1 he, hS⟩)
theorem g_new {C : String} {T : u_T} {N ci index : Nat} {ty : Nat → FieldType} (hC : CallFix p m c cc nL s args Ts own) (hK : va_K D vwCl tys s) (G : gG D lay X A H0 H locs) (hA : ∀ q, H0.size ≤ q → A q) {k : Nat} (hX : X k = none) (hcl : agCl C T N ci ty) (hin : ∀ w ∈ u_ws C T N, w ∈ Ts) (hlk : Cond.classLink own index C ∈ Ts) (hins : Cond.instantiable C N ∈ Ts) (hini : Cond.initialized C ∈ Ts) {fs : List Value} (hfs : ∀ j, j < N → defaultValue (ty j) = vp_V fs j) (hcells : cells + 1 ≤ R.cells) (hslots : slots + N ≤ R.slots) (hdg : decode cc pc = .ok (.new index, 3))
    (kk : ∀ (q : Nat) (H1 : Heap), gG D (gU lay k q) (gU X k (some (.inr (ci, fs)))) A H0 H1 locs → W p l e R s m args below meth c H1 locs (cells + 1) (slots + N) Q (F0 m (pc + 3) ls (.ref (gU lay k q k) :: rest))) : W p l e R s m args below meth c H locs cells slots Q (F0 m pc ls rest) :=
  va_new hC.1 hC.2.1 hC.2.2.2.2 hin ty hcl.2.1 hC.2.2.2.1 (hC.2.2.2.2 _ hlk) (hC.2.2.2.2 _ hins) (hC.2.2.2.2 _ hini) hK (gP_list G.1) (gI_list G.2.1) G.2.2 hA hcl.1 hfs hcells hslots hdg (fun q H1 hP hD hS => by
    have h := kk q H1 ⟨gP_new hX hP, gI_new G.2.1 hX hD, hS⟩
    rw [gU_eq] at h
    exact h)
end GROWS
end
section
theorem va_AOA.moved {ty : FieldType} {u U : State} (hvm : u.vm.Alike U.vm) (h : va_AOA ty u) : va_AOA ty U := by
  unfold va_AOA Cond.before Cond.holds at h ⊢
  simp only [Cond.value] at h ⊢
  rw [hvm.findClass, hvm.findClass]
  have hb : U.vm.bare = u.vm.bare := by first | exact hvm.bare_eq | exact hvm.bare_eq.symm
  have hi : ∀ P : Class → Bool, (∀ vm : Vm, vm.bare.classes.findIdx? P = vm.classes.findIdx? P) → U.vm.classes.findIdx? P = u.vm.classes.findIdx? P := fun P hP => (hP U.vm).symm.trans ((congrArg (fun v : Vm => v.classes.findIdx? P) hb).trans (hP u.vm))
  cases hc : u.vm.findClass (FieldType.array ty).toString with
  | none => rw [hc] at h; simp at h
  | some comp =>
    rw [hc] at h
    simp only [Option.bind_some] at h ⊢
    rw [hi _ (fun vm => by simp only [Vm.bare, Array.findIdx?_map]; rfl)]
    generalize (Array.findIdx? _ u.vm.classes) = ix at h ⊢
    cases ix with
    | none => simp at h
    | some c =>
      simp only [Option.bind_some] at h ⊢
      cases hk : u.vm.classes[c]? with
      | none => rw [hk] at h; simp at h
      | some k =>
        obtain ⟨k', hk', he⟩ := hvm.2.2 _ _ hk
        rw [hk] at h
        rw [hk']
        simp only [Option.map_some] at h ⊢
        rw [he]
        exact h
def newL : List String := ["FirstdanceAgency$Player", "FirstdanceAgency$Song", "FirstdanceAgency$Band", "FirstdanceAgency$Wedding", "java/lang/Object"]
/-- what the tables say, for bodies that make objects and rows -/
def gT (D : va_G) (cy : Nat → ClassId) (U : State) : Prop := va_K D vwCl (fdT cy) U ∧ (∀ w ∈ nestL, va_Nw w U) ∧ (∀ C ∈ newL, va_AO C U) ∧ va_AOA .int U
theorem gT_next {D : va_G} {cy : Nat → ClassId} {s U : State} (hT : gT D cy s) (hW : s.WarmedH U.vm) : gT D cy U :=
  ⟨va_K.moved hW.alike hT.1, fun w hw => nest_warm hW w (nestL_ok w hw) (hT.2.1 w hw), fun C hC => (hT.2.2.1 C hC).moved hW.alike, hT.2.2.2.moved hW.alike⟩
theorem gT_same {D : va_G} {cy : Nat → ClassId} {s U : State} (hT : gT D cy s) (hv : s.vm = U.vm) (ha : s.vm.Alike U.vm) : gT D cy U :=
  ⟨va_K.moved ha hT.1, fun w hw => nest_same hv w (nestL_ok w hw) (hT.2.1 w hw), fun C hC => (hT.2.2.1 C hC).moved ha, hT.2.2.2.moved ha⟩
def gA (lay : Nat → Nat) (X : Nat → Option va_E) (n : Nat) : Nat → Prop := fun q => (∃ k e, k < 128 ∧ X k = some e ∧ q = lay k) ∨ n ≤ q
def gIn (D : va_G) (cy : Nat → ClassId) (lay : Nat → Nat) (X : Nat → Option va_E) (sz : Nat) (U : State) : Prop := U.heap.size = sz ∧ gT D cy U ∧ gP D lay X U.heap ∧ gI (fun _ => True) lay X
abbrev GY : Type := (Nat → Nat) × (Nat → Option va_E)
def gO (D : va_G) (A : Nat → Prop) (Y : GY) (t : State) : Prop := gP D Y.1 Y.2 t.heap ∧ gI A Y.1 Y.2
theorem gI_self {A : Nat → Prop} {lay : Nat → Nat} {X : Nat → Option va_E} {n : Nat} (h : gI A lay X) : gI (gA lay X n) lay X := ⟨h.1, fun k e hk hX => Or.inl ⟨k, e, hk, hX, rfl⟩⟩
theorem gI_weak {A B : Nat → Prop} {lay : Nat → Nat} {X : Nat → Option va_E} (h : gI A lay X) (hAB : ∀ q, A q → B q) : gI B lay X := ⟨h.1, fun k e hk hX => hAB _ (h.2 k e hk hX)⟩
theorem gA_in {A : Nat → Prop} {lay : Nat → Nat} {X : Nat → Option va_E} {H0 H : Heap} {locs : List Loc} {D : va_G} (G : gG D lay X A H0 H locs) (hA : ∀ q, H0.size ≤ q → A q) : ∀ q, gA lay X H.size q → A q := by
  intro q h
  rcases h with ⟨k, e, hk, hX, rfl⟩ | h
  · exact G.2.1.2 k e hk hX
  · exact hA q (Nat.le_trans G.2.2.1 h)
theorem gIn_blind {D : va_G} {cy : Nat → ClassId} {lay : Nat → Nat} {X : Nat → Option va_E} {sz : Nat} {As : List Value} : FrameBlind (va_Pc As (gIn D cy lay X sz)) := by
  intro a U g mk h
  obtain ⟨h0, h1, h2, h3, h4⟩ := h
  exact ⟨h0, h1, gT_same (U := U.calling g mk a) h2 rfl (Vm.Alike.refl U.vm), h3, h4⟩
/-- one cell twice -/
theorem gU_gU {α : Type} {f : Nat → α} {k : Nat} {v w : α} : gU (gU f k v) k w = gU f k w := by
  funext i
  by_cases h : i = k
  · subst h; rw [gU_eq, gU_eq]
  · rw [gU_ne h, gU_ne h, gU_ne h]
theorem gU_self {α : Type} {f : Nat → α} {k : Nat} {v : α} (h : f k = v) : gU f k v = f := by
  funext i
  by_cases hi : i = k
  · subst hi; rw [gU_eq, h]
  · rw [gU_ne hi]
theorem gG_up2 {D : va_G} {lay : Nat → Nat} {X : Nat → Option va_E} {A : Nat → Prop} {H0 H : Heap} {locs : List Loc} {k : Nat} {a b : Option va_E} (G : gG D lay (gU (gU X k a) k b) A H0 H locs) : gG D lay (gU X k b) A H0 H locs := by
  rw [gU_gU] at G
  exact G
section GNEW
variable {p : Program} {l : Launch} {e : Env} {R : Room} {s : State} {m : MethodId} {args : Array Value} {below : List Frame} {meth : Method} {c : Code} {H : Heap} {locs : List Loc} {cells slots : Nat} {Q : State → Prop}
variable {cc bytes : ByteArray} {pc nL maxL mc ms n index : Nat} {ls : Array Slot} {ST rest As : List Value} {D : va_G} {cy : Nat → ClassId} {lay : Nat → Nat} {X : Nat → Option va_E} {A : Nat → Prop} {H0 : Heap} {Ts ws : List Cond} {own host : String} {y : MethodName} {ret : Option FieldType} {rm : Room} {b : Addr}
variable {Qc : Array Value → State → Outcome → State → Prop} {free : Addr → Prop}
theorem g_newa_i (hC : CallFix p m c cc nL s args Ts own) (hT : gT D cy s) (G : gG D lay X A H0 H locs) (hA : ∀ q, H0.size ≤ q → A q) {k : Nat} (hX : X k = none) (harr : Cond.arrayClass .int ∈ Ts) {v : Int32} {N : Nat} (hn : ¬ v < 0) (hN : v.toNatClampNeg = N) (hb : N * componentBytes .int ≤ 536870912) (hcells : cells + 1 ≤ R.cells) (hslots : slots + N ≤ R.slots) (hdg : decode cc pc = .ok (.newarray .int, 2))
    (kk : ∀ (q : Nat) (H1 : Heap), gG D (gU lay k q) (gU X k (some (.inl (cy 0, N, .inl (fun _ => 0))))) A H0 H1 locs → W p l e R s m args below meth c H1 locs (cells + 1) (slots + N) Q (F0 m (pc + 2) ls (.ref (gU lay k q k) :: rest))) : W p l e R s m args below meth c H locs cells slots Q (F0 m pc ls (.int v :: rest)) :=
  va_newa (atype := .int) (ty := .int) hC.1 hC.2.1 (hC.2.2.2.2 _ harr) rfl hT.1 (gP_list G.1) (gI_list G.2.1) G.2.2 hA (a0 := (N, .inl (fun _ => 0))) (fun _ => rfl) hn hN hb hcells hslots hdg (fun q cA H1 hK' hP hD hS => by
    have h1 := (hK'.2 (fdT cy).length (cA, .int) (by rw [List.getElem?_append_right (Nat.le_refl _), Nat.sub_self]; rfl)).2
    have h2 := (hT.1.2 0 (cy 0, .int) rfl).2
    have hc : cA = cy 0 := Option.some.inj (Eq.trans (Eq.symm h1) h2)
    subst hc
    have h := kk q H1 ⟨gP_new hX hP, gI_new G.2.1 hX hD, hS⟩
    rw [gU_eq] at h
    exact h)
theorem g_newa_z (hC : CallFix p m c cc nL s args Ts own) (hT : gT D cy s) (G : gG D lay X A H0 H locs) (hA : ∀ q, H0.size ≤ q → A q) {k : Nat} (hX : X k = none) (harr : Cond.arrayClass .boolean ∈ Ts) {v : Int32} {N : Nat} (hn : ¬ v < 0) (hN : v.toNatClampNeg = N) (hb : N * componentBytes .boolean ≤ 536870912) (hcells : cells + 1 ≤ R.cells) (hslots : slots + N ≤ R.slots) (hdg : decode cc pc = .ok (.newarray .boolean, 2))
    (kk : ∀ (q : Nat) (H1 : Heap), gG D (gU lay k q) (gU X k (some (.inl (cy 1, N, .inl (fun _ => 0))))) A H0 H1 locs → W p l e R s m args below meth c H1 locs (cells + 1) (slots + N) Q (F0 m (pc + 2) ls (.ref (gU lay k q k) :: rest))) : W p l e R s m args below meth c H locs cells slots Q (F0 m pc ls (.int v :: rest)) :=
  va_newa (atype := .boolean) (ty := .boolean) hC.1 hC.2.1 (hC.2.2.2.2 _ harr) rfl hT.1 (gP_list G.1) (gI_list G.2.1) G.2.2 hA (a0 := (N, .inl (fun _ => 0))) (fun _ => rfl) hn hN hb hcells hslots hdg (fun q cA H1 hK' hP hD hS => by
    have h1 := (hK'.2 (fdT cy).length (cA, .boolean) (by rw [List.getElem?_append_right (Nat.le_refl _), Nat.sub_self]; rfl)).2
    have h2 := (hT.1.2 1 (cy 1, .boolean) rfl).2
    have hc : cA = cy 1 := Option.some.inj (Eq.trans (Eq.symm h1) h2)
    subst hc
    have h := kk q H1 ⟨gP_new hX hP, gI_new G.2.1 hX hD, hS⟩
    rw [gU_eq] at h
    exact h)
theorem g_newq (hC : CallFix p m c cc nL s args Ts own) (hT : gT D cy s) (G : gG D lay X A H0 H locs) (hA : ∀ q, H0.size ≤ q → A q) {k : Nat} (hX : X k = none) {C : String} {t : Nat} (ht : (fdT cy)[t]? = some (cy t, .object C)) (hCl : C ∈ newL) (hlk : Cond.classLink own index C ∈ Ts) {v : Int32} {N : Nat} (hn : ¬ v < 0) (hN : v.toNatClampNeg = N) (hb : N * 4 ≤ 536870912) (hcells : cells + 1 ≤ R.cells) (hslots : slots + N ≤ R.slots) (hdg : decode cc pc = .ok (.anewarray index, 3))
    (kk : ∀ (q : Nat) (H1 : Heap), gG D (gU lay k q) (gU X k (some (.inl (cy t, N, .inr (.inr (.inr (.inr (fun _ => none)))))))) A H0 H1 locs → W p l e R s m args below meth c H1 locs (cells + 1) (slots + N) Q (F0 m (pc + 3) ls (.ref (gU lay k q k) :: rest))) : W p l e R s m args below meth c H locs cells slots Q (F0 m pc ls (.int v :: rest)) :=
  va_newq hC.1 hC.2.1 hC.2.2.2.1 (hC.2.2.2.2 _ hlk) (hT.2.2.1 C hCl) hT.1 (gP_list G.1) (gI_list G.2.1) G.2.2 hA hn hN hb hcells hslots hdg (fun q cA H1 hK' hP hD hS => by
    obtain ⟨-, -, -, -, -, h1⟩ := (hK'.2 (fdT cy).length (cA, .object C) (by rw [List.getElem?_append_right (Nat.le_refl _), Nat.sub_self]; rfl)).2
    obtain ⟨-, -, -, -, -, h2⟩ := (hT.1.2 t (cy t, .object C) ht).2
    have hc : cA = cy t := Option.some.inj (h1.symm.trans h2)
    subst hc
    have h := kk q H1 ⟨gP_new hX hP, gI_new G.2.1 hX hD, hS⟩
    rw [gU_eq] at h
    exact h)
/-- a constructor, called -/
theorem g_runI (hC : CallFix p m c cc nL s args Ts own) (hT : gT D cy s) (G : gG D lay X A H0 H locs) (hM : Met l y ws rm (va_Pc (.ref b :: As) (gIn D cy lay X H.size)) Qc mc ms free) (cw : CallB R s args own index y bytes maxL none ws rm mc ms n ∧ y.name = "<init>" ∧ (Cond.instanceMethod y).before args s = true)
    (hn : As.length = n) (hls : ls.size = nL) (hst : ST = As.reverse ++ .ref b :: rest) (hW : (rest.map fun v => v.category).sum ≤ 8) (hdg : decode cc pc = .ok (.invokespecial index, 3)) (hf : cells + mc ≤ R.cells ∧ slots + ms ≤ R.slots) :
    va_Run p l e R s m args below meth c H locs cells slots mc ms (F0 m pc ls ST) rest (Qc (.ref b :: As).toArray) free :=
  va_runI hC hM cw ⟨gIn_blind, fun U hU hW => ⟨rfl, by rw [hU], gT_next hT hW, by rw [hU]; exact G.1, gI_weak G.2.1 (fun _ _ => trivial)⟩⟩ rfl hn hls hst (lv_room hW) hdg hf
theorem g_runIN (hC : CallFix p m c cc nL s args Ts own) (hT : gT D cy s) (G : gG D lay X A H0 H locs) (hM : Met l y ws rm (va_Pc (.ref b :: As) (gIn D cy lay X H.size)) Qc mc ms free) (cw : va_CN R s args own index y host bytes maxL none ws rm mc ms n ∧ y.name = "<init>" ∧ (Cond.instanceMethod y).before args s = true)
    (hn : As.length = n) (hls : ls.size = nL) (hst : ST = As.reverse ++ .ref b :: rest) (hW : (rest.map fun v => v.category).sum ≤ 8) (hdg : decode cc pc = .ok (.invokespecial index, 3)) (hf : cells + mc ≤ R.cells ∧ slots + ms ≤ R.slots) :
    va_Run p l e R s m args below meth c H locs cells slots mc ms (F0 m pc ls ST) rest (Qc (.ref b :: As).toArray) free :=
  va_runIN hC hM cw ⟨gIn_blind, fun U hU hW => ⟨rfl, by rw [hU], gT_next hT hW, by rw [hU]; exact G.1, gI_weak G.2.1 (fun _ _ => trivial)⟩⟩ rfl hn hls hst (lv_room hW) hdg hf
theorem g_v {post : GY → Prop} {a : Array Value} (G : gG D lay X A H0 H locs) (hA : ∀ q, H0.size ≤ q → A q) (hr : va_Run p l e R s m args below meth c H locs cells slots mc ms (F0 m pc ls ST) rest (va_Qv post (gO D (gA lay X H.size)) (gA lay X H.size) a) (gA lay X H.size))
    (kk : ∀ (Y : GY) (H1 : Heap) (locs1 : List Loc), post Y → gG D Y.1 Y.2 A H0 H1 locs1 → W p l e R s m args below meth c H1 locs1 (cells + mc) (slots + ms) Q (F0 m (pc + 3) ls rest)) : W p l e R s m args below meth c H locs cells slots Q (F0 m pc ls ST) :=
  va_callv hr G.2.2 (fun q _ h => gA_in G hA q h) (gA_in G hA) (fun u t H1 locs1 ht hvm hw hB hz hk hS => kk u H1 locs1 hw ⟨by rw [← ht]; exact hB.1, gI_weak hB.2 (gA_in G hA), hS⟩)
theorem g_ofW {ws' : List Cond} {maxL : Nat} {sz : Nat} {Qc : Nat → Array Value → State → Outcome → State → Prop} (hy : plainName y.cls = true) (hw : ws = Cond.code y cc maxL ret :: ws') (hnl : (lg_sl As).length ≤ maxL) (hoo : y.cls = own)
    (body : ∀ (p : Program) (e : Env) (s : State) (m : MethodId) (args : Array Value) (below : List Frame) (meth : Method) (c : Code) (ls : Array Slot), CallFix p m c cc maxL s args ws own → meth.sig.returnType = ret → meth.locks = false → meth.name = y.name → gT D cy s → gG D lay X (gA lay X s.heap.size) s.heap s.heap [] → lv_has ls maxL (lv_args 0 As) →
      W p l e rm s m args below meth c s.heap [] 0 0 (MQ below (Qc s.heap.size) args s mc ms (gA lay X s.heap.size)) (F0 m 0 ls [])) : Met l y ws rm (va_Pc As (gIn D cy lay X sz)) (Qc sz) mc ms (gA lay X sz) := by
  refine Met.ofW (cc := cc) (maxL := maxL) (ret := ret) hy hw ?_
  intro p e s m args below meth c s₁ B hml hv
  obtain ⟨rfl, hsz, hT, hP, hI⟩ := hv
  subst hsz
  have hl := lv_entry As (n := maxL) hnl
  rw [lg_entry_eq]
  have hown : s.vm.findClass y.cls = some m.cls := findClass_of_methodNamed B.named
  rw [hoo] at hown
  exact body p e s m As.toArray below meth c _ ⟨B.exec, B.bytes, hml, hown, atoms_spec (ws := ws) B.pre⟩ B.returns B.notSynchronized (name_of_methodNamed B.named B.method).1 hT ⟨hP, gI_self hI, va_S.rf⟩ hl
theorem g_vret {post : GY → Prop} {Y : GY} {X0 : Nat → Option va_E} {lay0 : Nat → Nat} {locs : List Loc} (hC : CallFix p m c cc nL s args Ts own) (hr : meth.sig.returnType = none) (hlocks : meth.locks = false) (G : gG D Y.1 Y.2 (gA lay0 X0 s.heap.size) s.heap H locs) (h : post Y) (hdg : decode cc pc = .ok (.return_, 1)) :
    W p l e R s m args below meth c H locs cells slots (MQ below (va_Qv post (gO D (gA lay0 X0 s.heap.size)) (gA lay0 X0 s.heap.size)) args s cells slots (gA lay0 X0 s.heap.size)) (F0 m pc ls []) :=
  W.vret hC.1 hC.2.1 hr (fun t ht hW => ⟨⟨Y, rfl, h, by rw [ht]; exact G.1, G.2.1⟩, G.2.2.F ht⟩) G.2.2.2.2 hdg hlocks
end GNEW
end
section
section GA
variable {p : Program} {l : Launch} {e : Env} {R : Room} {s : State} {m : MethodId} {args : Array Value} {below : List Frame} {meth : Method} {c : Code} {H : Heap} {locs : List Loc} {cells slots : Nat} {Q : State → Prop}
variable {cc : ByteArray} {pc nL : Nat} {ls : Array Slot} {rest : List Value} {D : va_G} {lay : Nat → Nat} {X : Nat → Option va_E} {A : Nat → Prop} {H0 : Heap} {Ts : List Cond} {own : String} {tys : List (ClassId × FieldType)}
theorem g_putA {C : String} {T : u_T} {N ci index a : Nat} {ty : Nat → FieldType} {k : Nat} (ha : lay k = a) (hC : CallFix p m c cc nL s args Ts own) (hK : va_K D vwCl tys s) (G : gG D lay X A H0 H locs) (hk : k < 128) {fs : List Value} (he : X k = some (.inr (ci, fs))) (hcl : agCl C T N ci ty) (hin : ∀ w ∈ u_ws C T N, w ∈ Ts) (j : Nat) (hj : j < N) (hl : Cond.fieldLink own index (T j).1 (T j).2.1 (T j).2.2.1 ∈ Ts) (hfin : (T j).2.2.2 = false) {v : Value} (hn : narrow (ty j) v = v) (hfit : fits (ty j) v = true) (hjl : j < fs.length) (hdg : decode cc pc = .ok (.putfield index, 3))
    (kk : ∀ (H1 : Heap) (locs1 : List Loc), gG D lay (gU X k (some (.inr (ci, fs.set j v)))) A H0 H1 locs1 → W p l e R s m args below meth c H1 locs1 cells slots Q (F0 m (pc + 3) ls rest)) : W p l e R s m args below meth c H locs cells slots Q (F0 m pc ls (v :: .ref a :: rest)) := by
  subst ha
  exact g_put hC hK G hk he hcl hin j hj hl hfin hn hfit hjl hdg kk
theorem g_putFA {C : String} {T : u_T} {N ci index a : Nat} {ty : Nat → FieldType} {k : Nat} (ha : lay k = a) (hC : CallFix p m c cc nL s args Ts own) (hK : va_K D vwCl tys s) (G : gG D lay X A H0 H locs) (hk : k < 128) {fs : List Value} (he : X k = some (.inr (ci, fs))) (hcl : agCl C T N ci ty) (hin : ∀ w ∈ u_ws C T N, w ∈ Ts) (j : Nat) (hj : j < N) (hl : Cond.fieldLink own index (T j).1 (T j).2.1 (T j).2.2.1 ∈ Ts) (hfin : (T j).2.2.2 = true) (hin2 : meth.name = "<init>") (hdecl : (T j).1 = own) {v : Value} (hn : narrow (ty j) v = v) (hfit : fits (ty j) v = true) (hjl : j < fs.length) (hdg : decode cc pc = .ok (.putfield index, 3))
    (kk : ∀ (H1 : Heap) (locs1 : List Loc), gG D lay (gU X k (some (.inr (ci, fs.set j v)))) A H0 H1 locs1 → W p l e R s m args below meth c H1 locs1 cells slots Q (F0 m (pc + 3) ls rest)) : W p l e R s m args below meth c H locs cells slots Q (F0 m pc ls (v :: .ref a :: rest)) := by
  subst ha
  exact g_putF hC hK G hk he hcl hin j hj hl hfin hin2 hdecl hn hfit hjl hdg kk
end GA
abbrev rm_X3_init : Room := { frames := 1, cells := 0, slots := 0, locals := 16 }
theorem i_X3_init_X3 : ∀ w ∈ wsX30, w ∈ wsX3_init := fun _ h => List.mem_cons_of_mem _ (List.mem_append_right _ h)
set_option maxHeartbeats 4000000 in
set_option maxRecDepth 100000 in
theorem c_X3_init (l : Launch) (D : va_G) (cy : Nat → ClassId) (lay : Nat → Nat) (X : Nat → Option va_E) {k : Nat} (hk : k < 128) (hX : X k = some (.inr (8, [.int 0, .int 0, .int 0, .int 0, .int 0, .int 0, .int 0, .int 0]))) (sz : Nat) : Met l yX3_init wsX3_init rm_X3_init (va_Pc [.ref (lay k)] (gIn D cy lay X sz)) (va_Qv (fun Y : GY => Y = (lay, (gU X k (some (.inr (8, [.int 0, .int 0, .int 0, .int 0, .int 0, .int 0, .int 0, .int 0])))))) (gO D (gA lay X sz)) (gA lay X sz)) 0 0 (gA lay X sz) := by
  refine g_ofW (cc := cX3_init) (maxL := 1) (ret := none) (own := RX3) (Qc := fun sz => va_Qv (fun Y : GY => Y = (lay, (gU X k (some (.inr (8, [.int 0, .int 0, .int 0, .int 0, .int 0, .int 0, .int 0, .int 0])))))) (gO D (gA lay X sz)) (gA lay X sz)) (by decide) rfl (Nat.le_of_ble_eq_true rfl) rfl ?_
  intro p e s m args below meth c ls hC hr hlocks hname hT G hl
  have hl : lv_has ls 1 [(0, .ref (lay k))] := hl
  have agA_gA : ∀ q, s.heap.size ≤ q → gA lay X s.heap.size q := fun _ h => Or.inr h
  refine lv_aload_n hC.1 hC.2.1 dX3_init_0 rfl (lv_at hl 0 rfl) ?_
  refine W.objInit hC.1 hC.2.1 hC.2.2.2.1 (hC.2.2.2.2 _ (wm 1 rfl)) (hC.2.2.2.2 _ (wm 2 rfl)) (hC.2.2.2.2 _ (wm 3 rfl)) rfl (by rw [hC.2.2.1]; exact hl.1) rfl dX3_init_1 (Nat.le_of_ble_eq_true rfl) (Nat.le_of_ble_eq_true rfl) ?_
  refine W.eq (g2 := F0 m 4 ls []) rfl ?_
  refine lv_aload_n hC.1 hC.2.1 dX3_init_4 rfl (lv_at hl 0 rfl) ?_
  refine lv_iconst (v := 0) hC.1 hC.2.1 dX3_init_5 (by decide) ?_
  refine g_putA rfl hC hT.1 G hk hX k_X3 i_X3_init_X3 0 (by decide) (wm 4 rfl) rfl rfl rfl (by simp) dX3_init_6 (fun H locs G => ?_)
  have G : gG D lay (gU X k (some (.inr (8, [.int 0, .int 0, .int 0, .int 0, .int 0, .int 0, .int 0, .int 0])))) _ s.heap H locs := G
  refine lv_aload_n hC.1 hC.2.1 dX3_init_9 rfl (lv_at hl 0 rfl) ?_
  refine lv_iconst (v := 0) hC.1 hC.2.1 dX3_init_10 (by decide) ?_
  refine g_putA rfl hC hT.1 G hk gU_eq k_X3 i_X3_init_X3 1 (by decide) (wm 5 rfl) rfl rfl rfl (by simp) dX3_init_11 (fun H locs G => ?_)
  have G : gG D lay (gU (gU X k (some (.inr (8, [.int 0, .int 0, .int 0, .int 0, .int 0, .int 0, .int 0, .int 0])))) k (some (.inr (8, [.int 0, .int 0, .int 0, .int 0, .int 0, .int 0, .int 0, .int 0])))) _ s.heap H locs := G
  have G : gG D lay (gU X k (some (.inr (8, [.int 0, .int 0, .int 0, .int 0, .int 0, .int 0, .int 0, .int 0])))) _ s.heap H locs := gG_up2 G
  refine lv_aload_n hC.1 hC.2.1 dX3_init_14 rfl (lv_at hl 0 rfl) ?_
  refine lv_iconst (v := 0) hC.1 hC.2.1 dX3_init_15 (by decide) ?_
  refine g_putA rfl hC hT.1 G hk gU_eq k_X3 i_X3_init_X3 2 (by decide) (wm 6 rfl) rfl rfl rfl (by simp) dX3_init_16 (fun H locs G => ?_)
  have G : gG D lay (gU (gU X k (some (.inr (8, [.int 0, .int 0, .int 0, .int 0, .int 0, .int 0, .int 0, .int 0])))) k (some (.inr (8, [.int 0, .int 0, .int 0, .int 0, .int 0, .int 0, .int 0, .int 0])))) _ s.heap H locs := G
  have G : gG D lay (gU X k (some (.inr (8, [.int 0, .int 0, .int 0, .int 0, .int 0, .int 0, .int 0, .int 0])))) _ s.heap H locs := gG_up2 G
  refine lv_aload_n hC.1 hC.2.1 dX3_init_19 rfl (lv_at hl 0 rfl) ?_
  refine lv_iconst (v := 0) hC.1 hC.2.1 dX3_init_20 (by decide) ?_
  refine g_putA rfl hC hT.1 G hk gU_eq k_X3 i_X3_init_X3 3 (by decide) (wm 7 rfl) rfl rfl rfl (by simp) dX3_init_21 (fun H locs G => ?_)
  have G : gG D lay (gU (gU X k (some (.inr (8, [.int 0, .int 0, .int 0, .int 0, .int 0, .int 0, .int 0, .int 0])))) k (some (.inr (8, [.int 0, .int 0, .int 0, .int 0, .int 0, .int 0, .int 0, .int 0])))) _ s.heap H locs := G
  have G : gG D lay (gU X k (some (.inr (8, [.int 0, .int 0, .int 0, .int 0, .int 0, .int 0, .int 0, .int 0])))) _ s.heap H locs := gG_up2 G
  refine lv_aload_n hC.1 hC.2.1 dX3_init_24 rfl (lv_at hl 0 rfl) ?_
  refine lv_iconst (v := 0) hC.1 hC.2.1 dX3_init_25 (by decide) ?_
  refine g_putA rfl hC hT.1 G hk gU_eq k_X3 i_X3_init_X3 4 (by decide) (wm 8 rfl) rfl rfl rfl (by simp) dX3_init_26 (fun H locs G => ?_)
  have G : gG D lay (gU (gU X k (some (.inr (8, [.int 0, .int 0, .int 0, .int 0, .int 0, .int 0, .int 0, .int 0])))) k (some (.inr (8, [.int 0, .int 0, .int 0, .int 0, .int 0, .int 0, .int 0, .int 0])))) _ s.heap H locs := G
  have G : gG D lay (gU X k (some (.inr (8, [.int 0, .int 0, .int 0, .int 0, .int 0, .int 0, .int 0, .int 0])))) _ s.heap H locs := gG_up2 G
  refine lv_aload_n hC.1 hC.2.1 dX3_init_29 rfl (lv_at hl 0 rfl) ?_
  refine lv_iconst (v := 0) hC.1 hC.2.1 dX3_init_30 (by decide) ?_
  refine g_putA rfl hC hT.1 G hk gU_eq k_X3 i_X3_init_X3 5 (by decide) (wm 9 rfl) rfl rfl rfl (by simp) dX3_init_31 (fun H locs G => ?_)
  have G : gG D lay (gU (gU X k (some (.inr (8, [.int 0, .int 0, .int 0, .int 0, .int 0, .int 0, .int 0, .int 0])))) k (some (.inr (8, [.int 0, .int 0, .int 0, .int 0, .int 0, .int 0, .int 0, .int 0])))) _ s.heap H locs := G
  have G : gG D lay (gU X k (some (.inr (8, [.int 0, .int 0, .int 0, .int 0, .int 0, .int 0, .int 0, .int 0])))) _ s.heap H locs := gG_up2 G
  refine lv_aload_n hC.1 hC.2.1 dX3_init_34 rfl (lv_at hl 0 rfl) ?_
  refine lv_iconst (v := 0) hC.1 hC.2.1 dX3_init_35 (by decide) ?_
  refine g_putA rfl hC hT.1 G hk gU_eq k_X3 i_X3_init_X3 6 (by decide) (wm 10 rfl) rfl rfl rfl (by simp) dX3_init_36 (fun H locs G => ?_)
  have G : gG D lay (gU (gU X k (some (.inr (8, [.int 0, .int 0, .int 0, .int 0, .int 0, .int 0, .int 0, .int 0])))) k (some (.inr (8, [.int 0, .int 0, .int 0, .int 0, .int 0, .int 0, .int 0, .int 0])))) _ s.heap H locs := G
  have G : gG D lay (gU X k (some (.inr (8, [.int 0, .int 0, .int 0, .int 0, .int 0, .int 0, .int 0, .int 0])))) _ s.heap H locs := gG_up2 G
  refine lv_aload_n hC.1 hC.2.1 dX3_init_39 rfl (lv_at hl 0 rfl) ?_
  refine lv_iconst (v := 0) hC.1 hC.2.1 dX3_init_40 (by decide) ?_
  refine g_putA rfl hC hT.1 G hk gU_eq k_X3 i_X3_init_X3 7 (by decide) (wm 11 rfl) rfl rfl rfl (by simp) dX3_init_41 (fun H locs G => ?_)
  have G : gG D lay (gU (gU X k (some (.inr (8, [.int 0, .int 0, .int 0, .int 0, .int 0, .int 0, .int 0, .int 0])))) k (some (.inr (8, [.int 0, .int 0, .int 0, .int 0, .int 0, .int 0, .int 0, .int 0])))) _ s.heap H locs := G
  have G : gG D lay (gU X k (some (.inr (8, [.int 0, .int 0, .int 0, .int 0, .int 0, .int 0, .int 0, .int 0])))) _ s.heap H locs := gG_up2 G
  exact g_vret (Y := (lay, (gU X k (some (.inr (8, [.int 0, .int 0, .int 0, .int 0, .int 0, .int 0, .int 0, .int 0])))))) hC hr hlocks G rfl dX3_init_44
abbrev rm_X5_init : Room := { frames := 1, cells := 0, slots := 0, locals := 16 }
theorem i_X5_init_X5 : ∀ w ∈ wsX50, w ∈ wsX5_init := fun _ h => List.mem_cons_of_mem _ (List.mem_append_right _ h)
set_option maxHeartbeats 4000000 in
set_option maxRecDepth 100000 in
theorem c_X5_init (l : Launch) (D : va_G) (cy : Nat → ClassId) (lay : Nat → Nat) (X : Nat → Option va_E) {k : Nat} (hk : k < 128) (hX : X k = some (.inr (10, [.int 0, .int 0, .int 0, .int 0]))) (a1 : Int32) (sz : Nat) : Met l yX5_init wsX5_init rm_X5_init (va_Pc [.ref (lay k), .int a1] (gIn D cy lay X sz)) (va_Qv (fun Y : GY => Y = (lay, (gU X k (some (.inr (10, [.int a1, .int 5, .int 3, .int 0])))))) (gO D (gA lay X sz)) (gA lay X sz)) 0 0 (gA lay X sz) := by
  refine g_ofW (cc := cX5_init) (maxL := 2) (ret := none) (own := RX5) (Qc := fun sz => va_Qv (fun Y : GY => Y = (lay, (gU X k (some (.inr (10, [.int a1, .int 5, .int 3, .int 0])))))) (gO D (gA lay X sz)) (gA lay X sz)) (by decide) rfl (Nat.le_of_ble_eq_true rfl) rfl ?_
  intro p e s m args below meth c ls hC hr hlocks hname hT G hl
  have hl : lv_has ls 2 [(0, .ref (lay k)), (1, .int a1)] := hl
  have agA_gA : ∀ q, s.heap.size ≤ q → gA lay X s.heap.size q := fun _ h => Or.inr h
  refine lv_aload_n hC.1 hC.2.1 dX5_init_0 rfl (lv_at hl 0 rfl) ?_
  refine W.objInit hC.1 hC.2.1 hC.2.2.2.1 (hC.2.2.2.2 _ (wm 1 rfl)) (hC.2.2.2.2 _ (wm 2 rfl)) (hC.2.2.2.2 _ (wm 3 rfl)) rfl (by rw [hC.2.2.1]; exact hl.1) rfl dX5_init_1 (Nat.le_of_ble_eq_true rfl) (Nat.le_of_ble_eq_true rfl) ?_
  refine W.eq (g2 := F0 m 4 ls []) rfl ?_
  refine lv_aload_n hC.1 hC.2.1 dX5_init_4 rfl (lv_at hl 0 rfl) ?_
  refine lv_iconst (v := 5) hC.1 hC.2.1 dX5_init_5 (by decide) ?_
  refine g_putA rfl hC hT.1 G hk hX k_X5 i_X5_init_X5 1 (by decide) (wm 4 rfl) rfl rfl rfl (by simp) dX5_init_6 (fun H locs G => ?_)
  have G : gG D lay (gU X k (some (.inr (10, [.int 0, .int 5, .int 0, .int 0])))) _ s.heap H locs := G
  refine lv_aload_n hC.1 hC.2.1 dX5_init_9 rfl (lv_at hl 0 rfl) ?_
  refine lv_iconst (v := 3) hC.1 hC.2.1 dX5_init_10 (by decide) ?_
  refine g_putA rfl hC hT.1 G hk gU_eq k_X5 i_X5_init_X5 2 (by decide) (wm 5 rfl) rfl rfl rfl (by simp) dX5_init_11 (fun H locs G => ?_)
  have G : gG D lay (gU (gU X k (some (.inr (10, [.int 0, .int 5, .int 0, .int 0])))) k (some (.inr (10, [.int 0, .int 5, .int 3, .int 0])))) _ s.heap H locs := G
  have G : gG D lay (gU X k (some (.inr (10, [.int 0, .int 5, .int 3, .int 0])))) _ s.heap H locs := gG_up2 G
  refine lv_aload_n hC.1 hC.2.1 dX5_init_14 rfl (lv_at hl 0 rfl) ?_
  refine lv_iconst (v := 0) hC.1 hC.2.1 dX5_init_15 (by decide) ?_
  refine g_putA rfl hC hT.1 G hk gU_eq k_X5 i_X5_init_X5 3 (by decide) (wm 6 rfl) rfl rfl rfl (by simp) dX5_init_16 (fun H locs G => ?_)
  have G : gG D lay (gU (gU X k (some (.inr (10, [.int 0, .int 5, .int 3, .int 0])))) k (some (.inr (10, [.int 0, .int 5, .int 3, .int 0])))) _ s.heap H locs := G
  have G : gG D lay (gU X k (some (.inr (10, [.int 0, .int 5, .int 3, .int 0])))) _ s.heap H locs := gG_up2 G
  refine lv_aload_n hC.1 hC.2.1 dX5_init_19 rfl (lv_at hl 0 rfl) ?_
  refine lv_iload_n hC.1 hC.2.1 dX5_init_20 rfl (lv_at hl 1 rfl) ?_
  refine g_putA rfl hC hT.1 G hk gU_eq k_X5 i_X5_init_X5 0 (by decide) (wm 7 rfl) rfl rfl rfl (by simp) dX5_init_21 (fun H locs G => ?_)
  have G : gG D lay (gU (gU X k (some (.inr (10, [.int 0, .int 5, .int 3, .int 0])))) k (some (.inr (10, [.int a1, .int 5, .int 3, .int 0])))) _ s.heap H locs := G
  have G : gG D lay (gU X k (some (.inr (10, [.int a1, .int 5, .int 3, .int 0])))) _ s.heap H locs := gG_up2 G
  exact g_vret (Y := (lay, (gU X k (some (.inr (10, [.int a1, .int 5, .int 3, .int 0])))))) hC hr hlocks G rfl dX5_init_24
abbrev rm_X6_init : Room := { frames := 1, cells := 0, slots := 0, locals := 16 }
theorem i_X6_init_X6 : ∀ w ∈ wsX60, w ∈ wsX6_init := fun _ h => List.mem_cons_of_mem _ (List.mem_append_right _ h)
set_option maxHeartbeats 4000000 in
set_option maxRecDepth 100000 in
theorem c_X6_init (l : Launch) (D : va_G) (cy : Nat → ClassId) (lay : Nat → Nat) (X : Nat → Option va_E) {k : Nat} (hk : k < 128) (hX : X k = some (.inr (11, [.int 0, .int 0, .int 0, .int 0, .int 0, .int 0, .int 0, .int 0, .int 0, .int 0, .int 0, .int 0]))) (sz : Nat) : Met l yX6_init wsX6_init rm_X6_init (va_Pc [.ref (lay k)] (gIn D cy lay X sz)) (va_Qv (fun Y : GY => Y = (lay, (gU X k (some (.inr (11, [.int 0, .int 0, .int 0, .int 0, .int 0, .int 0, .int 0, .int 0, .int 0, .int 0, .int 0, .int 0])))))) (gO D (gA lay X sz)) (gA lay X sz)) 0 0 (gA lay X sz) := by
  refine g_ofW (cc := cX6_init) (maxL := 1) (ret := none) (own := RX6) (Qc := fun sz => va_Qv (fun Y : GY => Y = (lay, (gU X k (some (.inr (11, [.int 0, .int 0, .int 0, .int 0, .int 0, .int 0, .int 0, .int 0, .int 0, .int 0, .int 0, .int 0])))))) (gO D (gA lay X sz)) (gA lay X sz)) (by decide) rfl (Nat.le_of_ble_eq_true rfl) rfl ?_
  intro p e s m args below meth c ls hC hr hlocks hname hT G hl
  have hl : lv_has ls 1 [(0, .ref (lay k))] := hl
  have agA_gA : ∀ q, s.heap.size ≤ q → gA lay X s.heap.size q := fun _ h => Or.inr h
  refine lv_aload_n hC.1 hC.2.1 dX6_init_0 rfl (lv_at hl 0 rfl) ?_
  refine W.objInit hC.1 hC.2.1 hC.2.2.2.1 (hC.2.2.2.2 _ (wm 1 rfl)) (hC.2.2.2.2 _ (wm 2 rfl)) (hC.2.2.2.2 _ (wm 3 rfl)) rfl (by rw [hC.2.2.1]; exact hl.1) rfl dX6_init_1 (Nat.le_of_ble_eq_true rfl) (Nat.le_of_ble_eq_true rfl) ?_
  refine W.eq (g2 := F0 m 4 ls []) rfl ?_
  refine lv_aload_n hC.1 hC.2.1 dX6_init_4 rfl (lv_at hl 0 rfl) ?_
  refine lv_iconst (v := 0) hC.1 hC.2.1 dX6_init_5 (by decide) ?_
  refine g_putA rfl hC hT.1 G hk hX k_X6 i_X6_init_X6 0 (by decide) (wm 4 rfl) rfl rfl rfl (by simp) dX6_init_6 (fun H locs G => ?_)
  have G : gG D lay (gU X k (some (.inr (11, [.int 0, .int 0, .int 0, .int 0, .int 0, .int 0, .int 0, .int 0, .int 0, .int 0, .int 0, .int 0])))) _ s.heap H locs := G
  refine lv_aload_n hC.1 hC.2.1 dX6_init_9 rfl (lv_at hl 0 rfl) ?_
  refine lv_iconst (v := 0) hC.1 hC.2.1 dX6_init_10 (by decide) ?_
  refine g_putA rfl hC hT.1 G hk gU_eq k_X6 i_X6_init_X6 1 (by decide) (wm 5 rfl) rfl rfl rfl (by simp) dX6_init_11 (fun H locs G => ?_)
  have G : gG D lay (gU (gU X k (some (.inr (11, [.int 0, .int 0, .int 0, .int 0, .int 0, .int 0, .int 0, .int 0, .int 0, .int 0, .int 0, .int 0])))) k (some (.inr (11, [.int 0, .int 0, .int 0, .int 0, .int 0, .int 0, .int 0, .int 0, .int 0, .int 0, .int 0, .int 0])))) _ s.heap H locs := G
  have G : gG D lay (gU X k (some (.inr (11, [.int 0, .int 0, .int 0, .int 0, .int 0, .int 0, .int 0, .int 0, .int 0, .int 0, .int 0, .int 0])))) _ s.heap H locs := gG_up2 G
  refine lv_aload_n hC.1 hC.2.1 dX6_init_14 rfl (lv_at hl 0 rfl) ?_
  refine lv_iconst (v := 0) hC.1 hC.2.1 dX6_init_15 (by decide) ?_
  refine g_putA rfl hC hT.1 G hk gU_eq k_X6 i_X6_init_X6 2 (by decide) (wm 6 rfl) rfl rfl rfl (by simp) dX6_init_16 (fun H locs G => ?_)
  have G : gG D lay (gU (gU X k (some (.inr (11, [.int 0, .int 0, .int 0, .int 0, .int 0, .int 0, .int 0, .int 0, .int 0, .int 0, .int 0, .int 0])))) k (some (.inr (11, [.int 0, .int 0, .int 0, .int 0, .int 0, .int 0, .int 0, .int 0, .int 0, .int 0, .int 0, .int 0])))) _ s.heap H locs := G
  have G : gG D lay (gU X k (some (.inr (11, [.int 0, .int 0, .int 0, .int 0, .int 0, .int 0, .int 0, .int 0, .int 0, .int 0, .int 0, .int 0])))) _ s.heap H locs := gG_up2 G
  refine lv_aload_n hC.1 hC.2.1 dX6_init_19 rfl (lv_at hl 0 rfl) ?_
  refine lv_iconst (v := 0) hC.1 hC.2.1 dX6_init_20 (by decide) ?_
  refine g_putA rfl hC hT.1 G hk gU_eq k_X6 i_X6_init_X6 3 (by decide) (wm 7 rfl) rfl rfl rfl (by simp) dX6_init_21 (fun H locs G => ?_)
  have G : gG D lay (gU (gU X k (some (.inr (11, [.int 0, .int 0, .int 0, .int 0, .int 0, .int 0, .int 0, .int 0, .int 0, .int 0, .int 0, .int 0])))) k (some (.inr (11, [.int 0, .int 0, .int 0, .int 0, .int 0, .int 0, .int 0, .int 0, .int 0, .int 0, .int 0, .int 0])))) _ s.heap H locs := G
  have G : gG D lay (gU X k (some (.inr (11, [.int 0, .int 0, .int 0, .int 0, .int 0, .int 0, .int 0, .int 0, .int 0, .int 0, .int 0, .int 0])))) _ s.heap H locs := gG_up2 G
  refine lv_aload_n hC.1 hC.2.1 dX6_init_24 rfl (lv_at hl 0 rfl) ?_
  refine lv_iconst (v := 0) hC.1 hC.2.1 dX6_init_25 (by decide) ?_
  refine g_putA rfl hC hT.1 G hk gU_eq k_X6 i_X6_init_X6 4 (by decide) (wm 8 rfl) rfl rfl rfl (by simp) dX6_init_26 (fun H locs G => ?_)
  have G : gG D lay (gU (gU X k (some (.inr (11, [.int 0, .int 0, .int 0, .int 0, .int 0, .int 0, .int 0, .int 0, .int 0, .int 0, .int 0, .int 0])))) k (some (.inr (11, [.int 0, .int 0, .int 0, .int 0, .int 0, .int 0, .int 0, .int 0, .int 0, .int 0, .int 0, .int 0])))) _ s.heap H locs := G
  have G : gG D lay (gU X k (some (.inr (11, [.int 0, .int 0, .int 0, .int 0, .int 0, .int 0, .int 0, .int 0, .int 0, .int 0, .int 0, .int 0])))) _ s.heap H locs := gG_up2 G
  refine lv_aload_n hC.1 hC.2.1 dX6_init_29 rfl (lv_at hl 0 rfl) ?_
  refine lv_iconst (v := 0) hC.1 hC.2.1 dX6_init_30 (by decide) ?_
  refine g_putA rfl hC hT.1 G hk gU_eq k_X6 i_X6_init_X6 5 (by decide) (wm 9 rfl) rfl rfl rfl (by simp) dX6_init_31 (fun H locs G => ?_)
  have G : gG D lay (gU (gU X k (some (.inr (11, [.int 0, .int 0, .int 0, .int 0, .int 0, .int 0, .int 0, .int 0, .int 0, .int 0, .int 0, .int 0])))) k (some (.inr (11, [.int 0, .int 0, .int 0, .int 0, .int 0, .int 0, .int 0, .int 0, .int 0, .int 0, .int 0, .int 0])))) _ s.heap H locs := G
  have G : gG D lay (gU X k (some (.inr (11, [.int 0, .int 0, .int 0, .int 0, .int 0, .int 0, .int 0, .int 0, .int 0, .int 0, .int 0, .int 0])))) _ s.heap H locs := gG_up2 G
  refine lv_aload_n hC.1 hC.2.1 dX6_init_34 rfl (lv_at hl 0 rfl) ?_
  refine lv_iconst (v := 0) hC.1 hC.2.1 dX6_init_35 (by decide) ?_
  refine g_putA rfl hC hT.1 G hk gU_eq k_X6 i_X6_init_X6 6 (by decide) (wm 10 rfl) rfl rfl rfl (by simp) dX6_init_36 (fun H locs G => ?_)
  have G : gG D lay (gU (gU X k (some (.inr (11, [.int 0, .int 0, .int 0, .int 0, .int 0, .int 0, .int 0, .int 0, .int 0, .int 0, .int 0, .int 0])))) k (some (.inr (11, [.int 0, .int 0, .int 0, .int 0, .int 0, .int 0, .int 0, .int 0, .int 0, .int 0, .int 0, .int 0])))) _ s.heap H locs := G
  have G : gG D lay (gU X k (some (.inr (11, [.int 0, .int 0, .int 0, .int 0, .int 0, .int 0, .int 0, .int 0, .int 0, .int 0, .int 0, .int 0])))) _ s.heap H locs := gG_up2 G
  refine lv_aload_n hC.1 hC.2.1 dX6_init_39 rfl (lv_at hl 0 rfl) ?_
  refine lv_iconst (v := 0) hC.1 hC.2.1 dX6_init_40 (by decide) ?_
  refine g_putA rfl hC hT.1 G hk gU_eq k_X6 i_X6_init_X6 7 (by decide) (wm 11 rfl) rfl rfl rfl (by simp) dX6_init_41 (fun H locs G => ?_)
  have G : gG D lay (gU (gU X k (some (.inr (11, [.int 0, .int 0, .int 0, .int 0, .int 0, .int 0, .int 0, .int 0, .int 0, .int 0, .int 0, .int 0])))) k (some (.inr (11, [.int 0, .int 0, .int 0, .int 0, .int 0, .int 0, .int 0, .int 0, .int 0, .int 0, .int 0, .int 0])))) _ s.heap H locs := G
  have G : gG D lay (gU X k (some (.inr (11, [.int 0, .int 0, .int 0, .int 0, .int 0, .int 0, .int 0, .int 0, .int 0, .int 0, .int 0, .int 0])))) _ s.heap H locs := gG_up2 G
  refine lv_aload_n hC.1 hC.2.1 dX6_init_44 rfl (lv_at hl 0 rfl) ?_
  refine lv_iconst (v := 0) hC.1 hC.2.1 dX6_init_45 (by decide) ?_
  refine g_putA rfl hC hT.1 G hk gU_eq k_X6 i_X6_init_X6 8 (by decide) (wm 12 rfl) rfl rfl rfl (by simp) dX6_init_46 (fun H locs G => ?_)
  have G : gG D lay (gU (gU X k (some (.inr (11, [.int 0, .int 0, .int 0, .int 0, .int 0, .int 0, .int 0, .int 0, .int 0, .int 0, .int 0, .int 0])))) k (some (.inr (11, [.int 0, .int 0, .int 0, .int 0, .int 0, .int 0, .int 0, .int 0, .int 0, .int 0, .int 0, .int 0])))) _ s.heap H locs := G
  have G : gG D lay (gU X k (some (.inr (11, [.int 0, .int 0, .int 0, .int 0, .int 0, .int 0, .int 0, .int 0, .int 0, .int 0, .int 0, .int 0])))) _ s.heap H locs := gG_up2 G
  refine lv_aload_n hC.1 hC.2.1 dX6_init_49 rfl (lv_at hl 0 rfl) ?_
  refine lv_iconst (v := 0) hC.1 hC.2.1 dX6_init_50 (by decide) ?_
  refine g_putA rfl hC hT.1 G hk gU_eq k_X6 i_X6_init_X6 9 (by decide) (wm 13 rfl) rfl rfl rfl (by simp) dX6_init_51 (fun H locs G => ?_)
  have G : gG D lay (gU (gU X k (some (.inr (11, [.int 0, .int 0, .int 0, .int 0, .int 0, .int 0, .int 0, .int 0, .int 0, .int 0, .int 0, .int 0])))) k (some (.inr (11, [.int 0, .int 0, .int 0, .int 0, .int 0, .int 0, .int 0, .int 0, .int 0, .int 0, .int 0, .int 0])))) _ s.heap H locs := G
  have G : gG D lay (gU X k (some (.inr (11, [.int 0, .int 0, .int 0, .int 0, .int 0, .int 0, .int 0, .int 0, .int 0, .int 0, .int 0, .int 0])))) _ s.heap H locs := gG_up2 G
  refine lv_aload_n hC.1 hC.2.1 dX6_init_54 rfl (lv_at hl 0 rfl) ?_
  refine lv_iconst (v := 0) hC.1 hC.2.1 dX6_init_55 (by decide) ?_
  refine g_putA rfl hC hT.1 G hk gU_eq k_X6 i_X6_init_X6 10 (by decide) (wm 14 rfl) rfl rfl rfl (by simp) dX6_init_56 (fun H locs G => ?_)
  have G : gG D lay (gU (gU X k (some (.inr (11, [.int 0, .int 0, .int 0, .int 0, .int 0, .int 0, .int 0, .int 0, .int 0, .int 0, .int 0, .int 0])))) k (some (.inr (11, [.int 0, .int 0, .int 0, .int 0, .int 0, .int 0, .int 0, .int 0, .int 0, .int 0, .int 0, .int 0])))) _ s.heap H locs := G
  have G : gG D lay (gU X k (some (.inr (11, [.int 0, .int 0, .int 0, .int 0, .int 0, .int 0, .int 0, .int 0, .int 0, .int 0, .int 0, .int 0])))) _ s.heap H locs := gG_up2 G
  refine lv_aload_n hC.1 hC.2.1 dX6_init_59 rfl (lv_at hl 0 rfl) ?_
  refine lv_iconst (v := 0) hC.1 hC.2.1 dX6_init_60 (by decide) ?_
  refine g_putA rfl hC hT.1 G hk gU_eq k_X6 i_X6_init_X6 11 (by decide) (wm 15 rfl) rfl rfl rfl (by simp) dX6_init_61 (fun H locs G => ?_)
  have G : gG D lay (gU (gU X k (some (.inr (11, [.int 0, .int 0, .int 0, .int 0, .int 0, .int 0, .int 0, .int 0, .int 0, .int 0, .int 0, .int 0])))) k (some (.inr (11, [.int 0, .int 0, .int 0, .int 0, .int 0, .int 0, .int 0, .int 0, .int 0, .int 0, .int 0, .int 0])))) _ s.heap H locs := G
  have G : gG D lay (gU X k (some (.inr (11, [.int 0, .int 0, .int 0, .int 0, .int 0, .int 0, .int 0, .int 0, .int 0, .int 0, .int 0, .int 0])))) _ s.heap H locs := gG_up2 G
  exact g_vret (Y := (lay, (gU X k (some (.inr (11, [.int 0, .int 0, .int 0, .int 0, .int 0, .int 0, .int 0, .int 0, .int 0, .int 0, .int 0, .int 0])))))) hC hr hlocks G rfl dX6_init_64
abbrev rm_X2_init : Room := { frames := 1, cells := 0, slots := 0, locals := 16 }
theorem i_X2_init_X2 : ∀ w ∈ wsX20, w ∈ wsX2_init := fun _ h => List.mem_cons_of_mem _ (List.mem_append_right _ h)
set_option maxHeartbeats 4000000 in
set_option maxRecDepth 100000 in
theorem c_X2_init (l : Launch) (D : va_G) (cy : Nat → ClassId) (lay : Nat → Nat) (X : Nat → Option va_E) {k : Nat} (hk : k < 128) (hX : X k = some (.inr (7, [.int 0, .int 0, .int 0, .int 0, .int 0, .int 0]))) (sz : Nat) : Met l yX2_init wsX2_init rm_X2_init (va_Pc [.ref (lay k)] (gIn D cy lay X sz)) (va_Qv (fun Y : GY => Y = (lay, (gU X k (some (.inr (7, [.int (-1), .int (-1), .int 0, .int 0, .int 0, .int 0])))))) (gO D (gA lay X sz)) (gA lay X sz)) 0 0 (gA lay X sz) := by
  refine g_ofW (cc := cX2_init) (maxL := 1) (ret := none) (own := RX2) (Qc := fun sz => va_Qv (fun Y : GY => Y = (lay, (gU X k (some (.inr (7, [.int (-1), .int (-1), .int 0, .int 0, .int 0, .int 0])))))) (gO D (gA lay X sz)) (gA lay X sz)) (by decide) rfl (Nat.le_of_ble_eq_true rfl) rfl ?_
  intro p e s m args below meth c ls hC hr hlocks hname hT G hl
  have hl : lv_has ls 1 [(0, .ref (lay k))] := hl
  have agA_gA : ∀ q, s.heap.size ≤ q → gA lay X s.heap.size q := fun _ h => Or.inr h
  refine lv_aload_n hC.1 hC.2.1 dX2_init_0 rfl (lv_at hl 0 rfl) ?_
  refine W.objInit hC.1 hC.2.1 hC.2.2.2.1 (hC.2.2.2.2 _ (wm 1 rfl)) (hC.2.2.2.2 _ (wm 2 rfl)) (hC.2.2.2.2 _ (wm 3 rfl)) rfl (by rw [hC.2.2.1]; exact hl.1) rfl dX2_init_1 (Nat.le_of_ble_eq_true rfl) (Nat.le_of_ble_eq_true rfl) ?_
  refine W.eq (g2 := F0 m 4 ls []) rfl ?_
  refine lv_aload_n hC.1 hC.2.1 dX2_init_4 rfl (lv_at hl 0 rfl) ?_
  refine lv_iconst (v := (-1)) hC.1 hC.2.1 dX2_init_5 (by decide) ?_
  refine g_putA rfl hC hT.1 G hk hX k_X2 i_X2_init_X2 0 (by decide) (wm 4 rfl) rfl rfl rfl (by simp) dX2_init_6 (fun H locs G => ?_)
  have G : gG D lay (gU X k (some (.inr (7, [.int (-1), .int 0, .int 0, .int 0, .int 0, .int 0])))) _ s.heap H locs := G
  refine lv_aload_n hC.1 hC.2.1 dX2_init_9 rfl (lv_at hl 0 rfl) ?_
  refine lv_iconst (v := (-1)) hC.1 hC.2.1 dX2_init_10 (by decide) ?_
  refine g_putA rfl hC hT.1 G hk gU_eq k_X2 i_X2_init_X2 1 (by decide) (wm 5 rfl) rfl rfl rfl (by simp) dX2_init_11 (fun H locs G => ?_)
  have G : gG D lay (gU (gU X k (some (.inr (7, [.int (-1), .int 0, .int 0, .int 0, .int 0, .int 0])))) k (some (.inr (7, [.int (-1), .int (-1), .int 0, .int 0, .int 0, .int 0])))) _ s.heap H locs := G
  have G : gG D lay (gU X k (some (.inr (7, [.int (-1), .int (-1), .int 0, .int 0, .int 0, .int 0])))) _ s.heap H locs := gG_up2 G
  refine lv_aload_n hC.1 hC.2.1 dX2_init_14 rfl (lv_at hl 0 rfl) ?_
  refine lv_iconst (v := 0) hC.1 hC.2.1 dX2_init_15 (by decide) ?_
  refine g_putA rfl hC hT.1 G hk gU_eq k_X2 i_X2_init_X2 2 (by decide) (wm 6 rfl) rfl rfl rfl (by simp) dX2_init_16 (fun H locs G => ?_)
  have G : gG D lay (gU (gU X k (some (.inr (7, [.int (-1), .int (-1), .int 0, .int 0, .int 0, .int 0])))) k (some (.inr (7, [.int (-1), .int (-1), .int 0, .int 0, .int 0, .int 0])))) _ s.heap H locs := G
  have G : gG D lay (gU X k (some (.inr (7, [.int (-1), .int (-1), .int 0, .int 0, .int 0, .int 0])))) _ s.heap H locs := gG_up2 G
  refine lv_aload_n hC.1 hC.2.1 dX2_init_19 rfl (lv_at hl 0 rfl) ?_
  refine lv_iconst (v := 0) hC.1 hC.2.1 dX2_init_20 (by decide) ?_
  refine g_putA rfl hC hT.1 G hk gU_eq k_X2 i_X2_init_X2 3 (by decide) (wm 7 rfl) rfl rfl rfl (by simp) dX2_init_21 (fun H locs G => ?_)
  have G : gG D lay (gU (gU X k (some (.inr (7, [.int (-1), .int (-1), .int 0, .int 0, .int 0, .int 0])))) k (some (.inr (7, [.int (-1), .int (-1), .int 0, .int 0, .int 0, .int 0])))) _ s.heap H locs := G
  have G : gG D lay (gU X k (some (.inr (7, [.int (-1), .int (-1), .int 0, .int 0, .int 0, .int 0])))) _ s.heap H locs := gG_up2 G
  refine lv_aload_n hC.1 hC.2.1 dX2_init_24 rfl (lv_at hl 0 rfl) ?_
  refine lv_iconst (v := 0) hC.1 hC.2.1 dX2_init_25 (by decide) ?_
  refine g_putA rfl hC hT.1 G hk gU_eq k_X2 i_X2_init_X2 4 (by decide) (wm 8 rfl) rfl rfl rfl (by simp) dX2_init_26 (fun H locs G => ?_)
  have G : gG D lay (gU (gU X k (some (.inr (7, [.int (-1), .int (-1), .int 0, .int 0, .int 0, .int 0])))) k (some (.inr (7, [.int (-1), .int (-1), .int 0, .int 0, .int 0, .int 0])))) _ s.heap H locs := G
  have G : gG D lay (gU X k (some (.inr (7, [.int (-1), .int (-1), .int 0, .int 0, .int 0, .int 0])))) _ s.heap H locs := gG_up2 G
  refine lv_aload_n hC.1 hC.2.1 dX2_init_29 rfl (lv_at hl 0 rfl) ?_
  refine lv_iconst (v := 0) hC.1 hC.2.1 dX2_init_30 (by decide) ?_
  refine g_putA rfl hC hT.1 G hk gU_eq k_X2 i_X2_init_X2 5 (by decide) (wm 9 rfl) rfl rfl rfl (by simp) dX2_init_31 (fun H locs G => ?_)
  have G : gG D lay (gU (gU X k (some (.inr (7, [.int (-1), .int (-1), .int 0, .int 0, .int 0, .int 0])))) k (some (.inr (7, [.int (-1), .int (-1), .int 0, .int 0, .int 0, .int 0])))) _ s.heap H locs := G
  have G : gG D lay (gU X k (some (.inr (7, [.int (-1), .int (-1), .int 0, .int 0, .int 0, .int 0])))) _ s.heap H locs := gG_up2 G
  exact g_vret (Y := (lay, (gU X k (some (.inr (7, [.int (-1), .int (-1), .int 0, .int 0, .int 0, .int 0])))))) hC hr hlocks G rfl dX2_init_34
abbrev rm_X0_init : Room := { frames := 1, cells := 2, slots := 11, locals := 16 }
theorem i_X0_init_X0 : ∀ w ∈ wsX00, w ∈ wsX0_init := fun _ h => List.mem_cons_of_mem _ (List.mem_append_right _ h)
set_option maxHeartbeats 4000000 in
set_option maxRecDepth 100000 in
theorem c_X0_init (l : Launch) (D : va_G) (cy : Nat → ClassId) (lay : Nat → Nat) (X : Nat → Option va_E) {k : Nat} (hk : k < 128) (hX : X k = some (.inr (5, [.null, .null, .int 0]))) {k1 : Nat} (hk1 : X k1 = none) {k2 : Nat} (hk2 : X k2 = none) (h_k_k1 : k ≠ k1) (h_k_k2 : k ≠ k2) (h_k1_k : k1 ≠ k) (h_k1_k2 : k1 ≠ k2) (h_k2_k : k2 ≠ k) (h_k2_k1 : k2 ≠ k1) (sz : Nat) : Met l yX0_init wsX0_init rm_X0_init (va_Pc [.ref (lay k)] (gIn D cy lay X sz)) (va_Qv (fun Y : GY => ∃ q1 : Nat, ∃ q2 : Nat, Y = ((gU (gU lay k1 q1) k2 q2), (gU (gU (gU (gU X k1 (some (.inl (cy 0, 6, .inl (fun _ => 0))))) k (some (.inr (5, [.ref q1, .null, .int 0])))) k2 (some (.inl (cy 0, 5, .inl (fun _ => 0))))) k (some (.inr (5, [.ref q1, .ref q2, .int 0])))))) (gO D (gA lay X sz)) (gA lay X sz)) 2 11 (gA lay X sz) := by
  refine g_ofW (cc := cX0_init) (maxL := 1) (ret := none) (own := RX0) (Qc := fun sz => va_Qv (fun Y : GY => ∃ q1 : Nat, ∃ q2 : Nat, Y = ((gU (gU lay k1 q1) k2 q2), (gU (gU (gU (gU X k1 (some (.inl (cy 0, 6, .inl (fun _ => 0))))) k (some (.inr (5, [.ref q1, .null, .int 0])))) k2 (some (.inl (cy 0, 5, .inl (fun _ => 0))))) k (some (.inr (5, [.ref q1, .ref q2, .int 0])))))) (gO D (gA lay X sz)) (gA lay X sz)) (by decide) rfl (Nat.le_of_ble_eq_true rfl) rfl ?_
  intro p e s m args below meth c ls hC hr hlocks hname hT G hl
  have hl : lv_has ls 1 [(0, .ref (lay k))] := hl
  have agA_gA : ∀ q, s.heap.size ≤ q → gA lay X s.heap.size q := fun _ h => Or.inr h
  refine lv_aload_n hC.1 hC.2.1 dX0_init_0 rfl (lv_at hl 0 rfl) ?_
  refine W.objInit hC.1 hC.2.1 hC.2.2.2.1 (hC.2.2.2.2 _ (wm 1 rfl)) (hC.2.2.2.2 _ (wm 2 rfl)) (hC.2.2.2.2 _ (wm 3 rfl)) rfl (by rw [hC.2.2.1]; exact hl.1) rfl dX0_init_1 (Nat.le_of_ble_eq_true rfl) (Nat.le_of_ble_eq_true rfl) ?_
  refine W.eq (g2 := F0 m 4 ls []) rfl ?_
  refine lv_aload_n hC.1 hC.2.1 dX0_init_4 rfl (lv_at hl 0 rfl) ?_
  refine lv_bipush (v := 6) hC.1 hC.2.1 dX0_init_5 (by decide) ?_
  refine g_newa_i (k := k1) (N := 6) hC hT G agA_gA hk1 (wm 4 rfl) (by decide) (by decide) (by decide) (Nat.le_of_ble_eq_true rfl) (Nat.le_of_ble_eq_true rfl) dX0_init_7 (fun q1 H G => ?_)
  rw [gU_eq]
  refine g_putFA ((gU_ne h_k_k1).trans rfl) hC hT.1 G hk ((gU_ne h_k_k1).trans hX) k_X0 i_X0_init_X0 0 (by decide) (wm 5 rfl) rfl hname rfl rfl rfl (by simp) dX0_init_9 (fun H locs G => ?_)
  have G : gG D (gU lay k1 q1) (gU (gU X k1 (some (.inl (cy 0, 6, .inl (fun _ => 0))))) k (some (.inr (5, [.ref q1, .null, .int 0])))) _ s.heap H locs := G
  refine lv_aload_n hC.1 hC.2.1 dX0_init_12 rfl (lv_at hl 0 rfl) ?_
  refine lv_iconst (v := 5) hC.1 hC.2.1 dX0_init_13 (by decide) ?_
  refine g_newa_i (k := k2) (N := 5) hC hT G agA_gA ((gU_ne h_k2_k).trans ((gU_ne h_k2_k1).trans hk2)) (wm 4 rfl) (by decide) (by decide) (by decide) (Nat.le_of_ble_eq_true rfl) (Nat.le_of_ble_eq_true rfl) dX0_init_14 (fun q2 H G => ?_)
  rw [gU_eq]
  refine g_putFA ((gU_ne h_k_k2).trans ((gU_ne h_k_k1).trans rfl)) hC hT.1 G hk ((gU_ne h_k_k2).trans gU_eq) k_X0 i_X0_init_X0 1 (by decide) (wm 6 rfl) rfl hname rfl rfl rfl (by simp) dX0_init_16 (fun H locs G => ?_)
  have G : gG D (gU (gU lay k1 q1) k2 q2) (gU (gU (gU (gU X k1 (some (.inl (cy 0, 6, .inl (fun _ => 0))))) k (some (.inr (5, [.ref q1, .null, .int 0])))) k2 (some (.inl (cy 0, 5, .inl (fun _ => 0))))) k (some (.inr (5, [.ref q1, .ref q2, .int 0])))) _ s.heap H locs := G
  refine lv_aload_n hC.1 hC.2.1 dX0_init_19 rfl (lv_at hl 0 rfl) ?_
  refine lv_iconst (v := 0) hC.1 hC.2.1 dX0_init_20 (by decide) ?_
  refine g_putA ((gU_ne h_k_k2).trans ((gU_ne h_k_k1).trans rfl)) hC hT.1 G hk gU_eq k_X0 i_X0_init_X0 2 (by decide) (wm 7 rfl) rfl rfl rfl (by simp) dX0_init_21 (fun H locs G => ?_)
  have G : gG D (gU (gU lay k1 q1) k2 q2) (gU (gU (gU (gU (gU X k1 (some (.inl (cy 0, 6, .inl (fun _ => 0))))) k (some (.inr (5, [.ref q1, .null, .int 0])))) k2 (some (.inl (cy 0, 5, .inl (fun _ => 0))))) k (some (.inr (5, [.ref q1, .ref q2, .int 0])))) k (some (.inr (5, [.ref q1, .ref q2, .int 0])))) _ s.heap H locs := G
  have G : gG D (gU (gU lay k1 q1) k2 q2) (gU (gU (gU (gU X k1 (some (.inl (cy 0, 6, .inl (fun _ => 0))))) k (some (.inr (5, [.ref q1, .null, .int 0])))) k2 (some (.inl (cy 0, 5, .inl (fun _ => 0))))) k (some (.inr (5, [.ref q1, .ref q2, .int 0])))) _ s.heap H locs := gG_up2 G
  exact g_vret (Y := ((gU (gU lay k1 q1) k2 q2), (gU (gU (gU (gU X k1 (some (.inl (cy 0, 6, .inl (fun _ => 0))))) k (some (.inr (5, [.ref q1, .null, .int 0])))) k2 (some (.inl (cy 0, 5, .inl (fun _ => 0))))) k (some (.inr (5, [.ref q1, .ref q2, .int 0])))))) hC hr hlocks G ⟨q1, q2, rfl⟩ dX0_init_24
abbrev rm_X1_init : Room := { frames := 1, cells := 4, slots := 64, locals := 16 }
theorem i_X1_init_X1 : ∀ w ∈ wsX10, w ∈ wsX1_init := fun _ h => List.mem_cons_of_mem _ (List.mem_append_right _ h)
set_option maxHeartbeats 4000000 in
set_option maxRecDepth 100000 in
theorem c_X1_init (l : Launch) (D : va_G) (cy : Nat → ClassId) (lay : Nat → Nat) (X : Nat → Option va_E) {k : Nat} (hk : k < 128) (hX : X k = some (.inr (6, [.null, .int 0, .int 0, .null, .null, .null, .int 0]))) {k1 : Nat} (hk1 : X k1 = none) {k2 : Nat} (hk2 : X k2 = none) {k3 : Nat} (hk3 : X k3 = none) {k4 : Nat} (hk4 : X k4 = none) (h_k_k1 : k ≠ k1) (h_k_k2 : k ≠ k2) (h_k_k3 : k ≠ k3) (h_k_k4 : k ≠ k4) (h_k1_k : k1 ≠ k) (h_k1_k2 : k1 ≠ k2) (h_k1_k3 : k1 ≠ k3) (h_k1_k4 : k1 ≠ k4) (h_k2_k : k2 ≠ k) (h_k2_k1 : k2 ≠ k1) (h_k2_k3 : k2 ≠ k3) (h_k2_k4 : k2 ≠ k4) (h_k3_k : k3 ≠ k) (h_k3_k1 : k3 ≠ k1) (h_k3_k2 : k3 ≠ k2) (h_k3_k4 : k3 ≠ k4) (h_k4_k : k4 ≠ k) (h_k4_k1 : k4 ≠ k1) (h_k4_k2 : k4 ≠ k2) (h_k4_k3 : k4 ≠ k3) (sz : Nat) : Met l yX1_init wsX1_init rm_X1_init (va_Pc [.ref (lay k)] (gIn D cy lay X sz)) (va_Qv (fun Y : GY => ∃ q1 : Nat, ∃ q2 : Nat, ∃ q3 : Nat, ∃ q4 : Nat, Y = ((gU (gU (gU (gU lay k1 q1) k2 q2) k3 q3) k4 q4), (gU (gU (gU (gU (gU (gU (gU (gU X k1 (some (.inl (cy 0, 16, .inl (fun _ => 0))))) k (some (.inr (6, [.ref q1, .int 0, .int 0, .null, .null, .null, .int 0])))) k2 (some (.inl (cy 0, 16, .inl (fun _ => 0))))) k (some (.inr (6, [.ref q1, .int 0, .int 0, .ref q2, .null, .null, .int 0])))) k3 (some (.inl (cy 0, 16, .inl (fun _ => 0))))) k (some (.inr (6, [.ref q1, .int 0, .int 0, .ref q2, .ref q3, .null, .int 0])))) k4 (some (.inl (cy 0, 16, .inl (fun _ => 0))))) k (some (.inr (6, [.ref q1, .int 0, .int 0, .ref q2, .ref q3, .ref q4, .int 0])))))) (gO D (gA lay X sz)) (gA lay X sz)) 4 64 (gA lay X sz) := by
  refine g_ofW (cc := cX1_init) (maxL := 1) (ret := none) (own := RX1) (Qc := fun sz => va_Qv (fun Y : GY => ∃ q1 : Nat, ∃ q2 : Nat, ∃ q3 : Nat, ∃ q4 : Nat, Y = ((gU (gU (gU (gU lay k1 q1) k2 q2) k3 q3) k4 q4), (gU (gU (gU (gU (gU (gU (gU (gU X k1 (some (.inl (cy 0, 16, .inl (fun _ => 0))))) k (some (.inr (6, [.ref q1, .int 0, .int 0, .null, .null, .null, .int 0])))) k2 (some (.inl (cy 0, 16, .inl (fun _ => 0))))) k (some (.inr (6, [.ref q1, .int 0, .int 0, .ref q2, .null, .null, .int 0])))) k3 (some (.inl (cy 0, 16, .inl (fun _ => 0))))) k (some (.inr (6, [.ref q1, .int 0, .int 0, .ref q2, .ref q3, .null, .int 0])))) k4 (some (.inl (cy 0, 16, .inl (fun _ => 0))))) k (some (.inr (6, [.ref q1, .int 0, .int 0, .ref q2, .ref q3, .ref q4, .int 0])))))) (gO D (gA lay X sz)) (gA lay X sz)) (by decide) rfl (Nat.le_of_ble_eq_true rfl) rfl ?_
  intro p e s m args below meth c ls hC hr hlocks hname hT G hl
  have hl : lv_has ls 1 [(0, .ref (lay k))] := hl
  have agA_gA : ∀ q, s.heap.size ≤ q → gA lay X s.heap.size q := fun _ h => Or.inr h
  refine lv_aload_n hC.1 hC.2.1 dX1_init_0 rfl (lv_at hl 0 rfl) ?_
  refine W.objInit hC.1 hC.2.1 hC.2.2.2.1 (hC.2.2.2.2 _ (wm 1 rfl)) (hC.2.2.2.2 _ (wm 2 rfl)) (hC.2.2.2.2 _ (wm 3 rfl)) rfl (by rw [hC.2.2.1]; exact hl.1) rfl dX1_init_1 (Nat.le_of_ble_eq_true rfl) (Nat.le_of_ble_eq_true rfl) ?_
  refine W.eq (g2 := F0 m 4 ls []) rfl ?_
  refine lv_aload_n hC.1 hC.2.1 dX1_init_4 rfl (lv_at hl 0 rfl) ?_
  refine lv_bipush (v := 16) hC.1 hC.2.1 dX1_init_5 (by decide) ?_
  refine g_newa_i (k := k1) (N := 16) hC hT G agA_gA hk1 (wm 4 rfl) (by decide) (by decide) (by decide) (Nat.le_of_ble_eq_true rfl) (Nat.le_of_ble_eq_true rfl) dX1_init_7 (fun q1 H G => ?_)
  rw [gU_eq]
  refine g_putFA ((gU_ne h_k_k1).trans rfl) hC hT.1 G hk ((gU_ne h_k_k1).trans hX) k_X1 i_X1_init_X1 0 (by decide) (wm 5 rfl) rfl hname rfl rfl rfl (by simp) dX1_init_9 (fun H locs G => ?_)
  have G : gG D (gU lay k1 q1) (gU (gU X k1 (some (.inl (cy 0, 16, .inl (fun _ => 0))))) k (some (.inr (6, [.ref q1, .int 0, .int 0, .null, .null, .null, .int 0])))) _ s.heap H locs := G
  refine lv_aload_n hC.1 hC.2.1 dX1_init_12 rfl (lv_at hl 0 rfl) ?_
  refine lv_iconst (v := 0) hC.1 hC.2.1 dX1_init_13 (by decide) ?_
  refine g_putA ((gU_ne h_k_k1).trans rfl) hC hT.1 G hk gU_eq k_X1 i_X1_init_X1 1 (by decide) (wm 6 rfl) rfl rfl rfl (by simp) dX1_init_14 (fun H locs G => ?_)
  have G : gG D (gU lay k1 q1) (gU (gU (gU X k1 (some (.inl (cy 0, 16, .inl (fun _ => 0))))) k (some (.inr (6, [.ref q1, .int 0, .int 0, .null, .null, .null, .int 0])))) k (some (.inr (6, [.ref q1, .int 0, .int 0, .null, .null, .null, .int 0])))) _ s.heap H locs := G
  have G : gG D (gU lay k1 q1) (gU (gU X k1 (some (.inl (cy 0, 16, .inl (fun _ => 0))))) k (some (.inr (6, [.ref q1, .int 0, .int 0, .null, .null, .null, .int 0])))) _ s.heap H locs := gG_up2 G
  refine lv_aload_n hC.1 hC.2.1 dX1_init_17 rfl (lv_at hl 0 rfl) ?_
  refine lv_iconst (v := 0) hC.1 hC.2.1 dX1_init_18 (by decide) ?_
  refine g_putA ((gU_ne h_k_k1).trans rfl) hC hT.1 G hk gU_eq k_X1 i_X1_init_X1 2 (by decide) (wm 7 rfl) rfl rfl rfl (by simp) dX1_init_19 (fun H locs G => ?_)
  have G : gG D (gU lay k1 q1) (gU (gU (gU X k1 (some (.inl (cy 0, 16, .inl (fun _ => 0))))) k (some (.inr (6, [.ref q1, .int 0, .int 0, .null, .null, .null, .int 0])))) k (some (.inr (6, [.ref q1, .int 0, .int 0, .null, .null, .null, .int 0])))) _ s.heap H locs := G
  have G : gG D (gU lay k1 q1) (gU (gU X k1 (some (.inl (cy 0, 16, .inl (fun _ => 0))))) k (some (.inr (6, [.ref q1, .int 0, .int 0, .null, .null, .null, .int 0])))) _ s.heap H locs := gG_up2 G
  refine lv_aload_n hC.1 hC.2.1 dX1_init_22 rfl (lv_at hl 0 rfl) ?_
  refine lv_bipush (v := 16) hC.1 hC.2.1 dX1_init_23 (by decide) ?_
  refine g_newa_i (k := k2) (N := 16) hC hT G agA_gA ((gU_ne h_k2_k).trans ((gU_ne h_k2_k1).trans hk2)) (wm 4 rfl) (by decide) (by decide) (by decide) (Nat.le_of_ble_eq_true rfl) (Nat.le_of_ble_eq_true rfl) dX1_init_25 (fun q2 H G => ?_)
  rw [gU_eq]
  refine g_putFA ((gU_ne h_k_k2).trans ((gU_ne h_k_k1).trans rfl)) hC hT.1 G hk ((gU_ne h_k_k2).trans gU_eq) k_X1 i_X1_init_X1 3 (by decide) (wm 8 rfl) rfl hname rfl rfl rfl (by simp) dX1_init_27 (fun H locs G => ?_)
  have G : gG D (gU (gU lay k1 q1) k2 q2) (gU (gU (gU (gU X k1 (some (.inl (cy 0, 16, .inl (fun _ => 0))))) k (some (.inr (6, [.ref q1, .int 0, .int 0, .null, .null, .null, .int 0])))) k2 (some (.inl (cy 0, 16, .inl (fun _ => 0))))) k (some (.inr (6, [.ref q1, .int 0, .int 0, .ref q2, .null, .null, .int 0])))) _ s.heap H locs := G
  refine lv_aload_n hC.1 hC.2.1 dX1_init_30 rfl (lv_at hl 0 rfl) ?_
  refine lv_bipush (v := 16) hC.1 hC.2.1 dX1_init_31 (by decide) ?_
  refine g_newa_i (k := k3) (N := 16) hC hT G agA_gA ((gU_ne h_k3_k).trans ((gU_ne h_k3_k2).trans ((gU_ne h_k3_k).trans ((gU_ne h_k3_k1).trans hk3)))) (wm 4 rfl) (by decide) (by decide) (by decide) (Nat.le_of_ble_eq_true rfl) (Nat.le_of_ble_eq_true rfl) dX1_init_33 (fun q3 H G => ?_)
  rw [gU_eq]
  refine g_putFA ((gU_ne h_k_k3).trans ((gU_ne h_k_k2).trans ((gU_ne h_k_k1).trans rfl))) hC hT.1 G hk ((gU_ne h_k_k3).trans gU_eq) k_X1 i_X1_init_X1 4 (by decide) (wm 9 rfl) rfl hname rfl rfl rfl (by simp) dX1_init_35 (fun H locs G => ?_)
  have G : gG D (gU (gU (gU lay k1 q1) k2 q2) k3 q3) (gU (gU (gU (gU (gU (gU X k1 (some (.inl (cy 0, 16, .inl (fun _ => 0))))) k (some (.inr (6, [.ref q1, .int 0, .int 0, .null, .null, .null, .int 0])))) k2 (some (.inl (cy 0, 16, .inl (fun _ => 0))))) k (some (.inr (6, [.ref q1, .int 0, .int 0, .ref q2, .null, .null, .int 0])))) k3 (some (.inl (cy 0, 16, .inl (fun _ => 0))))) k (some (.inr (6, [.ref q1, .int 0, .int 0, .ref q2, .ref q3, .null, .int 0])))) _ s.heap H locs := G
  refine lv_aload_n hC.1 hC.2.1 dX1_init_38 rfl (lv_at hl 0 rfl) ?_
  refine lv_bipush (v := 16) hC.1 hC.2.1 dX1_init_39 (by decide) ?_
  refine g_newa_i (k := k4) (N := 16) hC hT G agA_gA ((gU_ne h_k4_k).trans ((gU_ne h_k4_k3).trans ((gU_ne h_k4_k).trans ((gU_ne h_k4_k2).trans ((gU_ne h_k4_k).trans ((gU_ne h_k4_k1).trans hk4)))))) (wm 4 rfl) (by decide) (by decide) (by decide) (Nat.le_of_ble_eq_true rfl) (Nat.le_of_ble_eq_true rfl) dX1_init_41 (fun q4 H G => ?_)
  rw [gU_eq]
  refine g_putFA ((gU_ne h_k_k4).trans ((gU_ne h_k_k3).trans ((gU_ne h_k_k2).trans ((gU_ne h_k_k1).trans rfl)))) hC hT.1 G hk ((gU_ne h_k_k4).trans gU_eq) k_X1 i_X1_init_X1 5 (by decide) (wm 10 rfl) rfl hname rfl rfl rfl (by simp) dX1_init_43 (fun H locs G => ?_)
  have G : gG D (gU (gU (gU (gU lay k1 q1) k2 q2) k3 q3) k4 q4) (gU (gU (gU (gU (gU (gU (gU (gU X k1 (some (.inl (cy 0, 16, .inl (fun _ => 0))))) k (some (.inr (6, [.ref q1, .int 0, .int 0, .null, .null, .null, .int 0])))) k2 (some (.inl (cy 0, 16, .inl (fun _ => 0))))) k (some (.inr (6, [.ref q1, .int 0, .int 0, .ref q2, .null, .null, .int 0])))) k3 (some (.inl (cy 0, 16, .inl (fun _ => 0))))) k (some (.inr (6, [.ref q1, .int 0, .int 0, .ref q2, .ref q3, .null, .int 0])))) k4 (some (.inl (cy 0, 16, .inl (fun _ => 0))))) k (some (.inr (6, [.ref q1, .int 0, .int 0, .ref q2, .ref q3, .ref q4, .int 0])))) _ s.heap H locs := G
  refine lv_aload_n hC.1 hC.2.1 dX1_init_46 rfl (lv_at hl 0 rfl) ?_
  refine lv_iconst (v := 0) hC.1 hC.2.1 dX1_init_47 (by decide) ?_
  refine g_putA ((gU_ne h_k_k4).trans ((gU_ne h_k_k3).trans ((gU_ne h_k_k2).trans ((gU_ne h_k_k1).trans rfl)))) hC hT.1 G hk gU_eq k_X1 i_X1_init_X1 6 (by decide) (wm 11 rfl) rfl rfl rfl (by simp) dX1_init_48 (fun H locs G => ?_)
  have G : gG D (gU (gU (gU (gU lay k1 q1) k2 q2) k3 q3) k4 q4) (gU (gU (gU (gU (gU (gU (gU (gU (gU X k1 (some (.inl (cy 0, 16, .inl (fun _ => 0))))) k (some (.inr (6, [.ref q1, .int 0, .int 0, .null, .null, .null, .int 0])))) k2 (some (.inl (cy 0, 16, .inl (fun _ => 0))))) k (some (.inr (6, [.ref q1, .int 0, .int 0, .ref q2, .null, .null, .int 0])))) k3 (some (.inl (cy 0, 16, .inl (fun _ => 0))))) k (some (.inr (6, [.ref q1, .int 0, .int 0, .ref q2, .ref q3, .null, .int 0])))) k4 (some (.inl (cy 0, 16, .inl (fun _ => 0))))) k (some (.inr (6, [.ref q1, .int 0, .int 0, .ref q2, .ref q3, .ref q4, .int 0])))) k (some (.inr (6, [.ref q1, .int 0, .int 0, .ref q2, .ref q3, .ref q4, .int 0])))) _ s.heap H locs := G
  have G : gG D (gU (gU (gU (gU lay k1 q1) k2 q2) k3 q3) k4 q4) (gU (gU (gU (gU (gU (gU (gU (gU X k1 (some (.inl (cy 0, 16, .inl (fun _ => 0))))) k (some (.inr (6, [.ref q1, .int 0, .int 0, .null, .null, .null, .int 0])))) k2 (some (.inl (cy 0, 16, .inl (fun _ => 0))))) k (some (.inr (6, [.ref q1, .int 0, .int 0, .ref q2, .null, .null, .int 0])))) k3 (some (.inl (cy 0, 16, .inl (fun _ => 0))))) k (some (.inr (6, [.ref q1, .int 0, .int 0, .ref q2, .ref q3, .null, .int 0])))) k4 (some (.inl (cy 0, 16, .inl (fun _ => 0))))) k (some (.inr (6, [.ref q1, .int 0, .int 0, .ref q2, .ref q3, .ref q4, .int 0])))) _ s.heap H locs := gG_up2 G
  exact g_vret (Y := ((gU (gU (gU (gU lay k1 q1) k2 q2) k3 q3) k4 q4), (gU (gU (gU (gU (gU (gU (gU (gU X k1 (some (.inl (cy 0, 16, .inl (fun _ => 0))))) k (some (.inr (6, [.ref q1, .int 0, .int 0, .null, .null, .null, .int 0])))) k2 (some (.inl (cy 0, 16, .inl (fun _ => 0))))) k (some (.inr (6, [.ref q1, .int 0, .int 0, .ref q2, .null, .null, .int 0])))) k3 (some (.inl (cy 0, 16, .inl (fun _ => 0))))) k (some (.inr (6, [.ref q1, .int 0, .int 0, .ref q2, .ref q3, .null, .int 0])))) k4 (some (.inl (cy 0, 16, .inl (fun _ => 0))))) k (some (.inr (6, [.ref q1, .int 0, .int 0, .ref q2, .ref q3, .ref q4, .int 0])))))) hC hr hlocks G ⟨q1, q2, q3, q4, rfl⟩ dX1_init_51
end
