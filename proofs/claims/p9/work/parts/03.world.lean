/-! THE CLASS'S WORLD: 87 cells, numbered; 'lay' gives each cell's address, 's k j' the number in place j of cell k.
0 the agency; 1 players, 2 allSongs, 3 bands, 4 weddings (rows of references); 5 roads; 6 offOn; 7 stage; 8 seated; 9 found; 10 bestSet;
11 row, 12 order, 13 longest, 14 next; 15 hours, 16 ways (outer rows); 17 to 22 rows of hours; 23 to 28 rows of ways; 29 to 38 players; 39 to 54 songs;
55 to 60 bands; 61 to 66 needs; 67 to 72 places; 73 to 86 weddings. -/
abbrev MS : Type := Nat → Nat → Int32
def up2 (σ : MS) (k j : Nat) (v : Int32) : MS := fun i => if i = k then upd (σ k) j v else σ i
theorem up2_ne {σ : MS} {k j i : Nat} {v : Int32} (h : i ≠ k) : up2 σ k j v i = σ i := if_neg h
theorem up2_eq {σ : MS} {k j : Nat} {v : Int32} : up2 σ k j v k = upd (σ k) j v := if_pos rfl
abbrev fdT (cy : Nat → ClassId) : List (ClassId × FieldType) := [(cy 0, .int), (cy 1, .boolean), (cy 2, .object "FirstdanceAgency$Player"), (cy 3, .object "FirstdanceAgency$Song"), (cy 4, .object "FirstdanceAgency$Band"), (cy 5, .object "FirstdanceAgency$Wedding"), (cy 6, .array .int), (cy 7, .object "java/lang/Object"), (cy 8, .byte)]
abbrev rfA (lay : Nat → Nat) (b : Nat) : (Nat → Int32) ⊕ (Nat → Int64) ⊕ (Nat → UInt32) ⊕ (Nat → UInt64) ⊕ (Nat → Option Nat) := .inr (.inr (.inr (.inr (fun i => some (lay (b + i))))))
abbrev L4 (f : Nat → Int32) : List Value := [.int (f 0), .int (f 1), .int (f 2), .int (f 3)]
abbrev L6 (f : Nat → Int32) : List Value := [.int (f 0), .int (f 1), .int (f 2), .int (f 3), .int (f 4), .int (f 5)]
abbrev L8 (f : Nat → Int32) : List Value := [.int (f 0), .int (f 1), .int (f 2), .int (f 3), .int (f 4), .int (f 5), .int (f 6), .int (f 7)]
abbrev L12 (f : Nat → Int32) : List Value := [.int (f 0), .int (f 1), .int (f 2), .int (f 3), .int (f 4), .int (f 5), .int (f 6), .int (f 7), .int (f 8), .int (f 9), .int (f 10), .int (f 11)]
abbrev Lag (lay : Nat → Nat) (f : Nat → Int32) : List Value := [.ref (lay 1), .ref (lay 2), .ref (lay 3), .ref (lay 4), .ref (lay 5), .ref (lay 6), .int (f 6), .int (f 7), .int (f 8), .int (f 9), .int (f 10), .ref (lay 7), .ref (lay 8), .ref (lay 9), .ref (lay 10)]
abbrev Lbs (lay : Nat → Nat) (f : Nat → Int32) : List Value := [.ref (lay 11), .int (f 1), .int (f 2), .ref (lay 12), .ref (lay 13), .ref (lay 14), .int (f 6)]
/-- what cell k holds, of the row f of numbers -/
def agR (cy : Nat → ClassId) (lay : Nat → Nat) (f : Nat → Int32) (k : Nat) : va_E :=
  if k = 0 then .inr (12, Lag lay f)
  else if k = 1 then .inl (cy 2, 10, rfA lay 29)
  else if k = 2 then .inl (cy 3, 16, rfA lay 39)
  else if k = 3 then .inl (cy 4, 6, rfA lay 55)
  else if k = 4 then .inl (cy 5, 14, rfA lay 73)
  else if k = 5 then .inr (9, [.ref (lay 15), .ref (lay 16)])
  else if k = 6 then .inl (cy 0, 366, .inl f)
  else if k = 7 then .inl (cy 0, 14, .inl f)
  else if k = 8 then .inl (cy 1, 1024, .inl f)
  else if k = 9 then .inr (7, L6 f)
  else if k = 10 then .inr (6, Lbs lay f)
  else if k < 15 then .inl (cy 0, 16, .inl f)
  else if k = 15 then .inl (cy 6, 6, rfA lay 17)
  else if k = 16 then .inl (cy 6, 6, rfA lay 23)
  else if k < 29 then .inl (cy 0, 6, .inl f)
  else if k < 39 then .inr (8, L8 f)
  else if k < 55 then .inr (10, L4 f)
  else if k < 61 then .inr (5, [.ref (lay (61 + (k - 55))), .ref (lay (67 + (k - 55))), .int (f 2)])
  else if k < 67 then .inl (cy 0, 6, .inl f)
  else if k < 73 then .inl (cy 0, 5, .inl f)
  else .inr (11, L12 f)
section AGR
variable {cy : Nat → ClassId} {lay : Nat → Nat} {f : Nat → Int32}
theorem e_ag : agR cy lay f 0 = .inr (12, Lag lay f) := rfl
theorem e_pls : agR cy lay f 1 = .inl (cy 2, 10, rfA lay 29) := rfl
theorem e_sgs : agR cy lay f 2 = .inl (cy 3, 16, rfA lay 39) := rfl
theorem e_bds : agR cy lay f 3 = .inl (cy 4, 6, rfA lay 55) := rfl
theorem e_wds : agR cy lay f 4 = .inl (cy 5, 14, rfA lay 73) := rfl
theorem e_rd : agR cy lay f 5 = .inr (9, [.ref (lay 15), .ref (lay 16)]) := rfl
theorem e_off : agR cy lay f 6 = .inl (cy 0, 366, .inl f) := rfl
theorem e_stg : agR cy lay f 7 = .inl (cy 0, 14, .inl f) := rfl
theorem e_sea : agR cy lay f 8 = .inl (cy 1, 1024, .inl f) := rfl
theorem e_fd : agR cy lay f 9 = .inr (7, L6 f) := rfl
theorem e_bs : agR cy lay f 10 = .inr (6, Lbs lay f) := rfl
theorem e_row : agR cy lay f 11 = .inl (cy 0, 16, .inl f) := rfl
theorem e_ord : agR cy lay f 12 = .inl (cy 0, 16, .inl f) := rfl
theorem e_lng : agR cy lay f 13 = .inl (cy 0, 16, .inl f) := rfl
theorem e_nxt : agR cy lay f 14 = .inl (cy 0, 16, .inl f) := rfl
theorem e_hrs : agR cy lay f 15 = .inl (cy 6, 6, rfA lay 17) := rfl
theorem e_wys : agR cy lay f 16 = .inl (cy 6, 6, rfA lay 23) := rfl
theorem e_hrr {i : Nat} (h : i < 6) : agR cy lay f (17 + i) = .inl (cy 0, 6, .inl f) := by
  unfold agR
  rw [if_neg (by omega), if_neg (by omega), if_neg (by omega), if_neg (by omega), if_neg (by omega), if_neg (by omega), if_neg (by omega), if_neg (by omega), if_neg (by omega), if_neg (by omega), if_neg (by omega), if_neg (by omega), if_neg (by omega), if_neg (by omega), if_pos (by omega)]
theorem e_wyr {i : Nat} (h : i < 6) : agR cy lay f (23 + i) = .inl (cy 0, 6, .inl f) := by
  unfold agR
  rw [if_neg (by omega), if_neg (by omega), if_neg (by omega), if_neg (by omega), if_neg (by omega), if_neg (by omega), if_neg (by omega), if_neg (by omega), if_neg (by omega), if_neg (by omega), if_neg (by omega), if_neg (by omega), if_neg (by omega), if_neg (by omega), if_pos (by omega)]
theorem e_pl {i : Nat} (h : i < 10) : agR cy lay f (29 + i) = .inr (8, L8 f) := by
  unfold agR
  rw [if_neg (by omega), if_neg (by omega), if_neg (by omega), if_neg (by omega), if_neg (by omega), if_neg (by omega), if_neg (by omega), if_neg (by omega), if_neg (by omega), if_neg (by omega), if_neg (by omega), if_neg (by omega), if_neg (by omega), if_neg (by omega), if_neg (by omega), if_pos (by omega)]
theorem e_sg {i : Nat} (h : i < 16) : agR cy lay f (39 + i) = .inr (10, L4 f) := by
  unfold agR
  rw [if_neg (by omega), if_neg (by omega), if_neg (by omega), if_neg (by omega), if_neg (by omega), if_neg (by omega), if_neg (by omega), if_neg (by omega), if_neg (by omega), if_neg (by omega), if_neg (by omega), if_neg (by omega), if_neg (by omega), if_neg (by omega), if_neg (by omega), if_neg (by omega), if_pos (by omega)]
theorem e_bd {i : Nat} (h : i < 6) : agR cy lay f (55 + i) = .inr (5, [.ref (lay (61 + i)), .ref (lay (67 + i)), .int (f 2)]) := by
  unfold agR
  rw [if_neg (by omega), if_neg (by omega), if_neg (by omega), if_neg (by omega), if_neg (by omega), if_neg (by omega), if_neg (by omega), if_neg (by omega), if_neg (by omega), if_neg (by omega), if_neg (by omega), if_neg (by omega), if_neg (by omega), if_neg (by omega), if_neg (by omega), if_neg (by omega), if_neg (by omega), if_pos (by omega), show 55 + i - 55 = i by omega]
theorem e_nds {i : Nat} (h : i < 6) : agR cy lay f (61 + i) = .inl (cy 0, 6, .inl f) := by
  unfold agR
  rw [if_neg (by omega), if_neg (by omega), if_neg (by omega), if_neg (by omega), if_neg (by omega), if_neg (by omega), if_neg (by omega), if_neg (by omega), if_neg (by omega), if_neg (by omega), if_neg (by omega), if_neg (by omega), if_neg (by omega), if_neg (by omega), if_neg (by omega), if_neg (by omega), if_neg (by omega), if_neg (by omega), if_pos (by omega)]
theorem e_plc {i : Nat} (h : i < 6) : agR cy lay f (67 + i) = .inl (cy 0, 5, .inl f) := by
  unfold agR
  rw [if_neg (by omega), if_neg (by omega), if_neg (by omega), if_neg (by omega), if_neg (by omega), if_neg (by omega), if_neg (by omega), if_neg (by omega), if_neg (by omega), if_neg (by omega), if_neg (by omega), if_neg (by omega), if_neg (by omega), if_neg (by omega), if_neg (by omega), if_neg (by omega), if_neg (by omega), if_neg (by omega), if_neg (by omega), if_pos (by omega)]
theorem e_wd {i : Nat} (h : i < 14) : agR cy lay f (73 + i) = .inr (11, L12 f) := by
  unfold agR
  rw [if_neg (by omega), if_neg (by omega), if_neg (by omega), if_neg (by omega), if_neg (by omega), if_neg (by omega), if_neg (by omega), if_neg (by omega), if_neg (by omega), if_neg (by omega), if_neg (by omega), if_neg (by omega), if_neg (by omega), if_neg (by omega), if_neg (by omega), if_neg (by omega), if_neg (by omega), if_neg (by omega), if_neg (by omega), if_neg (by omega)]
theorem k_hrr {i : Nat} (h : i < 6) : 17 + i < 87 := by omega
theorem k_wyr {i : Nat} (h : i < 6) : 23 + i < 87 := by omega
theorem k_pl {i : Nat} (h : i < 10) : 29 + i < 87 := by omega
theorem k_sg {i : Nat} (h : i < 16) : 39 + i < 87 := by omega
theorem k_bd {i : Nat} (h : i < 6) : 55 + i < 87 := by omega
theorem k_nds {i : Nat} (h : i < 6) : 61 + i < 87 := by omega
theorem k_plc {i : Nat} (h : i < 6) : 67 + i < 87 := by omega
theorem k_wd {i : Nat} (h : i < 14) : 73 + i < 87 := by omega
end AGR
theorem vlt {i : Int32} {n : Nat} (h : vp_in i n) : i.toNatClampNeg < n := Nat.not_le.mp fun q => h (Or.inr q)
/-- the world -/
def agW (cy : Nat → ClassId) (lay : Nat → Nat) (σ : MS) : va_W := (List.range 87).map fun k => (lay k, agR cy lay (σ k) k)
theorem ag_at {cy : Nat → ClassId} {lay : Nat → Nat} {σ : MS} {k : Nat} {e : va_E} (hk : k < 87) (he : agR cy lay (σ k) k = e) : (agW cy lay σ)[k]? = some (lay k, e) := by
  unfold agW
  rw [List.getElem?_map, List.getElem?_range hk, ← he]
  rfl
theorem ag_len {cy : Nat → ClassId} {lay : Nat → Nat} {σ : MS} : (agW cy lay σ).length = 87 := by
  unfold agW
  rw [List.length_map, List.length_range]
theorem ag_of {cy : Nat → ClassId} {lay : Nat → Nat} {σ : MS} {k : Nat} {q : Nat × va_E} (h : (agW cy lay σ)[k]? = some q) : k < 87 ∧ q = (lay k, agR cy lay (σ k) k) := by
  have h1 : k < (agW cy lay σ).length := (List.getElem?_eq_some_iff.mp h).1
  rw [ag_len] at h1
  rw [ag_at h1 rfl] at h
  exact ⟨h1, (Option.some.inj h).symm⟩
theorem ag_set {cy : Nat → ClassId} {lay : Nat → Nat} {σ : MS} {k j : Nat} {v : Int32} {e : va_E} (hk : k < 87) (he : agR cy lay (upd (σ k) j v) k = e) : (agW cy lay σ).set k (lay k, e) = agW cy lay (up2 σ k j v) := by
  apply List.ext_getElem?
  intro i
  by_cases hi : i < 87
  · rw [ag_at (σ := up2 σ k j v) hi rfl]
    by_cases e1 : i = k
    · subst e1
      rw [List.getElem?_set_self (by rw [ag_len]; exact hk), up2_eq, he]
    · rw [List.getElem?_set_ne (Ne.symm e1), ag_at hi rfl, up2_ne e1]
  · rw [List.getElem?_eq_none (by rw [List.length_set, ag_len]; omega), List.getElem?_eq_none (by rw [ag_len]; omega)]
/-- the cells that a method of the class may change: the world's, and new ones -/
def agA (lay : Nat → Nat) (n : Nat) : Nat → Prop := fun q => (∃ k, k < 87 ∧ q = lay k) ∨ n ≤ q
theorem agA_new {lay : Nat → Nat} {n : Nat} : ∀ q, n ≤ q → agA lay n q := fun _ h => Or.inr h
theorem agA_le {lay : Nat → Nat} {n k : Nat} (h : n ≤ k) : ∀ q, agA lay k q → agA lay n q := fun _ hq => hq.elim Or.inl (fun h2 => Or.inr (Nat.le_trans h h2))
theorem agD_of {cy : Nat → ClassId} {lay : Nat → Nat} {σ : MS} {A : Nat → Prop} {n : Nat} (h : va_D A (agW cy lay σ)) : va_D (agA lay n) (agW cy lay σ) := ⟨h.1, fun k q hk => by
  obtain ⟨h1, rfl⟩ := ag_of hk
  exact Or.inl ⟨k, h1, rfl⟩⟩
theorem agD_t {cy : Nat → ClassId} {lay : Nat → Nat} {σ : MS} {A : Nat → Prop} (h : va_D A (agW cy lay σ)) : va_D (fun _ => True) (agW cy lay σ) := ⟨h.1, fun _ _ _ => trivial⟩
/-- the nest's words and the texts of the throws: what the tables say beside the good words -/
def nestL : List Cond := [.declares ⟨"java/lang/RuntimeException", "<init>", "(Ljava/lang/String;)V"⟩, .declares ⟨"java/lang/Exception", "<init>", "(Ljava/lang/String;)V"⟩, .declares ⟨"java/lang/Throwable", "<init>", "(Ljava/lang/String;)V"⟩, .castable "java/lang/IndexOutOfBoundsException" "java/lang/IndexOutOfBoundsException", .castable "java/lang/IllegalArgumentException" "java/lang/IllegalArgumentException", .castable "java/lang/IllegalStateException" "java/lang/IllegalStateException", .fieldLinkNest "FirstdanceAgencyLaw" 13 "FirstdanceAgencyLaw$Out" "n" "J" "FirstdanceAgencyLaw", .fieldLinkNest "FirstdanceAgencyLaw" 93 "FirstdanceAgencyLaw$Out" "s" "Ljava/lang/String;" "FirstdanceAgencyLaw", .fieldLinkNest "FirstdanceAgencyModel" 124 "FirstdanceAgencyModel$Wedding" "state" "I" "FirstdanceAgencyModel", .fieldLinkNest "FirstdanceAgencyModel" 127 "FirstdanceAgencyModel$Wedding" "band" "I" "FirstdanceAgencyModel", .fieldLinkNest "FirstdanceAgencyModel" 130 "FirstdanceAgencyModel$Wedding" "day" "I" "FirstdanceAgencyModel", .fieldLinkNest "FirstdanceAgencyModel" 143 "FirstdanceAgencyModel$Wedding" "town" "I" "FirstdanceAgencyModel", .fieldLinkNest "FirstdanceAgencyModel" 146 "FirstdanceAgencyModel$Wedding" "start" "I" "FirstdanceAgencyModel", .fieldLinkNest "FirstdanceAgencyModel" 149 "FirstdanceAgencyModel$Wedding" "length" "I" "FirstdanceAgencyModel", .fieldLinkNest "FirstdanceAgencyModel" 152 "FirstdanceAgencyModel$Wedding" "songs" "I" "FirstdanceAgencyModel", .fieldLinkNest "FirstdanceAgencyModel" 153 "FirstdanceAgencyModel$Wedding" "told" "I" "FirstdanceAgencyModel", .fieldLinkNest "FirstdanceAgencyModel" 156 "FirstdanceAgencyModel$Player" "isOff" "[Z" "FirstdanceAgencyModel", .fieldLinkNest "FirstdanceAgencyModel" 160 "FirstdanceAgencyModel$Wedding" "set" "I" "FirstdanceAgencyModel", .fieldLinkNest "FirstdanceAgencyModel" 207 "FirstdanceAgencyModel$Wedding" "price" "I" "FirstdanceAgencyModel", .fieldLinkNest "FirstdanceAgencyModel" 210 "FirstdanceAgencyModel$Wedding" "paid" "I" "FirstdanceAgencyModel", .fieldLinkNest "FirstdanceAgencyModel" 252 "FirstdanceAgencyModel$Wedding" "late" "I" "FirstdanceAgencyModel", .fieldLinkNest "FirstdanceAgencyModel" 267 "FirstdanceAgencyModel$Player" "earned" "I" "FirstdanceAgencyModel", .fieldLinkNest "FirstdanceAgencyModel" 71 "FirstdanceAgencyModel$Player" "instruments" "I" "FirstdanceAgencyModel", .fieldLinkNest "FirstdanceAgencyModel" 74 "FirstdanceAgencyModel$Player" "songs" "I" "FirstdanceAgencyModel", .fieldLinkNest "FirstdanceAgencyModel" 77 "FirstdanceAgencyModel$Player" "home" "I" "FirstdanceAgencyModel", .fieldLinkNest "FirstdanceAgencyModel" 80 "FirstdanceAgencyModel$Player" "fee" "I" "FirstdanceAgencyModel", .fieldLinkNest "FirstdanceAgencyModel" 99 "FirstdanceAgencyModel$Player" "feuds" "I" "FirstdanceAgencyModel", .fieldLinkNest "java/util/ArrayList$Itr" 28 "java/util/ArrayList" "size" "I" "java/util/ArrayList", .methodLinkNest "FirstdanceAgency" 69 ⟨"FirstdanceAgency$Fillings", "<init>", "()V"⟩ "FirstdanceAgency", .methodLinkNest "FirstdanceAgency" 76 ⟨"FirstdanceAgency$BestSet", "<init>", "()V"⟩ "FirstdanceAgency", .methodLinkNest "FirstdanceAgency" 81 ⟨"FirstdanceAgency$Player", "<init>", "()V"⟩ "FirstdanceAgency", .methodLinkNest "FirstdanceAgency" 85 ⟨"FirstdanceAgency$Band", "<init>", "()V"⟩ "FirstdanceAgency", .methodLinkNest "FirstdanceAgency" 86 ⟨"FirstdanceAgency$Wedding", "<init>", "()V"⟩ "FirstdanceAgency", .methodLinkNest "FirstdanceAgency$BestSet" 53 ⟨"FirstdanceAgency", "has", "(II)Z"⟩ "FirstdanceAgency", .methodLinkNest "FirstdanceAgency$Wedding" 48 ⟨"FirstdanceAgency", "has", "(II)Z"⟩ "FirstdanceAgency", .methodLinkNest "FirstdanceAgencyLaw" 119 ⟨"FirstdanceAgencyLaw$Out", "<init>", "()V"⟩ "FirstdanceAgencyLaw", .methodLinkNest "FirstdanceAgencyModel" 142 ⟨"FirstdanceAgencyModel$Wedding", "<init>", "()V"⟩ "FirstdanceAgencyModel", .methodLinkNest "FirstdanceAgencyModel" 70 ⟨"FirstdanceAgencyModel$Player", "<init>", "()V"⟩ "FirstdanceAgencyModel"]
def strL : List (String × Nat × String) := [("FirstdanceAgency", 93, "no such town"), ("FirstdanceAgency", 103, "no such player can be told"), ("FirstdanceAgency", 108, "there are as many players as there can be"), ("FirstdanceAgency", 126, "not a set of songs"), ("FirstdanceAgency", 137, "no song can be like that"), ("FirstdanceAgency", 148, "nobody has a feud alone"), ("FirstdanceAgency", 160, "no such road can be told"), ("FirstdanceAgency", 173, "not the shape of a band"), ("FirstdanceAgency", 175, "there are as many bands as there can be"), ("FirstdanceAgency", 186, "no such wedding can be asked for"), ("FirstdanceAgency", 191, "there is no place for that wedding"), ("FirstdanceAgency", 220, "it is not the first in its queue"), ("FirstdanceAgency", 228, "it has no filling"), ("FirstdanceAgency", 254, "it is over"), ("FirstdanceAgency", 280, "nothing runs that late"), ("FirstdanceAgency", 282, "it is not fixed"), ("FirstdanceAgency", 291, "not so many days"), ("FirstdanceAgency", 293, "there is no such day"), ("FirstdanceAgency", 313, "nothing like that is known of a player"), ("FirstdanceAgency", 323, "nothing like that is known of a song"), ("FirstdanceAgency", 325, "nothing like that is known of a band"), ("FirstdanceAgency", 340, "nothing like that is known of a wedding"), ("FirstdanceAgency", 348, "nothing like that is known of a filling"), ("FirstdanceAgency", 353, "not a set of players"), ("FirstdanceAgency", 364, "-"), ("FirstdanceAgency", 398, "nothing like that is on the desk"), ("FirstdanceAgency", 400, " on day "), ("FirstdanceAgency", 405, " in "), ("FirstdanceAgency", 407, ", "), ("FirstdanceAgency", 417, "not a day"), ("FirstdanceAgency", 483, "no such song"), ("FirstdanceAgency", 485, "no such player"), ("FirstdanceAgency", 487, "no such band"), ("FirstdanceAgency", 489, "no such wedding"), ("FirstdanceAgency", 491, "not a day to come"), ("FirstdanceAgency", 543, "asked"), ("FirstdanceAgency", 545, "fixed"), ("FirstdanceAgency", 547, "played"), ("FirstdanceAgency", 548, "lost"), ("FirstdanceAgency", 550, ": "), ("FirstdanceAgency", 552, ","), ("FirstdanceAgencyModel", 323, ""), ("FirstdanceAgencyModel", 330, " "), ("FirstdanceAgencyModel", 339, "-"), ("FirstdanceAgencyModel", 354, "asked"), ("FirstdanceAgencyModel", 356, "fixed"), ("FirstdanceAgencyModel", 358, "played"), ("FirstdanceAgencyModel", 360, "lost"), ("FirstdanceAgencyModel", 362, " on day "), ("FirstdanceAgencyModel", 364, " in "), ("FirstdanceAgencyModel", 366, ", "), ("FirstdanceAgencyModel", 368, ","), ("FirstdanceAgencyModel", 370, ": "), ("java/util/Arrays", 337, " > ")]
def nestB (w : Cond) : Bool := match w with
  | .fieldLinkNest .. => true
  | .methodLinkNest .. => true
  | .castable .. => true
  | .declares .. => true
  | _ => false
theorem nestL_ok : ∀ w ∈ nestL, nestB w = true := List.all_eq_true.mp (by rfl)
theorem nest_warm {s U : State} (hW : s.WarmedH U.vm) (w : Cond) (hb : nestB w = true) (h : va_Nw w s) : va_Nw w U := by
  unfold nestB at hb
  split at hb
  · exact va_Nw.warmF hW h
  · exact va_Nw.warmM hW h
  · exact va_Nw.warmC hW h
  · exact va_tabs rfl (rfl : (s.setVm U.vm).vm = U.vm) (by rw [Cond.declares_setVm hW.alike]; exact h)
  · cases hb
theorem nest_same {u U : State} (hv : u.vm = U.vm) (w : Cond) (hb : nestB w = true) (h : va_Nw w u) : va_Nw w U := by
  unfold nestB at hb
  split at hb
  · exact va_Nw.same rfl hv h
  · exact va_Nw.same rfl hv h
  · exact va_Nw.same rfl hv h
  · exact va_Nw.same rfl hv h
  · cases hb
theorem nest_use {U : State} {A : Array Value} (w : Cond) (hb : nestB w = true) (h : va_Nw w U) : w.before A U = true := by
  unfold nestB at hb
  split at hb
  · exact va_Nw.use rfl h
  · exact va_Nw.use rfl h
  · exact va_Nw.use rfl h
  · exact va_Nw.use rfl h
  · cases hb
/-- what the tables say at a state, and the two statics that a throw reads -/
def agT (D : va_G) (cy : Nat → ClassId) (lay : Nat → Nat) (U : State) : Prop :=
  va_K D vwCl (fdT cy) U ∧ (∀ w ∈ nestL, va_Nw w U) ∧ (∀ q ∈ strL, ∃ sa, vk_R q.1 q.2.1 q.2.2 sa U) ∧
  vx_Zq Bundle.tN "UNASSIGNED_STACK" Bundle.steD (agA lay U.heap.size) U U.heap ∧ vx_Zq Bundle.tN "SUPPRESSED_SENTINEL" Bundle.listD (agA lay U.heap.size) U U.heap
/-- the world at heap H, within a method that began at H0 -/
def agG (D : va_G) (cy : Nat → ClassId) (lay : Nat → Nat) (σ : MS) (A : Nat → Prop) (H0 H : Heap) (locs : List Loc) : Prop :=
  va_P D vwCl (agW cy lay σ) H ∧ va_D A (agW cy lay σ) ∧ va_S A H0 H locs
/-- a method's start -/
def agI (D : va_G) (cy : Nat → ClassId) (lay : Nat → Nat) (σ : MS) (sz : Nat) (U : State) : Prop :=
  U.heap.size = sz ∧ agT D cy lay U ∧ va_P D vwCl (agW cy lay σ) U.heap ∧ va_D (fun _ => True) (agW cy lay σ)
/-- a method's end -/
def agO (D : va_G) (cy : Nat → ClassId) (lay : Nat → Nat) (σ : MS) (t : State) : Prop := va_P D vwCl (agW cy lay σ) t.heap ∧ va_D (fun _ => True) (agW cy lay σ)
theorem agT_next {D : va_G} {cy : Nat → ClassId} {lay : Nat → Nat} {s U : State} {H : Heap} {locs : List Loc} (hT : agT D cy lay s) (hS : va_S (agA lay s.heap.size) s.heap H locs) (hU : U.heap = H) (hW : s.WarmedH U.vm) : agT D cy lay U := by
  obtain ⟨h1, h2, h3, h4, h5⟩ := hT
  refine ⟨va_K.moved hW.alike h1, fun w hw => nest_warm hW w (nestL_ok w hw) (h2 w hw), fun q hq => ?_, ?_, ?_⟩
  · obtain ⟨sa, h⟩ := h3 q hq
    exact ⟨sa, vk_R.warm hW h⟩
  · rw [hU]
    exact (((h4.moved hW.alike).kept hS.2.1)).narrow (agA_le hS.1)
  · rw [hU]
    exact (((h5.moved hW.alike).kept hS.2.1)).narrow (agA_le hS.1)
theorem agI_blind {D : va_G} {cy : Nat → ClassId} {lay : Nat → Nat} {σ : MS} {sz : Nat} {As : List Value} : FrameBlind (va_Pc As (agI D cy lay σ sz)) := by
  intro a U g mk h
  obtain ⟨h0, h1, ⟨k1, k2, k3, k4, k5⟩, h2, h3⟩ := h
  refine ⟨h0, h1, ⟨va_K.moved (u := U) (U := U.calling g mk a) (Vm.Alike.refl U.vm) k1, fun w hw => nest_same (u := U) (U := U.calling g mk a) rfl w (nestL_ok w hw) (k2 w hw), fun q hq => ?_, ?_, ?_⟩, h2, h3⟩
  · obtain ⟨sa, h⟩ := k3 q hq
    exact ⟨sa, vk_R.same (u := U) (U := U.calling g mk a) rfl h⟩
  · exact vx_Zq.moved (u := U) (U := U.calling g mk a) (Vm.Alike.refl U.vm) k4
  · exact vx_Zq.moved (u := U) (U := U.calling g mk a) (Vm.Alike.refl U.vm) k5
theorem agI_next {D : va_G} {cy : Nat → ClassId} {lay : Nat → Nat} {σ : MS} {s U : State} {H : Heap} {locs : List Loc} (hT : agT D cy lay s) (G : agG D cy lay σ (agA lay s.heap.size) s.heap H locs) (hU : U.heap = H) (hW : s.WarmedH U.vm) : agI D cy lay σ H.size U :=
  ⟨by rw [hU], agT_next hT G.2.2 hU hW, by rw [hU]; exact G.1, agD_t G.2.1⟩
theorem agO_G {D : va_G} {cy : Nat → ClassId} {lay : Nat → Nat} {σ : MS} {s t : State} {H : Heap} {locs : List Loc} (G : agG D cy lay σ (agA lay s.heap.size) s.heap H locs) (ht : t.heap = H) : agO D cy lay σ t := ⟨by rw [ht]; exact G.1, agD_t G.2.1⟩
/-- a class: its place among vwCl, its fields' types, their names apart -/
def agCl (C : String) (T : u_T) (N ci : Nat) (ty : Nat → FieldType) : Prop := vwCl[ci]? = some (C, T, N) ∧ (∀ k, k < N → parseFieldDescriptor (T k).2.2.1 = some (ty k)) ∧ ∀ a, a < N → ∀ b, b < N → a ≠ b → (T a).2.1 ≠ (T b).2.1
theorem k_X0 : agCl RX0 TX0 3 5 tyX0 := ⟨rfl, tyX0_ok, nmX0⟩
theorem k_X1 : agCl RX1 TX1 7 6 tyX1 := ⟨rfl, tyX1_ok, nmX1⟩
theorem k_X2 : agCl RX2 TX2 6 7 tyX2 := ⟨rfl, tyX2_ok, nmX2⟩
theorem k_X3 : agCl RX3 TX3 8 8 tyX3 := ⟨rfl, tyX3_ok, nmX3⟩
theorem k_X4 : agCl RX4 TX4 2 9 tyX4 := ⟨rfl, tyX4_ok, nmX4⟩
theorem k_X5 : agCl RX5 TX5 4 10 tyX5 := ⟨rfl, tyX5_ok, nmX5⟩
theorem k_X6 : agCl RX6 TX6 12 11 tyX6 := ⟨rfl, tyX6_ok, nmX6⟩
theorem k_X7 : agCl RX7 TX7 15 12 tyX7 := ⟨rfl, tyX7_ok, nmX7⟩
theorem wm {Ts : List Cond} {w : Cond} (i : Nat) (h : Ts[i]? = some w) : w ∈ Ts := List.mem_of_getElem? h
section AGROWS
variable {p : Program} {l : Launch} {e : Env} {R : Room} {s : State} {m : MethodId} {args : Array Value} {below : List Frame} {meth : Method} {c : Code} {H : Heap} {locs : List Loc} {cells slots : Nat} {Q : State → Prop}
variable {cc : ByteArray} {pc nL : Nat} {ls : Array Slot} {rest : List Value} {D : va_G} {cy : Nat → ClassId} {lay : Nat → Nat} {σ : MS} {A : Nat → Prop} {H0 : Heap} {Ts : List Cond} {own : String}
theorem ag_get {C : String} {T : u_T} {N ci index : Nat} {ty : Nat → FieldType} (hC : CallFix p m c cc nL s args Ts own) (hT : agT D cy lay s) (G : agG D cy lay σ A H0 H locs) {k : Nat} (hk : k < 87) {fs : List Value} (he : agR cy lay (σ k) k = .inr (ci, fs)) (hcl : agCl C T N ci ty) (hin : ∀ w ∈ u_ws C T N, w ∈ Ts) (j : Nat) (hj : j < N) (hl : Cond.fieldLink own index (T j).1 (T j).2.1 (T j).2.2.1 ∈ Ts) {v : Value} (hv : fs[j]? = some v) (hdg : decode cc pc = .ok (.getfield index, 3))
    (kk : W p l e R s m args below meth c H locs cells slots Q (F0 m (pc + 3) ls (v :: rest))) : W p l e R s m args below meth c H locs cells slots Q (F0 m pc ls (.ref (lay k) :: rest)) :=
  va_get hC.1 hC.2.1 hC.2.2.2.2 hin hC.2.2.2.1 hT.1 G.1 k (ag_at hk he) hcl.1 j hj (hC.2.2.2.2 _ hl) (fun _ h => h) hv hdg kk
theorem ag_put {C : String} {T : u_T} {N ci index : Nat} {ty : Nat → FieldType} (hC : CallFix p m c cc nL s args Ts own) (hT : agT D cy lay s) (G : agG D cy lay σ A H0 H locs) {k : Nat} (hk : k < 87) {fs : List Value} (he : agR cy lay (σ k) k = .inr (ci, fs)) (hcl : agCl C T N ci ty) (hin : ∀ w ∈ u_ws C T N, w ∈ Ts) (j : Nat) (hj : j < N) (hl : Cond.fieldLink own index (T j).1 (T j).2.1 (T j).2.2.1 ∈ Ts) (hfin : (T j).2.2.2 = false) (hty : ty j = .int) (hjl : j < fs.length) {v : Int32} {fs' : List Value} (he' : agR cy lay (upd (σ k) j v) k = .inr (ci, fs')) (hs : fs' = fs.set j (.int v)) (hdg : decode cc pc = .ok (.putfield index, 3))
    (kk : ∀ (H1 : Heap) (locs1 : List Loc), agG D cy lay (up2 σ k j v) A H0 H1 locs1 → W p l e R s m args below meth c H1 locs1 cells slots Q (F0 m (pc + 3) ls rest)) : W p l e R s m args below meth c H locs cells slots Q (F0 m pc ls (.int v :: .ref (lay k) :: rest)) := by
  have hs' : (agW cy lay σ).set k (lay k, .inr (ci, fs.set j (.int v))) = agW cy lay (up2 σ k j v) := ag_set hk (by rw [he', hs])
  refine va_put hC.1 hC.2.1 hC.2.2.2.2 hin ty hcl.2.1 hcl.2.2 hC.2.2.2.1 hT.1 G.1 G.2.1 G.2.2 k (ag_at hk he) hcl.1 j hj (hC.2.2.2.2 _ hl) (fun _ h => h) hfin (ty := .int) (v := .int v) (by rw [hcl.2.1 j hj, hty]) rfl rfl hjl hdg (fun H1 locs1 hP hD hS => ?_)
  rw [hs'] at hP hD
  exact kk H1 locs1 ⟨hP, hD, hS⟩
theorem ag_iald (hC : CallFix p m c cc nL s args Ts own) (hT : agT D cy lay s) (G : agG D cy lay σ A H0 H locs) {k : Nat} (hk : k < 87) {n : Nat} (he : agR cy lay (σ k) k = .inl (cy 0, n, .inl (σ k))) {i : Int32} (hin : vp_in i n) (hdg : decode cc pc = .ok (.iaload, 1))
    (kk : W p l e R s m args below meth c H locs cells slots Q (F0 m (pc + 1) ls (.int (σ k i.toNatClampNeg) :: rest))) : W p l e R s m args below meth c H locs cells slots Q (F0 m pc ls (.int i :: .ref (lay k) :: rest)) :=
  va_iald hC.1 hC.2.1 hT.1 G.1 k 0 (ag_at hk he) rfl hin hdg kk
theorem ag_zald (hC : CallFix p m c cc nL s args Ts own) (hT : agT D cy lay s) (G : agG D cy lay σ A H0 H locs) {k : Nat} (hk : k < 87) {n : Nat} (he : agR cy lay (σ k) k = .inl (cy 1, n, .inl (σ k))) {i : Int32} (hin : vp_in i n) (hdg : decode cc pc = .ok (.baload, 1))
    (kk : W p l e R s m args below meth c H locs cells slots Q (F0 m (pc + 1) ls (.int (σ k i.toNatClampNeg) :: rest))) : W p l e R s m args below meth c H locs cells slots Q (F0 m pc ls (.int i :: .ref (lay k) :: rest)) :=
  va_zald hC.1 hC.2.1 hT.1 G.1 k 1 (ag_at hk he) rfl hin hdg kk
theorem ag_iast (hC : CallFix p m c cc nL s args Ts own) (hT : agT D cy lay s) (G : agG D cy lay σ A H0 H locs) {k : Nat} (hk : k < 87) {n : Nat} (he : ∀ f : Nat → Int32, agR cy lay f k = .inl (cy 0, n, .inl f)) {i x : Int32} (hin : vp_in i n) (hdg : decode cc pc = .ok (.iastore, 1))
    (kk : ∀ (H1 : Heap) (locs1 : List Loc), agG D cy lay (up2 σ k i.toNatClampNeg x) A H0 H1 locs1 → W p l e R s m args below meth c H1 locs1 cells slots Q (F0 m (pc + 1) ls rest)) : W p l e R s m args below meth c H locs cells slots Q (F0 m pc ls (.int x :: .int i :: .ref (lay k) :: rest)) := by
  refine va_iast hC.1 hC.2.1 hT.1 G.1 G.2.1 G.2.2 k 0 (ag_at hk (he _)) rfl hin hdg (fun H1 locs1 hP hD hS => ?_)
  rw [ag_set hk (he _)] at hP hD
  exact kk H1 locs1 ⟨hP, hD, hS⟩
theorem ag_zast (hC : CallFix p m c cc nL s args Ts own) (hT : agT D cy lay s) (G : agG D cy lay σ A H0 H locs) {k : Nat} (hk : k < 87) {n : Nat} (he : ∀ f : Nat → Int32, agR cy lay f k = .inl (cy 1, n, .inl f)) {i x : Int32} (hin : vp_in i n) (hdg : decode cc pc = .ok (.bastore, 1))
    (kk : ∀ (H1 : Heap) (locs1 : List Loc), agG D cy lay (up2 σ k i.toNatClampNeg (vp_nar .boolean x)) A H0 H1 locs1 → W p l e R s m args below meth c H1 locs1 cells slots Q (F0 m (pc + 1) ls rest)) : W p l e R s m args below meth c H locs cells slots Q (F0 m pc ls (.int x :: .int i :: .ref (lay k) :: rest)) := by
  refine va_zast hC.1 hC.2.1 hT.1 G.1 G.2.1 G.2.2 k 1 (ag_at hk (he _)) rfl hin hdg (fun H1 locs1 hP hD hS => ?_)
  rw [ag_set hk (he _)] at hP hD
  exact kk H1 locs1 ⟨hP, hD, hS⟩
theorem ag_aald (hC : CallFix p m c cc nL s args Ts own) (hT : agT D cy lay s) (G : agG D cy lay σ A H0 H locs) {k : Nat} (hk : k < 87) {n b t : Nat} (C : String) (ht : (fdT cy)[t]? = some (cy t, .object C)) (he : agR cy lay (σ k) k = .inl (cy t, n, rfA lay b)) {i : Int32} (hin : vp_in i n) (hdg : decode cc pc = .ok (.aaload, 1))
    (kk : W p l e R s m args below meth c H locs cells slots Q (F0 m (pc + 1) ls (.ref (lay (b + i.toNatClampNeg)) :: rest))) : W p l e R s m args below meth c H locs cells slots Q (F0 m pc ls (.int i :: .ref (lay k) :: rest)) :=
  va_aldq hC.1 hC.2.1 hT.1 G.1 k t (ag_at hk he) ht hin hdg kk
theorem ag_aalda (hC : CallFix p m c cc nL s args Ts own) (hT : agT D cy lay s) (G : agG D cy lay σ A H0 H locs) {k : Nat} (hk : k < 87) {n b : Nat} (he : agR cy lay (σ k) k = .inl (cy 6, n, rfA lay b)) {i : Int32} (hin : vp_in i n) (hdg : decode cc pc = .ok (.aaload, 1))
    (kk : W p l e R s m args below meth c H locs cells slots Q (F0 m (pc + 1) ls (.ref (lay (b + i.toNatClampNeg)) :: rest))) : W p l e R s m args below meth c H locs cells slots Q (F0 m pc ls (.int i :: .ref (lay k) :: rest)) := by
  have ha := ag_at (σ := σ) hk he
  have hlt : i.toNatClampNeg < n := vlt hin
  exact W.aald (v := va_rf (some (lay (b + i.toNatClampNeg)))) (ty := .array .int) hC.1 hC.2.1 (G.1 k _ ha) ((hT.1.2 6 _ rfl).1 n (fun j => va_rf (some (lay (b + j))))) rfl (fun q => by cases q) (by show ¬ (i < 0 ∨ (arrV _ _ _).slots.size ≤ _); rw [arrV_size]; exact hin) (by show (arrV _ _ _).slots[_]? = _; rw [arrV_read _ _ hlt]) rfl rfl hdg kk
theorem ag_recv {ci : Nat} {C : String} {T : u_T} {N : Nat} {ty : Nat → FieldType} {fs : List Value} (hT : agT D cy lay s) (G : agG D cy lay σ A H0 H locs) {k : Nat} (hk : k < 87) (he : agR cy lay (σ k) k = .inr (ci, fs)) (hcl : agCl C T N ci ty) : ∃ cell : Cell, H[lay k]? = some cell ∧ cell.vm.isStatics = false ∧ s.vm.findClass C = some cell.cls := va_recv hT.1 G.1 hcl.1 (ag_at hk he)
end AGROWS
section AGCALLS
variable {p : Program} {l : Launch} {e : Env} {R : Room} {s : State} {m : MethodId} {args : Array Value} {below : List Frame} {meth : Method} {c : Code} {H : Heap} {locs : List Loc} {cells slots : Nat} {Q : State → Prop}
variable {cc bytes : ByteArray} {pc nL maxL mc ms n index : Nat} {ls : Array Slot} {ST rest As : List Value} {D : va_G} {cy : Nat → ClassId} {lay : Nat → Nat} {σ : MS} {Ts ws : List Cond} {own Cn host : String} {y : MethodName} {ret : Option FieldType} {rm : Room} {b : Addr}
variable {Qc : Array Value → State → Outcome → State → Prop} {free : Addr → Prop}
theorem ag_runV (hC : CallFix p m c cc nL s args Ts own) (hT : agT D cy lay s) (G : agG D cy lay σ (agA lay s.heap.size) s.heap H locs) (hM : Met l y ws rm (va_Pc (.ref b :: As) (agI D cy lay σ H.size)) Qc mc ms free) (cw : CallW R s args own Cn index y bytes maxL ret ws rm mc ms n) (hrv : ∃ cell : Cell, H[b]? = some cell ∧ cell.vm.isStatics = false ∧ s.vm.findClass Cn = some cell.cls)
    (hn : As.length = n) (hls : ls.size = nL) (hst : ST = As.reverse ++ .ref b :: rest) (hW : (rest.map fun v => v.category).sum ≤ 8) (hdg : decode cc pc = .ok (.invokevirtual index, 3)) (hf : cells + mc ≤ R.cells ∧ slots + ms ≤ R.slots) :
    va_Run p l e R s m args below meth c H locs cells slots mc ms (F0 m pc ls ST) rest (Qc (.ref b :: As).toArray) free :=
  va_runV hC hM cw ⟨agI_blind, hrv, fun U hU hW => ⟨rfl, agI_next hT G hU hW⟩⟩ rfl hn hls hst (lv_room hW) hdg hf
theorem ag_runS (hC : CallFix p m c cc nL s args Ts own) (hT : agT D cy lay s) (G : agG D cy lay σ (agA lay s.heap.size) s.heap H locs) (hM : Met l y ws rm (va_Pc As (agI D cy lay σ H.size)) Qc mc ms free) (cw : CallB R s args own index y bytes maxL ret ws rm mc ms n ∧ (Cond.static y).before args s = true)
    (hn : As.length = n) (hls : ls.size = nL) (hst : ST = As.reverse ++ rest) (hW : (rest.map fun v => v.category).sum ≤ 8) (hdg : decode cc pc = .ok (.invokestatic index, 3)) (hf : cells + mc ≤ R.cells ∧ slots + ms ≤ R.slots) :
    va_Run p l e R s m args below meth c H locs cells slots mc ms (F0 m pc ls ST) rest (Qc As.toArray) free :=
  va_runS hC hM cw ⟨agI_blind, fun U hU hW => ⟨rfl, agI_next hT G hU hW⟩⟩ rfl hn hls hst (lv_room hW) hdg hf
theorem ag_runSN (hC : CallFix p m c cc nL s args Ts own) (hT : agT D cy lay s) (G : agG D cy lay σ (agA lay s.heap.size) s.heap H locs) (hM : Met l y ws rm (va_Pc As (agI D cy lay σ H.size)) Qc mc ms free) (cw : va_CN R s args own index y host bytes maxL ret ws rm mc ms n ∧ (Cond.static y).before args s = true ∧ True)
    (hn : As.length = n) (hls : ls.size = nL) (hst : ST = As.reverse ++ rest) (hW : (rest.map fun v => v.category).sum ≤ 8) (hdg : decode cc pc = .ok (.invokestatic index, 3)) (hf : cells + mc ≤ R.cells ∧ slots + ms ≤ R.slots) :
    va_Run p l e R s m args below meth c H locs cells slots mc ms (F0 m pc ls ST) rest (Qc As.toArray) free :=
  va_runSN hC hM cw ⟨agI_blind, fun U hU hW => ⟨rfl, agI_next hT G hU hW⟩⟩ rfl hn hls hst (lv_room hW) hdg hf
/-- behind a call that answers an int -/
theorem ag_i {post : Int32 → MS → Prop} {a : Array Value} (G : agG D cy lay σ (agA lay s.heap.size) s.heap H locs) (hr : va_Run p l e R s m args below meth c H locs cells slots mc ms (F0 m pc ls ST) rest (va_Qi post (agO D cy lay) (agA lay H.size) a) (agA lay H.size))
    (kk : ∀ (r : Int32) (σ' : MS) (H1 : Heap) (locs1 : List Loc), post r σ' → agG D cy lay σ' (agA lay s.heap.size) s.heap H1 locs1 → W p l e R s m args below meth c H1 locs1 (cells + mc) (slots + ms) Q (F0 m (pc + 3) ls (.int r :: rest))) : W p l e R s m args below meth c H locs cells slots Q (F0 m pc ls ST) :=
  va_calli hr G.2.2 (fun q _ h => agA_le G.2.2.1 q h) (agA_le G.2.2.1) (fun r u t H1 locs1 ht hvm hw hB hz hk hS => kk r u H1 locs1 hw ⟨by rw [← ht]; exact hB.1, agD_of hB.2, hS⟩)
theorem ag_l {post : Int64 → MS → Prop} {a : Array Value} (G : agG D cy lay σ (agA lay s.heap.size) s.heap H locs) (hr : va_Run p l e R s m args below meth c H locs cells slots mc ms (F0 m pc ls ST) rest (va_Ql post (agO D cy lay) (agA lay H.size) a) (agA lay H.size))
    (kk : ∀ (r : Int64) (σ' : MS) (H1 : Heap) (locs1 : List Loc), post r σ' → agG D cy lay σ' (agA lay s.heap.size) s.heap H1 locs1 → W p l e R s m args below meth c H1 locs1 (cells + mc) (slots + ms) Q (F0 m (pc + 3) ls (.long r :: rest))) : W p l e R s m args below meth c H locs cells slots Q (F0 m pc ls ST) :=
  va_calll hr G.2.2 (fun q _ h => agA_le G.2.2.1 q h) (agA_le G.2.2.1) (fun r u t H1 locs1 ht hvm hw hB hz hk hS => kk r u H1 locs1 hw ⟨by rw [← ht]; exact hB.1, agD_of hB.2, hS⟩)
theorem ag_v {post : MS → Prop} {a : Array Value} (G : agG D cy lay σ (agA lay s.heap.size) s.heap H locs) (hr : va_Run p l e R s m args below meth c H locs cells slots mc ms (F0 m pc ls ST) rest (va_Qv post (agO D cy lay) (agA lay H.size) a) (agA lay H.size))
    (kk : ∀ (σ' : MS) (H1 : Heap) (locs1 : List Loc), post σ' → agG D cy lay σ' (agA lay s.heap.size) s.heap H1 locs1 → W p l e R s m args below meth c H1 locs1 (cells + mc) (slots + ms) Q (F0 m (pc + 3) ls rest)) : W p l e R s m args below meth c H locs cells slots Q (F0 m pc ls ST) :=
  va_callv hr G.2.2 (fun q _ h => agA_le G.2.2.1 q h) (agA_le G.2.2.1) (fun u t H1 locs1 ht hvm hw hB hz hk hS => kk u H1 locs1 hw ⟨by rw [← ht]; exact hB.1, agD_of hB.2, hS⟩)
/-- a method's contract out of the walk of its body -/
theorem ag_ofW {ws' : List Cond} {maxL : Nat} {sz : Nat} {Qc : Nat → Array Value → State → Outcome → State → Prop} (hy : plainName y.cls = true) (hw : ws = Cond.code y cc maxL ret :: ws') (hnl : (lg_sl As).length ≤ maxL) (hoo : y.cls = own)
    (body : ∀ (p : Program) (e : Env) (s : State) (m : MethodId) (args : Array Value) (below : List Frame) (meth : Method) (c : Code) (ls : Array Slot), CallFix p m c cc maxL s args ws own → meth.sig.returnType = ret → meth.locks = false → agT D cy lay s → agG D cy lay σ (agA lay s.heap.size) s.heap s.heap [] → lv_has ls maxL (lv_args 0 As) →
      W p l e rm s m args below meth c s.heap [] 0 0 (MQ below (Qc s.heap.size) args s mc ms (agA lay s.heap.size)) (F0 m 0 ls [])) : Met l y ws rm (va_Pc As (agI D cy lay σ sz)) (Qc sz) mc ms (agA lay sz) := by
  refine Met.ofW (cc := cc) (maxL := maxL) (ret := ret) hy hw ?_
  intro p e s m args below meth c s₁ B hml hv
  obtain ⟨rfl, hsz, hT, hP, hD⟩ := hv
  subst hsz
  have hl := lv_entry As (n := maxL) hnl
  rw [lg_entry_eq]
  have hown : s.vm.findClass y.cls = some m.cls := findClass_of_methodNamed B.named
  rw [hoo] at hown
  exact body p e s m As.toArray below meth c _ ⟨B.exec, B.bytes, hml, hown, atoms_spec (ws := ws) B.pre⟩ B.returns B.notSynchronized hT ⟨hP, agD_of hD, va_S.rf⟩ hl
theorem ag_iret {post : Int32 → MS → Prop} {v : Int32} {locs : List Loc} (hC : CallFix p m c cc nL s args Ts own) (hr : meth.sig.returnType = some .int) (hlocks : meth.locks = false) (G : agG D cy lay σ (agA lay s.heap.size) s.heap H locs) (h : post v σ) (hdg : decode cc pc = .ok (.ireturn, 1)) :
    W p l e R s m args below meth c H locs cells slots (MQ below (va_Qi post (agO D cy lay) (agA lay s.heap.size)) args s cells slots (agA lay s.heap.size)) (F0 m pc ls [.int v]) :=
  W.iret (v := v) hC.1 hC.2.1 hr (fun t ht hW => ⟨⟨v, σ, rfl, h, agO_G G ht⟩, G.2.2.F ht⟩) G.2.2.2.2 hdg hlocks
theorem ag_zret {post : Int32 → MS → Prop} {v : Int32} {locs : List Loc} (hC : CallFix p m c cc nL s args Ts own) (hr : meth.sig.returnType = some .boolean) (hlocks : meth.locks = false) (G : agG D cy lay σ (agA lay s.heap.size) s.heap H locs) (hn : narrow .boolean (.int v) = .int v) (h : post v σ) (hdg : decode cc pc = .ok (.ireturn, 1)) :
    W p l e R s m args below meth c H locs cells slots (MQ below (va_Qi post (agO D cy lay) (agA lay s.heap.size)) args s cells slots (agA lay s.heap.size)) (F0 m pc ls [.int v]) :=
  W.zret (v := v) hC.1 hC.2.1 hr hn (fun t ht hW => ⟨⟨v, σ, rfl, h, agO_G G ht⟩, G.2.2.F ht⟩) G.2.2.2.2 hdg hlocks
theorem ag_vret {post : MS → Prop} {locs : List Loc} (hC : CallFix p m c cc nL s args Ts own) (hr : meth.sig.returnType = none) (hlocks : meth.locks = false) (G : agG D cy lay σ (agA lay s.heap.size) s.heap H locs) (h : post σ) (hdg : decode cc pc = .ok (.return_, 1)) :
    W p l e R s m args below meth c H locs cells slots (MQ below (va_Qv post (agO D cy lay) (agA lay s.heap.size)) args s cells slots (agA lay s.heap.size)) (F0 m pc ls []) :=
  W.vret hC.1 hC.2.1 hr (fun t ht hW => ⟨⟨σ, rfl, h, agO_G G ht⟩, G.2.2.F ht⟩) G.2.2.2.2 hdg hlocks
end AGCALLS
