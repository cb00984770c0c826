/-! SEATS: the places of a band can be taken, place by place, by players of a set, each one at most -/
section SEATS
def can (inst : Nat → Nat → Prop) (n : Nat) : List Nat → (Nat → Prop) → Prop
  | [], _ => True
  | i :: L, S => ∃ p, p < n ∧ S p ∧ inst p i ∧ can inst n L (fun q => S q ∧ q ≠ p)
theorem can_cg {inst : Nat → Nat → Prop} {n : Nat} : ∀ (L : List Nat) {S S' : Nat → Prop}, (∀ q, q < n → (S q ↔ S' q)) → (can inst n L S ↔ can inst n L S')
  | [], _, _, _ => Iff.rfl
  | i :: L, S, S', h => by
    unfold can
    constructor
    · rintro ⟨p, hp, h1, h2, h3⟩
      exact ⟨p, hp, (h p hp).mp h1, h2, (can_cg L (fun q hq => and_congr_left' (h q hq))).mp h3⟩
    · rintro ⟨p, hp, h1, h2, h3⟩
      exact ⟨p, hp, (h p hp).mpr h1, h2, (can_cg L (fun q hq => and_congr_left' (h q hq))).mpr h3⟩
theorem can_swap {inst : Nat → Nat → Prop} {n i j : Nat} {L : List Nat} {S : Nat → Prop} (h : can inst n (i :: j :: L) S) : can inst n (j :: i :: L) S := by
  unfold can can at h
  obtain ⟨p, hp, h1, h2, q, hq, h3, h4, h5⟩ := h
  unfold can can
  exact ⟨q, hq, h3.1, h4, p, hp, ⟨h1, fun e => h3.2 e.symm⟩, h2, (can_cg L (fun r hr => by constructor <;> rintro ⟨⟨a, b⟩, c⟩ <;> exact ⟨⟨a, c⟩, b⟩)).mp h5⟩
theorem can_snoc {inst : Nat → Nat → Prop} {n i : Nat} : ∀ (L : List Nat) {S : Nat → Prop}, can inst n (L ++ [i]) S ↔ can inst n (i :: L) S
  | [], _ => Iff.rfl
  | j :: L, S => by
    have e : can inst n (j :: (L ++ [i])) S ↔ can inst n (j :: i :: L) S := by
      show (∃ p, p < n ∧ S p ∧ inst p j ∧ can inst n (L ++ [i]) (fun q => S q ∧ q ≠ p)) ↔ ∃ p, p < n ∧ S p ∧ inst p j ∧ can inst n (i :: L) (fun q => S q ∧ q ≠ p)
      constructor
      · rintro ⟨p, a, b, c, d⟩; exact ⟨p, a, b, c, (can_snoc L).mp d⟩
      · rintro ⟨p, a, b, c, d⟩; exact ⟨p, a, b, c, (can_snoc L).mpr d⟩
    exact e.trans ⟨can_swap, can_swap⟩
theorem clr_nI {s p : Nat} (hs : s < 1024) : nI (clr (nI s) p) = nI s &&& (one p ^^^ (-1)) ∧ clr (nI s) p ≤ s := by
  obtain ⟨j, hj, e⟩ := and_small hs (by decide) (one p ^^^ (-1))
  have : clr (nI s) p = j := by
    unfold clr
    rw [show (1 <<< (nI p &&& 31) ^^^ (-1) : Int32) = one p ^^^ (-1) from rfl, e, nI_clamp (by omega)]
  rw [this, e]
  exact ⟨rfl, hj⟩
theorem clr_bt {s p q : Nat} (hs : s < 1024) (hp : p < 32) (hq : q < 32) : bt (nI (clr (nI s) p)) q = (bt (nI s) q && !decide (q = p)) := by
  rw [(clr_nI hs).1, b_and, b_cmp hq, b_one hp hq]
theorem bc_tab : ∀ s, s < 1024 → ∃ m, m ≤ 10 ∧ bcI (nI s) = nI m := by
  have : ∀ s, s < 1024 → (bcI (nI s)).toNatClampNeg ≤ 10 ∧ bcI (nI s) = nI (bcI (nI s)).toNatClampNeg := by decide +kernel
  exact fun s hs => ⟨_, (this s hs).1, (this s hs).2⟩
set_option maxRecDepth 20000 in
theorem bc_clr : ∀ s, s < 1024 → ∀ p, p < 10 → bt (nI s) p = true → bcI (nI s) = bcI (nI (clr (nI s) p)) + 1 ∧ clr (nI s) p < s := by decide +kernel
theorem bc_pos : ∀ s, s < 1024 → 1 ≤ s → ¬ bcI (nI s) = 0 := by decide +kernel
theorem seatB_ex {x : MS} {b last : Nat} {s : Int32} : ∀ n, seatB x b last s n = true ↔ ∃ p, p < n ∧ bt s p = true ∧ bt (x (29 + p) 0) (pl x b last) = true ∧ ¬ x 8 (clr s p) = 0
  | 0 => by
    unfold seatB
    constructor
    · intro h; cases h
    · rintro ⟨p, hp, _⟩; omega
  | n + 1 => by
    unfold seatB
    rw [Bool.or_eq_true, seatB_ex n, decide_eq_true_iff]
    constructor
    · rintro (⟨p, hp, h⟩ | h)
      · exact ⟨p, by omega, h⟩
      · exact ⟨n, by omega, h⟩
    · rintro ⟨p, hp, h⟩
      by_cases e : p = n
      · subst e; exact Or.inr h
      · exact Or.inl ⟨p, by omega, h⟩
/-- the first m places of the band -/
def plcs (σ : MS) (b m : Nat) : List Nat := (List.range m).map (pl σ b)
/-- the class's marks: a set is marked where just so many of the first places can be taken by it -/
theorem sat_can {σ : MS} {P b sz : Nat} (hP : P ≤ 10) (hz : sz ≤ 5) (hs : σ (55 + b) 2 = nI sz) : ∀ n, n ≤ 2 ^ P - 1 → ∀ s, s ≤ n → ∀ m, m ≤ 10 → bcI (nI s) = nI m → (¬ sat σ b P n 8 s = 0 ↔ m ≤ sz ∧ can (fun p i => bt (σ (29 + p) 0) i = true) P (plcs σ b m) (fun q => bt (nI s) q = true))
  | 0, _, s, hsn, m, hm, hbc => by
    obtain rfl : s = 0 := by omega
    have e0 : bcI (nI 0) = 0 := by decide +kernel
    obtain rfl : m = 0 := (nI_eq (by omega) (by decide)).mp (hbc.symm.trans (e0.trans nI_0.symm))
    constructor
    · intro _; exact ⟨Nat.zero_le _, trivial⟩
    · intro _
      show ¬ up2 σ 8 0 1 8 0 = 0
      rw [up2_same]
      decide
  | n + 1, hn, s, hsn, m, hm, hbc => by
    have ih := sat_can hP hz hs n (by omega)
    obtain ⟨p1, p2⟩ := pw1024 hP
    by_cases e : s = n + 1
    · subst e
      show ¬ up2 (sat σ b P n) 8 (n + 1) (b01 (seatF (sat σ b P n) b (nI (n + 1)) P)) 8 (n + 1) = 0 ↔ _
      rw [up2_same, b01_1]
      have sc := Scr.sat σ b P n
      have k55 : sat σ b P n (55 + b) = σ (55 + b) := sc _ (by omega)
      have k29 : ∀ p, sat σ b P n (29 + p) = σ (29 + p) := fun p => sc _ (by omega)
      have kpl : ∀ j, pl (sat σ b P n) b j = pl σ b j := fun j => by
        unfold pl
        rw [sc (67 + b) (by omega)]
      generalize sat σ b P n = x at ih k55 k29 kpl
      have m1 : 1 ≤ m := by
        rcases Nat.eq_zero_or_pos m with z | z
        · subst z
          exact absurd (hbc.trans nI_0) (bc_pos (n + 1) (by omega) (by omega))
        · exact z
      unfold seatF
      rw [hbc, nI_prd m1, if_neg (nI_pos (by omega)), k55, hs, nI_clamp (by omega)]
      by_cases c : m ≤ sz
      · rw [if_pos (nI_lt (show m - 1 < sz by omega) (by omega)), seatB_ex]
        have ep : plcs σ b m = plcs σ b (m - 1) ++ [pl σ b (m - 1)] := by
          unfold plcs
          conv => lhs; rw [show m = (m - 1) + 1 by omega]
          rw [List.range_succ, List.map_append]
          rfl
        rw [ep, can_snoc]
        show _ ↔ m ≤ sz ∧ ∃ p, p < P ∧ bt (nI (n + 1)) p = true ∧ bt (σ (29 + p) 0) (pl σ b (m - 1)) = true ∧ can (fun p i => bt (σ (29 + p) 0) i = true) P (plcs σ b (m - 1)) (fun q => bt (nI (n + 1)) q = true ∧ q ≠ p)
        have key : ∀ p, p < P → bt (nI (n + 1)) p = true → (¬ x 8 (clr (nI (n + 1)) p) = 0 ↔ can (fun p i => bt (σ (29 + p) 0) i = true) P (plcs σ b (m - 1)) (fun q => bt (nI (n + 1)) q = true ∧ q ≠ p)) := fun p hp hb => by
          obtain ⟨b1, b2⟩ := bc_clr (n + 1) (by omega) p (by omega) hb
          have b3 : bcI (nI (clr (nI (n + 1)) p)) = nI (m - 1) := by
            rw [hbc] at b1
            obtain ⟨k, hk, ek⟩ := bc_tab (clr (nI (n + 1)) p) (by omega)
            rw [ek] at b1 ⊢
            have : nI m = nI (k + 1) := by rw [← nI_1]; exact b1
            have := (nI_eq (by omega) (by omega)).mp this
            congr 1
            omega
          rw [ih _ (by omega) (m - 1) (by omega) b3]
          have cg := can_cg (inst := fun p i => bt (σ (29 + p) 0) i = true) (n := P) (plcs σ b (m - 1)) (S := fun q => bt (nI (clr (nI (n + 1)) p)) q = true) (S' := fun q => bt (nI (n + 1)) q = true ∧ q ≠ p) (fun q hq => by
            rw [clr_bt (by omega) (by omega) (by omega), Bool.and_eq_true, Bool.not_eq_true', decide_eq_false_iff_not])
          rw [cg]
          exact ⟨fun h => h.2, fun h => ⟨by omega, h⟩⟩
        constructor
        · rintro ⟨p, hp, h1, h2, h3⟩
          rw [k29, kpl] at h2
          exact ⟨c, p, hp, h1, h2, (key p hp h1).mp h3⟩
        · rintro ⟨_, p, hp, h1, h2, h3⟩
          exact ⟨p, hp, h1, by rw [k29, kpl]; exact h2, (key p hp h1).mpr h3⟩
      · rw [if_neg (fun z => absurd z (Int32.not_lt.mpr (nI_le0 (show sz ≤ m - 1 by omega) (by omega))))]
        constructor
        · intro h; cases h
        · intro h; exact absurd h.1 c
    · show ¬ up2 (sat σ b P n) 8 (n + 1) _ 8 s = 0 ↔ _
      rw [up2_off (by omega)]
      exact ih s (by omega) m hm hbc
end SEATS
