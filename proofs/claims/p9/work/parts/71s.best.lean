/-! THE BEST SET, EXACTLY: the class's is one -/
section BEST3
variable {ρ σ : MS} {PL : Nat → Prop} {G : Nat → Nat} {pb : Int32}
/-- the class's songs read as ρ -/
def sgV (σ ρ : MS) : Prop := ∀ s, s < 16 → σ (39 + s) 0 = ρ 7 s ∧ σ (39 + s) 1 = ρ 8 s ∧ σ (39 + s) 2 = ρ 9 s
def enV (σ : MS) : Prop := ∀ s, s < 16 → ∃ e, e < 10 ∧ σ (39 + s) 1 = nI e
theorem bmod32 (x : Int) : Int.bmod x (2 ^ 32) = if x % 4294967296 < 2147483648 then x % 4294967296 else x % 4294967296 - 4294967296 := by
  have e : ((2 ^ 32 : Nat) : Int) = 4294967296 := by decide
  simp only [Int.bmod, e]
  rw [show ((4294967296 : Int) + 1) / 2 = 2147483648 by decide]
theorem near_fits (x : Int32) : (x ≤ 2 ∨ ¬ x < 10) ↔ ¬ 2 < (if 12 - x < x then 12 - x else x) := by
  have h1 : (12 - x).toInt = Int.bmod (12 - x.toInt) (2 ^ 32) := Int32.toInt_sub 12 x
  have lo := Int32.le_toInt x
  have hi := Int32.toInt_lt x
  have e2 : (2 : Int32).toInt = 2 := by decide
  have e10 : (10 : Int32).toInt = 10 := by decide
  rw [bmod32] at h1
  by_cases c : 12 - x < x
  · rw [if_pos c]
    simp only [Int32.lt_iff_toInt_lt, Int32.le_iff_toInt_le] at *
    split at h1 <;> omega
  · rw [if_neg c]
    simp only [Int32.lt_iff_toInt_lt, Int32.le_iff_toInt_le] at *
    split at h1 <;> omega
theorem bh_fits {i j : Nat} (h : sgV σ ρ) (hi : i < 16) (hj : j < 16) : bhP ρ i j ↔ lat ρ i j ∧ fits2 σ i j = true := by
  unfold bhP fits2 apart nearV
  rw [decide_eq_true_iff, (h i hi).1, (h j hj).1]
  rw [← near_fits]
/-- places of a list -/
theorem srtI_mem {σ : MS} {pb : Int32} {e : Nat} {B : List Nat} : ∀ s x, x ∈ srtI σ pb e B s ↔ x ∈ B ∨ (x < s ∧ bt pb x = true ∧ σ (39 + x) 1 = nI e)
  | 0, x => by unfold srtI; constructor <;> intro h <;> first | exact Or.inl h | (rcases h with h | h; exact h; omega)
  | s + 1, x => by
    have ih := srtI_mem (σ := σ) (pb := pb) (e := e) (B := B) s x
    unfold srtI
    by_cases c : bt pb s = true ∧ σ (39 + s) 1 = nI e
    · rw [if_pos c, List.mem_append, ih, List.mem_singleton]
      constructor
      · rintro ((h | h) | h)
        · exact Or.inl h
        · exact Or.inr ⟨by omega, h.2⟩
        · subst h; exact Or.inr ⟨by omega, c⟩
      · rintro (h | h)
        · exact Or.inl (Or.inl h)
        · by_cases z : x = s
          · exact Or.inr z
          · exact Or.inl (Or.inr ⟨by omega, h.2⟩)
    · rw [if_neg c, ih]
      constructor
      · rintro (h | h)
        · exact Or.inl h
        · exact Or.inr ⟨by omega, h.2⟩
      · rintro (h | h)
        · exact Or.inl h
        · by_cases z : x = s
          · subst z; exact absurd h.2 c
          · exact Or.inr ⟨by omega, h.2⟩
theorem srtL_mem {σ : MS} {pb : Int32} : ∀ n x, x ∈ srtL σ pb n ↔ x < 16 ∧ bt pb x = true ∧ ∃ e, e < n ∧ σ (39 + x) 1 = nI e
  | 0, x => by
    unfold srtL
    constructor
    · intro h; exact absurd h List.not_mem_nil
    · rintro ⟨_, _, e, he, _⟩; omega
  | n + 1, x => by
    unfold srtL
    rw [srtI_mem, srtL_mem n x]
    constructor
    · rintro (⟨h1, h2, e, he, h3⟩ | ⟨h1, h2, h3⟩)
      · exact ⟨h1, h2, e, by omega, h3⟩
      · exact ⟨h1, h2, n, by omega, h3⟩
    · rintro ⟨h1, h2, e, he, h3⟩
      by_cases z : e = n
      · subst z; exact Or.inr ⟨h1, h2, h3⟩
      · exact Or.inl ⟨h1, h2, e, by omega, h3⟩
theorem srtI_pw {σ ρ : MS} {pb : Int32} {e : Nat} {B : List Nat} (hs : sgV σ ρ) (he : e < 10) (hB : B.Pairwise (lat ρ)) (hE : ∀ x ∈ B, x < 16 ∧ ∃ f, f < e ∧ σ (39 + x) 1 = nI f) : ∀ s, s ≤ 16 → (srtI σ pb e B s).Pairwise (lat ρ)
  | 0, _ => hB
  | s + 1, h => by
    have ih := srtI_pw (pb := pb) hs he hB hE s (by omega)
    unfold srtI
    by_cases c : bt pb s = true ∧ σ (39 + s) 1 = nI e
    · rw [if_pos c]
      refine List.pairwise_append.mpr ⟨ih, List.pairwise_singleton _ _, fun a ha b hb => ?_⟩
      obtain rfl : b = s := by simpa using hb
      unfold lat
      rcases (srtI_mem b a).mp ha with z | ⟨z1, _, z3⟩
      · obtain ⟨h16, f, hf, ef⟩ := hE a z
        left
        rw [← (hs a h16).2.1, ← (hs b (by omega)).2.1, ef, c.2]
        exact nI_lt hf (by omega)
      · right
        rw [← (hs a (by omega)).2.1, ← (hs b (by omega)).2.1, z3, c.2]
        exact ⟨rfl, z1⟩
    · rw [if_neg c]; exact ih
theorem srtL_pw {σ ρ : MS} {pb : Int32} (hs : sgV σ ρ) : ∀ n, n ≤ 10 → (srtL σ pb n).Pairwise (lat ρ)
  | 0, _ => List.Pairwise.nil
  | n + 1, h => by
    unfold srtL
    exact srtI_pw hs (by omega) (srtL_pw hs n (by omega)) (fun x hx => ⟨((srtL_mem n x).mp hx).1, ((srtL_mem n x).mp hx).2.2⟩) 16 (by omega)
/-- the order: every song that can be played has one place, later ones later places -/
def ordL (ρ : MS) (PL : Nat → Prop) (n : Nat) (f : Nat → Nat) : Prop := (∀ p, p < n → f p < 16 ∧ PL (f p)) ∧ (∀ p q, p < q → q < n → lat ρ (f p) (f q)) ∧ ∀ x, x < 16 → PL x → ∃ p, p < n ∧ f p = x
theorem ordL.after {n : Nat} {f : Nat → Nat} (h : ordL ρ PL n f) {p q : Nat} (hp : p < n) (hq : q < n) (hl : lat ρ (f p) (f q)) : p < q := by
  rcases Nat.lt_trichotomy p q with d | d | d
  · exact d
  · subst d; exact absurd hl lat_irrefl
  · exact absurd (lat_trans hl (h.2.1 q p d hp)) lat_irrefl
/-- the place b is the best of those that C says -/
def bst (G : Nat → Nat) (f : Nat → Nat) (n : Nat) (C : Nat → Prop) (v : Int32) : Prop := (v = -1 ∧ ∀ q, ¬ C q) ∨ ∃ q, q < n ∧ C q ∧ v = nI q ∧ ∀ q', C q' → G (f q') < G (f q) ∨ (G (f q') = G (f q) ∧ f q ≤ f q')
theorem bsF_bst {x : MS} {f : Nat → Nat} {n k : Nat} {C : Nat → Prop} {v : Int32} (hn : n ≤ 16) (hG : ∀ q, q < n → G (f q) ≤ 144 ∧ f q < 16) (h12 : ∀ q, q < n → x 12 q = nI (f q)) (h13 : ∀ q, (C q ∨ q = k) → q < n ∧ x 13 q = nI (G (f q))) (hk : k < n) (h : bst G f n C v) : bst G f n (fun q => C q ∨ q = k) (bsF x k v) := by
  unfold bsF
  rcases h with ⟨rfl, hno⟩ | ⟨q, hq, hC, rfl, hbest⟩
  · rw [if_pos rfl]
    refine Or.inr ⟨k, hk, Or.inr rfl, rfl, fun q' h' => ?_⟩
    rcases h' with h' | h'
    · exact absurd h' (hno q')
    · subst h'; exact Or.inr ⟨rfl, Nat.le_refl _⟩
  · have nm : ¬ nI q = -1 := fun z => by
      have := nI_pos (n := q) (by omega)
      rw [z] at this
      exact this (by decide)
    have ek := (h13 k (Or.inr rfl)).2
    have eq := (h13 q (Or.inl hC)).2
    have gk := (hG k hk).1
    have gq := (hG q hq).1
    have fk := (hG k hk).2
    have fq := (hG q hq).2
    rw [if_neg nm, nI_clamp (by omega), ek, eq, h12 q hq, h12 k hk]
    have keep : (G (f k) < G (f q) ∨ (G (f k) = G (f q) ∧ f q ≤ f k)) → bst G f n (fun q => C q ∨ q = k) (nI q) := fun g => Or.inr ⟨q, hq, Or.inl hC, rfl, fun q' h' => by
      rcases h' with h' | h'
      · exact hbest q' h'
      · subst h'; exact g⟩
    have take : (G (f q) < G (f k) ∨ (G (f q) = G (f k) ∧ f k ≤ f q)) → bst G f n (fun q => C q ∨ q = k) (nI k) := fun g => Or.inr ⟨k, hk, Or.inr rfl, rfl, fun q' h' => by
      rcases h' with h' | h'
      · have := hbest q' h'; omega
      · subst h'; exact Or.inr ⟨rfl, Nat.le_refl _⟩⟩
    by_cases c1 : nI (G (f k)) ≤ nI (G (f q))
    · rw [if_pos c1]
      have g1 : G (f k) ≤ G (f q) := by
        rcases Nat.lt_or_ge (G (f q)) (G (f k)) with d | d
        · exact absurd c1 (nI_ge d (by omega))
        · exact d
      by_cases c2 : nI (G (f k)) = nI (G (f q))
      · rw [if_pos c2]
        have g2 : G (f k) = G (f q) := (nI_eq (by omega) (by omega)).mp c2
        by_cases c3 : nI (f q) ≤ nI (f k)
        · rw [if_pos c3]
          have g3 : f q ≤ f k := by
            rcases Nat.lt_or_ge (f k) (f q) with d | d
            · exact absurd c3 (nI_ge d (by omega))
            · exact d
          exact keep (Or.inr ⟨g2, g3⟩)
        · rw [if_neg c3]
          have g3 : f k ≤ f q := by
            rcases Nat.lt_or_ge (f q) (f k) with d | d
            · exact absurd (nI_le' (by omega) (by omega)) c3
            · exact d
          exact take (Or.inr ⟨g2.symm, g3⟩)
      · rw [if_neg c2]
        refine keep (Or.inl ?_)
        have : G (f k) ≠ G (f q) := fun z => c2 (by rw [z])
        omega
    · rw [if_neg c1]
      refine take (Or.inl ?_)
      rcases Nat.lt_or_ge (G (f q)) (G (f k)) with d | d
      · exact d
      · exact absurd (nI_le' d (by omega)) c1
theorem bst.cg {f : Nat → Nat} {n : Nat} {C D : Nat → Prop} {v : Int32} (h : bst G f n C v) (e : ∀ q, C q ↔ D q) : bst G f n D v := by
  rcases h with ⟨h1, h2⟩ | ⟨q, h1, h2, h3, h4⟩
  · exact Or.inl ⟨h1, fun q hq => h2 q ((e q).mpr hq)⟩
  · exact Or.inr ⟨q, h1, (e q).mp h2, h3, fun q' h' => h4 q' ((e q').mpr h')⟩
end BEST3
