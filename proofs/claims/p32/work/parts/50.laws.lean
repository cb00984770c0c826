/-! LAWS: how many bits; plan -/
theorem bc_1 : ∀ i, i < 14 → bcI (one i) = 1 := by decide +kernel
theorem bc_2 : ∀ i, i < 14 → ∀ j, j < 14 → i < j → bcI (one i ||| one j) = 2 := by decide +kernel
theorem bc_3 : ∀ i, i < 14 → ∀ j, j < 14 → i < j → ∀ k, k < 14 → j < k → bcI (one i ||| one j ||| one k) = 3 := by decide +kernel
theorem shl14 : ∀ n, n ≤ 14 → (1 : Int32) <<< (nI n &&& 31) = nI (2 ^ n) := by decide +kernel
/-- three at most, of the first n -/
def few (n : Nat) (v : Int32) : Prop := v = 0 ∨ (∃ i, i < n ∧ v = one i) ∨ (∃ i j, i < j ∧ j < n ∧ v = (one i ||| one j)) ∨ (∃ i j k, i < j ∧ j < k ∧ k < n ∧ v = (one i ||| one j ||| one k))
theorem few_bc {n : Nat} {v : Int32} (hn : n ≤ 14) (h : few n v) : ∃ c, c ≤ 3 ∧ bcI v = nI c := by
  rcases h with rfl | ⟨i, h1, rfl⟩ | ⟨i, j, h1, h2, rfl⟩ | ⟨i, j, k, h1, h2, h3, rfl⟩
  · exact ⟨0, by decide, by decide +kernel⟩
  · exact ⟨1, by decide, bc_1 i (by omega)⟩
  · exact ⟨2, by decide, bc_2 i (by omega) j (by omega) h1⟩
  · exact ⟨3, by decide, bc_3 i (by omega) j (by omega) h1 k (by omega) h2⟩
theorem few_up {n : Nat} {v : Int32} (h : few n v) : few (n + 1) v := by
  rcases h with rfl | ⟨i, h1, rfl⟩ | ⟨i, j, h1, h2, rfl⟩ | ⟨i, j, k, h1, h2, h3, rfl⟩
  · exact Or.inl rfl
  · exact Or.inr (Or.inl ⟨i, by omega, rfl⟩)
  · exact Or.inr (Or.inr (Or.inl ⟨i, j, h1, by omega, rfl⟩))
  · exact Or.inr (Or.inr (Or.inr ⟨i, j, k, h1, h2, by omega, rfl⟩))
theorem few_add {n : Nat} {v : Int32} (hn : n < 14) (h : few n v) (hb : ¬ 3 ≤ bcI v) : few (n + 1) (v ||| one n) := by
  rcases h with rfl | ⟨i, h1, rfl⟩ | ⟨i, j, h1, h2, rfl⟩ | ⟨i, j, k, h1, h2, h3, rfl⟩
  · exact Or.inr (Or.inl ⟨n, by omega, Int32.zero_or⟩)
  · exact Or.inr (Or.inr (Or.inl ⟨i, n, h1, by omega, rfl⟩))
  · exact Or.inr (Or.inr (Or.inr ⟨i, j, n, h1, h2, by omega, rfl⟩))
  · exact absurd (by rw [bc_3 i (by omega) j (by omega) h1 k (by omega) h2]; decide) hb
theorem fst_n (σ : MS) (day : Int32) : ∀ n, n ≤ 14 → few n (fstF σ day n)
  | 0, _ => Or.inl rfl
  | n + 1, h => by
    have ih := fst_n σ day n (by omega)
    unfold fstF
    split
    · rename_i c
      exact few_add (by omega) ih c.2.2
    · exact few_up ih
theorem fst_bc (σ : MS) (day : Int32) {n : Nat} (h : n ≤ 14) : ∃ c, c ≤ 14 ∧ bcI (fstF σ day n) = nI c := by
  obtain ⟨c, h1, h2⟩ := few_bc h (fst_n σ day n h)
  exact ⟨c, by omega, h2⟩
/-- the plan, of the first places: the state, the best ones, their prices -/
def plS (σ : MS) (P W : Nat) (cand : Int32) : Nat → MS × Int32 × Int32
  | 0 => (σ, 0, 0)
  | n + 1 =>
    let r := saR (saS (plS σ P W cand n).1 P W (memS cand (nI (n + 1)) 14).1 W)
    if r.1 ≤ (plS σ P W cand n).2.2 then (r.2, (plS σ P W cand n).2.1, (plS σ P W cand n).2.2) else (r.2, (memS cand (nI (n + 1)) 14).1, r.1)
theorem scr_saR (σ : MS) (P W : Nat) (ch : Int32) (n : Nat) : Scr σ (saR (saS σ P W ch n)).2 := by
  have h := Scr.sa σ P W ch n
  unfold saR
  generalize saS σ P W ch n = y at h ⊢
  cases e : y.1 with
  | none => exact h.1
  | some z => exact h.2 z e
theorem Scr.pl (σ : MS) (P W : Nat) (cand : Int32) : ∀ n, Scr σ (plS σ P W cand n).1
  | 0 => Scr.rf σ
  | n + 1 => by
    have ih := Scr.pl σ P W cand n
    unfold plS
    dsimp only
    split
    · exact ih.tr (scr_saR _ _ _ _ _)
    · exact ih.tr (scr_saR _ _ _ _ _)
def plF (σ : MS) (P W : Nat) (day : Int32) : MS × Int32 × Int32 := plS σ P W (fstF σ day W) (2 ^ (bcI (fstF σ day W)).toNatClampNeg - 1)
