/-! THE REFERENCE IS SAFE: the songs' order, counts below a number, who is behind -/
section RSAFE8
variable {Tm : MS} {Γ : RG} {σ τ ρ : MS} {a a0 a1 a2 a3 a4 b c : Int32}
theorem mrg_self : mrg τ τ = τ := by
  funext k
  unfold mrg
  by_cases h : k < 64
  · rw [if_pos h]
  · rw [if_neg h]
noncomputable def cnt (P : Nat → Prop) : Nat → Nat
  | 0 => 0
  | n + 1 => cnt P n + @ite Nat (P n) (Classical.propDecidable (P n)) 1 0
theorem cnt_le {P : Nat → Prop} : ∀ n, cnt P n ≤ n
  | 0 => Nat.le_refl _
  | n + 1 => by
    have := cnt_le (P := P) n
    unfold cnt
    split <;> omega
theorem cnt_all {P : Nat → Prop} : ∀ n, (∀ i, i < n → P i) → cnt P n = n
  | 0, _ => rfl
  | n + 1, h => by
    have := cnt_all n (fun i hi => h i (by omega))
    unfold cnt
    rw [if_pos (h n (by omega))]
    omega
theorem cnt_mono {P Q : Nat → Prop} : ∀ n, (∀ i, i < n → P i → Q i) → cnt P n ≤ cnt Q n
  | 0, _ => Nat.le_refl _
  | n + 1, h => by
    have h1 := cnt_mono n (fun i hi => h i (by omega))
    have h2 := h n (by omega)
    unfold cnt
    by_cases p : P n
    · rw [if_pos p, if_pos (h2 p)]; omega
    · rw [if_neg p]; omega
theorem cnt_lt {P Q : Nat → Prop} : ∀ n, (∀ i, i < n → P i → Q i) → (∃ i, i < n ∧ ¬ P i ∧ Q i) → cnt P n + 1 ≤ cnt Q n
  | 0, _, h2 => by obtain ⟨i, hi, _⟩ := h2; omega
  | n + 1, h, h2 => by
    obtain ⟨i, hi, hp, hq⟩ := h2
    unfold cnt
    rcases Nat.eq_or_lt_of_le (Nat.le_of_lt_succ hi) with e | e
    · subst e
      have h1 := cnt_mono i (fun j hj => h j (by omega))
      rw [if_neg hp, if_pos hq]; omega
    · have h1 := cnt_lt n (fun j hj => h j (by omega)) ⟨i, e, hp, hq⟩
      by_cases p : P n
      · rw [if_pos p, if_pos (h n (by omega) p)]; omega
      · rw [if_neg p]; omega
theorem cnt_add {P Q : Nat → Prop} {m : Nat} : ∀ n, (∀ i, i < n → Q i → P i ∨ i = m) → cnt Q n ≤ cnt P n + 1 := by
  have key : ∀ n, (∀ i, i < n → Q i → P i ∨ i = m) → cnt Q n ≤ cnt P n + (if m < n then 1 else 0) := by
    intro n
    induction n with
    | zero => intro _; exact Nat.zero_le _
    | succ n ih =>
      intro h
      have h1 := ih (fun i hi => h i (by omega))
      have h2 := h n (by omega)
      unfold cnt
      by_cases q : Q n
      · rcases h2 q with p | p
        · rw [if_pos q, if_pos p]
          split at h1 <;> split <;> omega
        · subst p
          rw [if_pos q, if_neg (Nat.lt_irrefl n)] at *
          rw [if_pos (Nat.lt_succ_self n)]
          omega
      · rw [if_neg q]
        have h3 : (if m < n then 1 else 0) ≤ (if m < n + 1 then 1 else 0) := by split <;> split <;> omega
        exact Nat.le_trans h1 (by omega)
  intro n h
  have := key n h
  split at this <;> omega
/-- song j comes later than song i -/
def lat (ρ : MS) (i j : Nat) : Prop := ρ 8 i < ρ 8 j ∨ (ρ 8 j = ρ 8 i ∧ i < j)
theorem lat_irrefl {i : Nat} : ¬ lat ρ i i := by
  rintro (h | h)
  · rw [Int32.lt_iff_toInt_lt] at h; omega
  · omega
theorem lat_trans {i j k : Nat} (h1 : lat ρ i j) (h2 : lat ρ j k) : lat ρ i k := by
  rcases h1 with h1 | ⟨h1, h1'⟩
  · rcases h2 with h2 | ⟨h2, h2'⟩
    · left
      rw [Int32.lt_iff_toInt_lt] at *
      omega
    · left; rw [h2]; exact h1
  · rcases h2 with h2 | ⟨h2, h2'⟩
    · left; rw [← h1]; exact h2
    · right; exact ⟨by rw [h2, h1], by omega⟩
def nearV (ρ : MS) (i j : Nat) : Int32 := if 0 ≤ ρ 7 i - ρ 7 j then ρ 7 i - ρ 7 j else 0 - (ρ 7 i - ρ 7 j)
def bhP (ρ : MS) (i j : Nat) : Prop := lat ρ i j ∧ ¬ 2 < (if 12 - nearV ρ i j < nearV ρ i j then 12 - nearV ρ i j else nearV ρ i j)
theorem bhP_same {i j : Nat} (h7 : σ 7 = ρ 7) (h8 : σ 8 = ρ 8) : bhP σ i j = bhP ρ i j := by
  unfold bhP lat nearV
  rw [h7, h8]
theorem sf_bh {post : Int32 → MS → Prop} {i j : Nat} (hi : i < 16) (hj : j < 16) (e1 : a1 = nI i) (e2 : a2 = nI j) (h1 : bhP σ i j → post 1 σ) (h0 : ¬ bhP σ i j → post 0 σ) : w_X11_isBehind Γ post σ a1 a2 := by
  subst e1
  subst e2
  have ci : (nI i).toNatClampNeg = i := nI_clamp (by omega)
  have cj : (nI j).toNatClampNeg = j := nI_clamp (by omega)
  have vi : vp_in (nI i) 16 := vp_in_nI hi (by decide)
  have vj : vp_in (nI j) 16 := vp_in_nI hj (by decide)
  have f1 : lat σ i j → u_X11_isBehind_40 Γ post (nI i) (nI j) σ 1 := fun hl => by
    unfold u_X11_isBehind_40
    rw [ci, cj]
    refine ⟨vi, vj, fun c => absurd c (by decide), fun _ y7 h7 y8 h8 => ?_⟩
    subst h7
    subst h8
    exact ⟨fun c => h0 (fun z => z.2 c), fun c => h1 ⟨hl, c⟩⟩
  have f0 : ¬ lat σ i j → u_X11_isBehind_40 Γ post (nI i) (nI j) σ 0 := fun hl => by
    unfold u_X11_isBehind_40
    exact ⟨vi, vj, fun _ => h0 (fun z => hl z.1), fun c => absurd rfl c⟩
  unfold w_X11_isBehind u_X11_isBehind_35 u_X11_isBehind_39
  rw [ci, cj]
  refine ⟨vj, vi, fun c => f1 (Or.inl c), fun c => ⟨vj, vi, fun c2 => ⟨fun c3 => f0 ?_, fun c3 => f1 (Or.inr ⟨c2, ?_⟩)⟩, fun c2 => f0 ?_⟩⟩
  · rintro (z | z)
    · exact c z
    · exact nI_ge z.2 (by omega) c3
  · rcases Nat.lt_or_ge i j with d | d
    · exact d
    · exact absurd (nI_le' d (by omega)) c3
  · rintro (z | z)
    · exact c z
    · exact c2 z.1
end RSAFE8
