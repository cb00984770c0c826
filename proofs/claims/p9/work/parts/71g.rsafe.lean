/-! THE REFERENCE IS SAFE: fixing a wedding, trying some, the plan of a day -/
section RSAFE7
variable {Tm : MS} {Γ : RG} {σ τ : MS} {a a0 a1 a2 a3 a4 b c : Int32}
/-- the walk over the weddings is at number j -/
def itI (Tm : MS) (Γ : RG) (j : Nat) (τ : MS) : Prop := rOk Tm Γ τ ∧ τ 64 0 = nI j ∧ τ 64 2 = τ 3 0
theorem itI.next {j : Nat} (h : itI Tm Γ j τ) : itI Tm Γ (j + 1) (up2 (up2 τ 64 0 (nI (j + 1))) 64 1 (nI j)) := by
  obtain ⟨O, h1, h2⟩ := h
  refine ⟨(O.up (by unfold rPr; omega)).up (by unfold rPr; omega), ?_, ?_⟩
  · rw [up2_at (Or.inr (by decide)), up2_same]
  · rw [up2_at (Or.inr (by decide)), up2_at (Or.inr (by decide)), up2_at (Or.inl (by decide)), up2_at (Or.inl (by decide))]; exact h2
theorem itI.up {j k i : Nat} {v : Int32} (h : itI Tm Γ j τ) (hp : ¬ rPr k i) (h3 : k ≠ 3) (h64 : k ≠ 64) : itI Tm Γ j (up2 τ k i v) := by
  obtain ⟨O, h1, h2⟩ := h
  refine ⟨O.up hp, ?_, ?_⟩
  · rw [up2_at (Or.inl (Ne.symm h64))]; exact h1
  · rw [up2_at (Or.inl (Ne.symm h64)), up2_at (Or.inl (Ne.symm h3))]; exact h2
theorem itI.start (O : rOk Tm Γ τ) : itI Tm Γ 0 (rw0 τ 64 (itR (τ 3 0))) := by
  refine ⟨O.rw0 (by decide), ?_, ?_⟩
  · rw [rw0_eq]; rfl
  · rw [rw0_eq, rw0_ne (by decide)]; rfl
theorem itI.fin (h : itI Tm Γ Γ.2.2.1 τ) : b01 (!decide (τ 64 0 = τ 3 2)) = 0 := by
  rw [h.2.1, h.1.w, decide_eq_true rfl]; rfl
theorem itI.go {j : Nat} (h : itI Tm Γ j τ) (hj : j < Γ.2.2.1) : ¬ b01 (!decide (τ 64 0 = τ 3 2)) = 0 := by
  have hW := h.1.hW
  have ne : ¬ nI j = nI Γ.2.2.1 := fun e => absurd (show nI Γ.2.2.1 ≤ nI j by rw [e]; exact le_self _) (nI_ge hj (by omega))
  rw [h.2.1, h.1.w, decide_eq_false ne]
  decide
end RSAFE7
