/-! THE REFERENCE IS SAFE: days go by -/
section RSAFE14
variable {Tm : MS} {Γ : RG} {σ τ ρ : MS} {a a0 a1 a2 a3 a4 b c : Int32}
/-- what playing leaves alone: today, the list of weddings, the weddings' states -/
def kPr (k j : Nat) : Prop := (k = 0 ∧ j ≤ 1) ∨ (k = 3 ∧ j = 0) ∨ (33 ≤ k ∧ k < 47 ∧ j = 7)
def kp (σ τ : MS) : Prop := ∀ k j, kPr k j → τ k j = σ k j
theorem kp.rfl' : kp σ σ := fun _ _ _ => rfl
theorem kp.up {k j : Nat} {v : Int32} (h : kp σ τ) (hk : ¬ kPr k j) : kp σ (up2 τ k j v) := fun k' j' hp => by
  rw [up2_at]
  · exact h k' j' hp
  · by_cases e : k' = k
    · by_cases e2 : j' = j
      · subst e; subst e2; exact absurd hp hk
      · exact Or.inr e2
    · exact Or.inl e
theorem kp.low (h : kp σ τ) (e : ∀ k, k < 64 → ρ k = τ k) : kp σ ρ := fun k j hp => by
  rw [e k (by unfold kPr at hp; omega)]
  exact h k j hp
theorem kp.rw0 {k : Nat} {f : Nat → Int32} (h : kp σ τ) (hk : 64 ≤ k) : kp σ (rw0 τ k f) := h.low (fun i hi => rw0_ne (by omega))
theorem kp.mrg (h : kp σ τ) : kp σ (mrg τ ρ) := h.low (fun i hi => mrg_lo hi)
/-- how many are fixed -/
noncomputable def cntF (Γ : RG) (τ : MS) : Nat := cnt (fun w => τ (33 + w) 7 = 1) Γ.2.2.1
theorem cntF_le {Γ : RG} {σ τ : MS} (h : ∀ w, w < Γ.2.2.1 → τ (33 + w) 7 = 1 → σ (33 + w) 7 = 1) : cntF Γ τ ≤ cntF Γ σ := cnt_mono _ h
/-- what was told, but today is T -/
def dyT (Tm : MS) (T : Nat) : MS := up2 Tm 0 1 (nI T)
theorem rOk.dy {T : Nat} (h : rOk Tm Γ σ) (e : σ 0 1 = nI T) : rOk (dyT Tm T) Γ σ := h.reT (fun k j hk => by
  unfold dyT
  by_cases z : k = 0 ∧ j = 1
  · obtain ⟨rfl, rfl⟩ := z
    rw [up2_same, ← h.2 0 1 hk]; exact e.symm
  · rw [up2_off z])
theorem rOk.setT {T S : Nat} {v : Int32} (h : rOk (dyT Tm S) Γ σ) (hT : T ≤ 365) (e : v = nI T) : rOk (dyT Tm T) Γ (up2 σ 0 1 v) := by
  have ne : ∀ k i, k ≠ 0 → up2 σ 0 1 v k i = σ k i := fun k i hk => up2_at (Or.inl hk)
  obtain ⟨⟨h1, h2, h3, h4, h5, h6, h7, h0, h8, h9⟩, ht⟩ := h
  refine ⟨⟨h1, h2, h3, by rw [ne _ _ (by omega)]; exact h4, by rw [ne _ _ (by omega)]; exact h5, by rw [ne _ _ (by omega)]; exact h6, ⟨T, hT, by rw [up2_same]; exact e⟩, fun s hs => by rw [ne _ _ (by omega)]; exact h0 s hs, fun p hp => by rw [ne _ _ (by omega)]; exact h8 p hp, fun w hw => by rw [ne _ _ (by omega), ne _ _ (by omega), ne _ _ (by omega)]; exact h9 w hw⟩, fun k j hk => ?_⟩
  unfold dyT
  by_cases z : k = 0 ∧ j = 1
  · obtain ⟨rfl, rfl⟩ := z
    rw [up2_same, up2_same]; exact e
  · rw [up2_off z, up2_off z]
    have := ht k j hk
    unfold dyT at this
    rw [up2_off z] at this
    exact this
end RSAFE14
