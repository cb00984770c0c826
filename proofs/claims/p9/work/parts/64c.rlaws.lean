/-! LAWS OF THE REFERENCE: ask -/
section RLAW3
variable {Γ : RG} {σ : MS} {a1 a2 a3 a4 a5 a6 : Int32}
/-- ask: what it answers, what it leaves -/
theorem law_X11_ask {lay : Nat → Nat} {post : Int32 → RY → Prop} (hW : Γ.2.2.1 ≤ 14) (hs : σ 3 2 = nI Γ.2.2.1)
    (h1 : (a1 < 0 ∨ σ 2 2 - 1 < a1) ∨ (a3 < 0 ∨ 5 < a3) → post 0 (lay, Γ, up2 (up2 σ 0 0 0) 0 0 1))
    (h2 : (a2 < σ 0 1 ∨ 365 < a2) ∨ (a4 < 10 ∨ 22 < a4) ∨ (a5 < 1 ∨ 6 < a5) ∨ 24 < a4 + a5 ∨ (a6 < 0 ∨ 65535 < a6) → post 0 (lay, Γ, up2 (up2 σ 0 0 0) 0 0 2))
    (h3 : (Γ.2.2.1 = 14 ∨ ∃ i, i < Γ.2.2.1 ∧ rFix σ a1 a2 i) → post 0 (lay, Γ, up2 (up2 σ 0 0 0) 0 0 3))
    (h4 : Γ.2.2.1 < 14 → (¬ ∃ i, i < Γ.2.2.1 ∧ rFix σ a1 a2 i) → ∀ lay', post (nI Γ.2.2.1) (lay', (Γ.1, Γ.2.1, Γ.2.2.1 + 1, Γ.2.2.2), rwS (up2 σ 0 0 0) Γ.2.2.1 a1 a2 a3 a4 a5 a6 (σ 0 1))) : w_X11_ask lay Γ post σ a1 a2 a3 a4 a5 a6 := by
  have hf : ∀ i, rFix (up2 σ 0 0 0) a1 a2 i ↔ rFix σ a1 a2 i := fun i => by
    unfold rFix
    rw [show up2 σ 0 0 0 (33 + i) = σ (33 + i) from up2_ne (by omega)]
  have hs2 : up2 σ 0 0 0 3 2 = nI Γ.2.2.1 := hs
  unfold w_X11_ask
  refine law_X11_isBand ⟨fun c => law_X11_refuse (h1 (Or.inl (rIsF_0.mp c))), fun _ => ?_⟩
  refine law_X11_isTown ⟨fun c => law_X11_refuse (h1 (Or.inr (rIsF_0.mp c))), fun _ => ?_⟩
  refine law_X11_isDay ⟨fun c => law_X11_refuse (h2 (Or.inl (rIsF_0.mp c))), fun _ => ?_⟩
  refine law_X11_is ⟨fun c => law_X11_refuse (h2 (Or.inr (Or.inl (rIsF_0.mp c)))), fun _ => ?_⟩
  refine law_X11_is ⟨fun c => law_X11_refuse (h2 (Or.inr (Or.inr (Or.inl (rIsF_0.mp c))))), fun _ => ⟨fun c => law_X11_refuse (h2 (Or.inr (Or.inr (Or.inr (Or.inl c))))), fun _ => ?_⟩⟩
  refine law_X11_areSongs ⟨fun c => law_X11_refuse (h2 (Or.inr (Or.inr (Or.inr (Or.inr (rIsF_0.mp c)))))), fun _ => ?_⟩
  unfold w_lw_Jx4a65c_size_8abf5
  rw [hs2]
  by_cases c : Γ.2.2.1 = 14
  · refine ⟨fun _ => law_X11_refuse (h3 (Or.inl c)), fun z => absurd ?_ z⟩
    rw [c]
    decide +kernel
  · have hlt : Γ.2.2.1 < 14 := by omega
    refine ⟨fun z => ?_, fun _ => ?_⟩
    · have z' : nI Γ.2.2.1 = nI 14 := z
      exact absurd ((nI_eq (by omega) (by decide)).mp z') c
    · refine law_X11_isFixed hW hs2 (fun d => ?_) (fun d => ?_)
      · refine ⟨fun _ => law_X11_refuse (h3 (Or.inr ?_)), fun z => absurd z (by decide)⟩
        obtain ⟨i, hi, hx⟩ := d
        exact ⟨i, hi, (hf i).mp hx⟩
      · refine ⟨fun z => absurd rfl z, fun _ => ⟨hlt, hs2, h4 hlt ?_⟩⟩
        rintro ⟨i, hi, hx⟩
        exact d ⟨i, hi, (hf i).mpr hx⟩
end RLAW3
