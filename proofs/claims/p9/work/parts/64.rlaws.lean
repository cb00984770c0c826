/-! LAWS OF THE REFERENCE: the checks -/
def rIsF (a lo hi : Int32) : Int32 := if a < lo ∨ hi < a then 0 else 1
theorem rIsF_nar {a lo hi : Int32} : narrow .boolean (.int (rIsF a lo hi)) = .int (rIsF a lo hi) := by
  unfold rIsF
  by_cases c : a < lo ∨ hi < a
  · rw [if_pos c]; rfl
  · rw [if_neg c]; rfl
theorem rIsF_0 {a lo hi : Int32} : rIsF a lo hi = 0 ↔ (a < lo ∨ hi < a) := by
  unfold rIsF
  by_cases c : a < lo ∨ hi < a
  · rw [if_pos c]; exact ⟨fun _ => c, fun _ => rfl⟩
  · rw [if_neg c]; exact ⟨fun z => absurd z (by decide), fun z => absurd z c⟩
section RLAW
variable {Γ : RG} {σ : MS} {post : Int32 → MS → Prop} {a a0 a1 a2 : Int32}
theorem law_X11_is (h : post (rIsF a0 a1 a2) σ) : w_X11_is Γ post σ a0 a1 a2 := by
  unfold w_X11_is
  refine ⟨fun c => ?_, fun c => ⟨fun d => ?_, fun d => ?_⟩⟩
  · rw [show rIsF a0 a1 a2 = 0 from if_pos (Or.inl c)] at h; exact h
  · rw [show rIsF a0 a1 a2 = 0 from if_pos (Or.inr d)] at h; exact h
  · rw [show rIsF a0 a1 a2 = 1 from if_neg (fun z => z.elim c d)] at h; exact h
theorem law_X11_isTown (h : post (rIsF a 0 5) σ) : w_X11_isTown Γ post σ a := by
  unfold w_X11_isTown
  exact law_X11_is ⟨rIsF_nar, h⟩
theorem law_X11_areSongs (h : post (rIsF a 0 65535) σ) : w_X11_areSongs Γ post σ a := by
  unfold w_X11_areSongs
  exact law_X11_is ⟨rIsF_nar, h⟩
theorem law_X11_isDay (h : post (rIsF a (σ 0 1) 365) σ) : w_X11_isDay Γ post σ a := by
  unfold w_X11_isDay
  exact law_X11_is ⟨rIsF_nar, h⟩
theorem law_X11_isPlayer (h : post (rIsF a 0 (σ 1 2 - 1)) σ) : w_X11_isPlayer Γ post σ a := by
  unfold w_X11_isPlayer w_lp_Jx4a65c_size_8abf5
  exact law_X11_is ⟨rIsF_nar, h⟩
theorem law_X11_isBand (h : post (rIsF a 0 (σ 2 2 - 1)) σ) : w_X11_isBand Γ post σ a := by
  unfold w_X11_isBand w_lb_Jx4a65c_size_8abf5
  exact law_X11_is ⟨rIsF_nar, h⟩
theorem law_X11_isWedding (h : post (rIsF a 0 (σ 3 2 - 1)) σ) : w_X11_isWedding Γ post σ a := by
  unfold w_X11_isWedding w_lw_Jx4a65c_size_8abf5
  exact law_X11_is ⟨rIsF_nar, h⟩
theorem law_X11_refuse (h : post 0 (up2 σ 0 0 a)) : w_X11_refuse Γ post σ a := by
  unfold w_X11_refuse
  exact h
theorem law_X11_thrown (h : post (σ 0 0) σ) : w_X11_thrown Γ post σ := by
  unfold w_X11_thrown
  exact h
/-- player: what it answers, what it leaves -/
theorem law_X11_player {lay : Nat → Nat} {post : Int32 → RY → Prop} {a3 a4 : Int32} (hP : Γ.1 ≤ 10) (hn : σ 1 2 = nI Γ.1)
    (h1 : (a3 < 0 ∨ 5 < a3) → post 0 (lay, Γ, up2 (up2 σ 0 0 0) 0 0 1))
    (h2 : (a1 < 1 ∨ 63 < a1) ∨ (a2 < 0 ∨ 65535 < a2) ∨ (a4 < 1 ∨ 99 < a4) → post 0 (lay, Γ, up2 (up2 σ 0 0 0) 0 0 2))
    (h3 : Γ.1 = 10 → post 0 (lay, Γ, up2 (up2 σ 0 0 0) 0 0 3))
    (h4 : Γ.1 < 10 → ∀ lay', post (nI Γ.1) (lay', (Γ.1 + 1, Γ.2), rpS (up2 σ 0 0 0) Γ.1 a1 a2 a3 a4)) : w_X11_player lay Γ post σ a1 a2 a3 a4 := by
  unfold w_X11_player
  refine law_X11_is ⟨fun c => law_X11_refuse (h1 (rIsF_0.mp c)), fun _ => ?_⟩
  refine law_X11_is ⟨fun c => law_X11_refuse (h2 (Or.inl (rIsF_0.mp c))), fun _ => ?_⟩
  refine law_X11_areSongs ⟨fun c => law_X11_refuse (h2 (Or.inr (Or.inl (rIsF_0.mp c)))), fun _ => ?_⟩
  refine law_X11_is ⟨fun c => law_X11_refuse (h2 (Or.inr (Or.inr (rIsF_0.mp c)))), fun _ => ?_⟩
  unfold w_lp_Jx4a65c_size_8abf5
  have e : up2 σ 0 0 0 1 2 = nI Γ.1 := hn
  rw [e]
  by_cases c : Γ.1 = 10
  · refine ⟨fun _ => law_X11_refuse (h3 c), fun z => absurd ?_ z⟩
    rw [c]
    decide +kernel
  · have hlt : Γ.1 < 10 := by omega
    refine ⟨fun z => ?_, fun _ => ⟨hlt, hn, h4 hlt⟩⟩
    have z' : nI Γ.1 = nI 10 := z
    exact absurd ((nI_eq (by omega) (by decide)).mp z') c
end RLAW
