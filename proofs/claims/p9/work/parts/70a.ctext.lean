/-! LAWS of the class: tell, songs -/
theorem vp_nI {x : Int32} {N : Nat} (h : vp_in x N) (hN : N ≤ 1000) : ∃ n, n < N ∧ n < 1000 ∧ x = nI n := by
  obtain ⟨n, hn, e⟩ := nI_of (fun c => h (Or.inl c))
  have := vlt h
  rw [e, nI_clamp hn] at this
  exact ⟨n, this, by omega, e⟩
theorem law_T_tell {post : MS → Prop} {pex : String → MS → Prop} {σ : MS} {P B W T : Nat} {a : Int32} (O : Ok σ P B W T) (hx : (∀ w, w < W → a ≠ nI w) → pex xIO σ) (h : ∀ w, w < W → a = nI w → post σ) : w_T_X7_tell post pex σ a := by
  have hW := O.hW
  unfold w_T_X7_tell
  refine law_T_checkWedding O (fun w hw e => ?_) hx
  obtain ⟨d, _, hd, ed⟩ := vp_nI (O.day w (by omega)) (by decide)
  obtain ⟨t, _, ht, et⟩ := vp_nI (O.town w (by omega)) (by decide)
  exact ⟨w, d, t, P, by omega, e, hd, ed, ht, et, O.hP, O.h6, h w hw e⟩
theorem law_T_songs {post : MS → Prop} {pex : String → MS → Prop} {σ : MS} {P B W T : Nat} {a : Int32} (O : Ok σ P B W T) (hx : (∀ w, w < W → a ≠ nI w) → pex xIO σ) (h : ∀ w, w < W → a = nI w → post (setS σ (σ (73 + w) 8) P)) : w_T_X7_songs post pex σ a := by
  have hW := O.hW
  unfold w_T_X7_songs
  refine law_T_checkWedding O (fun w hw e => ?_) hx
  refine ⟨w, by omega, e, law_playableFor O.h6 O.hP (law_choose ?_)⟩
  obtain ⟨l, hl, e1, e2⟩ := cho_row σ (playF σ (σ (73 + w) 8) P)
  refine ⟨l, hl, e1, fun j hj => ?_, h w hw e⟩
  obtain ⟨v, _, hv, ev⟩ := vp_nI (e2 j hj) (by decide)
  exact ⟨v, hv, ev⟩
