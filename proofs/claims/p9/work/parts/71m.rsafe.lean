/-! THE REFERENCE IS SAFE: the digest -/
section RSAFE13
variable {Tm : MS} {Γ : RG} {σ τ ρ : MS} {a a0 a1 a2 a3 a4 b c : Int32}
theorem rk_loop (U : Nat → MS → Int32 → Prop) (n N : Nat) (hN : n + 1 ≤ N) (hz : ∀ τ, rOk Tm Γ τ → U 1 τ (nI n)) (hs : ∀ j k τ, j < n → rOk Tm Γ τ → (∀ τ', rOk Tm Γ τ' → U k τ' (nI j + 1)) → U (k + 1) τ (nI j)) (O : rOk Tm Γ τ) : ∃ k, k ≤ N ∧ U k τ 0 := by
  have := inv_loop_b (fun k (q : MS × Int32) => U k q.1 q.2) (fun j q => rOk Tm Γ q.1 ∧ q.2 = nI j) n N hN (by rintro ⟨τ, v⟩ ⟨O, rfl⟩; exact hz τ O) (by
    rintro j k ⟨τ, v⟩ hj ⟨O, rfl⟩ ih
    exact hs j k τ hj O (fun τ' O' => by rw [nI_1]; exact ih (τ', nI (j + 1)) ⟨O', rfl⟩)) (τ, 0) ⟨O, nI_0.symm⟩
  exact this
theorem rk_loop' (U : Nat → MS → Int32 → Prop) (n : Nat) (hz : ∀ τ, rOk Tm Γ τ → U 1 τ (nI n)) (hs : ∀ j k τ, j < n → rOk Tm Γ τ → (∀ τ', rOk Tm Γ τ' → U k τ' (nI j + 1)) → U (k + 1) τ (nI j)) (O : rOk Tm Γ τ) : ∃ k, U k τ 0 := by
  obtain ⟨k, _, h⟩ := rk_loop U n (n + 1) (Nat.le_refl _) hz hs O
  exact ⟨k, h⟩
theorem sf_add {post : MS → Prop} {x : Int64} (O : rOk Tm Γ σ) (h : ∀ τ, rOk Tm Γ τ → post τ) : w_X11_add Γ post σ x := h _ ((O.up (by unfold rPr; omega)).up (by unfold rPr; omega))
theorem sf_digest {post : Int64 → MS → Prop} (O : rOk Tm Γ σ) (h : ∀ r τ, rOk Tm Γ τ → post r τ) : w_X11_digest Γ post σ := by
  have hP := O.hP
  have hB := O.hB
  have hW := O.hW
  have d316 : ∀ τ t0, rOk Tm Γ τ → u_X11_digest_316 Γ post τ t0 := fun τ t0 O => by
    unfold u_X11_digest_316
    exact sf_add O (fun τ' O' => h _ _ O')
  have d165 : ∀ τ, rOk Tm Γ τ → ∃ k, k ≤ 15 ∧ u_X11_digest_165 Γ post k τ 0 := fun τ O => by
    refine rk_loop (fun k τ v => u_X11_digest_165 Γ post k τ v) Γ.2.2.1 15 (by omega) (fun τ O => ?_) (fun j k τ hj O ih => ?_) O
    · unfold u_X11_digest_165 w_lw_Jx4a65c_size_8abf5 w_lp_Jx4a65c_size_8abf5
      rw [O.w]
      exact ⟨fun _ => sf_minutesOf O (fun r τ O => sf_add O (fun τ O => sf_driveOf ⟨0, by decide, nI_0.symm⟩ ⟨5, by decide, rfl⟩ (fun r => sf_add O (fun τ O => sf_isSoundNow O (fun r τ _ O => ⟨fun _ => d316 _ _ O, fun _ => d316 _ _ O⟩))))), fun c => absurd (le_self _) c⟩
    · unfold u_X11_digest_165 w_lw_Jx4a65c_size_8abf5
      rw [O.w]
      refine ⟨fun c => absurd c (nI_ge hj (by omega)), fun _ => ?_⟩
      have d242 : ∀ τ, rOk Tm Γ τ → u_X11_digest_242 Γ post (fun σ w0 => u_X11_digest_165 Γ post k σ w0) τ (nI j) := fun τ O => by
        unfold u_X11_digest_242
        exact sf_wget O hj rfl ⟨⟨by omega, hj⟩, sf_bestSet O (fun len f τ' O' _ _ => sf_add (O'.mrg.rw0 (by decide)) (fun τ2 O2 => ih _ O2.mrg))⟩
      refine rk_loop' (fun m τ v => u_X11_digest_178 Γ post (fun σ w0 => u_X11_digest_165 Γ post k σ w0) m τ (nI j) v) 13 (fun τ O => ?_) (fun i m τ hi O ih2 => ?_) O
      · unfold u_X11_digest_178
        refine ⟨fun _ => ?_, fun c => absurd (le_self (nI 13)) c⟩
        refine rk_loop' (fun m τ v => u_X11_digest_203 Γ post (fun σ w0 => u_X11_digest_165 Γ post k σ w0) m τ (nI j) v) 4 (fun τ O => ?_) (fun i m τ hi O ih3 => ?_) O
        · unfold u_X11_digest_203
          exact ⟨fun _ => d242 _ O, fun c => absurd (le_self (nI 4)) c⟩
        · unfold u_X11_digest_203
          exact ⟨fun _ => d242 _ O, fun _ => sf_wget O hj rfl ⟨⟨by omega, hj⟩, fun _ => sf_fillingNow O hj rfl (fun r => sf_add O ih3), fun _ => d242 _ O⟩⟩
      · unfold u_X11_digest_178
        exact ⟨fun c => absurd (show nI 13 ≤ nI i from c) (nI_ge hi (by decide)), fun _ => sf_ofWeddingNow O hj rfl (fun r => sf_add O ih2)⟩
  have d121 : ∀ τ, rOk Tm Γ τ → ∃ k, u_X11_digest_121 Γ post k τ 0 := fun τ O => by
    refine rk_loop' (fun k τ v => u_X11_digest_121 Γ post k τ v) Γ.2.1 (fun τ O => ?_) (fun j k τ hj O ih => ?_) O
    · unfold u_X11_digest_121 w_lb_Jx4a65c_size_8abf5
      rw [O.b]
      exact ⟨fun _ => d165 _ O, fun c => absurd (le_self _) c⟩
    · unfold u_X11_digest_121 w_lb_Jx4a65c_size_8abf5
      rw [O.b]
      refine ⟨fun c => absurd c (nI_ge hj (by omega)), fun _ => ?_⟩
      refine rk_loop' (fun m τ v => u_X11_digest_134 Γ post (fun σ w0 => u_X11_digest_121 Γ post k σ w0) m τ (nI j) v) 9 (fun τ O => ?_) (fun i m τ hi O ih2 => ?_) O
      · unfold u_X11_digest_134
        exact ⟨fun _ => ih _ O, fun c => absurd (le_self (nI 9)) c⟩
      · unfold u_X11_digest_134
        exact ⟨fun c => absurd (show nI 9 ≤ nI i from c) (nI_ge hi (by decide)), fun _ => sf_ofBandNow O hj rfl (show i ≤ 8 by omega) rfl (fun r => sf_add O ih2)⟩
  have d82 : ∀ τ, rOk Tm Γ τ → ∃ k, u_X11_digest_82 Γ post k τ 0 := fun τ O => by
    refine rk_loop' (fun k τ v => u_X11_digest_82 Γ post k τ v) 16 (fun τ O => ?_) (fun j k τ hj O ih => ?_) O
    · unfold u_X11_digest_82
      exact ⟨fun _ => d121 _ O, fun c => absurd (le_self (nI 16)) c⟩
    · unfold u_X11_digest_82
      refine ⟨fun c => absurd (show nI 16 ≤ nI j from c) (nI_ge hj (by decide)), fun _ => ?_⟩
      refine rk_loop' (fun m τ v => u_X11_digest_90 Γ post (fun σ w0 => u_X11_digest_82 Γ post k σ w0) m τ (nI j) v) 6 (fun τ O => ?_) (fun i m τ hi O ih2 => ?_) O
      · unfold u_X11_digest_90
        exact ⟨fun _ => ih _ O, fun c => absurd (le_self (nI 6)) c⟩
      · unfold u_X11_digest_90
        exact ⟨fun c => absurd (show nI 6 ≤ nI i from c) (nI_ge hi (by decide)), fun _ => sf_ofSongNow O (vp_in_nI hj (by decide)) (fun r => sf_add O ih2)⟩
  have d38 : ∀ τ, rOk Tm Γ τ → ∃ k, k ≤ 11 ∧ u_X11_digest_38 Γ post k τ 0 := fun τ O => by
    refine rk_loop (fun k τ v => u_X11_digest_38 Γ post k τ v) Γ.1 11 (by omega) (fun τ O => ?_) (fun j k τ hj O ih => ?_) O
    · unfold u_X11_digest_38 w_lp_Jx4a65c_size_8abf5
      rw [O.p]
      exact ⟨fun _ => d82 _ O, fun c => absurd (le_self _) c⟩
    · unfold u_X11_digest_38 w_lp_Jx4a65c_size_8abf5
      rw [O.p]
      refine ⟨fun c => absurd c (nI_ge hj (by omega)), fun _ => ?_⟩
      refine rk_loop (fun m τ v => u_X11_digest_51 Γ post (fun σ w0 => u_X11_digest_38 Γ post k σ w0) m τ (nI j) v) 9 10 (by omega) (fun τ O => ?_) (fun i m τ hi O ih2 => ?_) O
      · unfold u_X11_digest_51
        exact ⟨fun _ => ih _ O, fun c => absurd (le_self (nI 9)) c⟩
      · unfold u_X11_digest_51
        exact ⟨fun c => absurd (show nI 9 ≤ nI i from c) (nI_ge hi (by decide)), fun _ => sf_ofPlayerNow O hj rfl (show i ≤ 8 by omega) rfl (fun r τ' O' => sf_add O' ih2)⟩
  unfold w_X11_digest
  refine rk_loop (fun k τ v => u_X11_digest_14 Γ post k τ v) 13 14 (by omega) (fun τ O => ?_) (fun j k τ hj O ih => ?_) (((O.up (by unfold rPr; omega)).up (by unfold rPr; omega)).up (by unfold rPr; omega))
  · unfold u_X11_digest_14
    exact ⟨fun _ => d38 _ O, fun c => absurd (le_self (nI 13)) c⟩
  · unfold u_X11_digest_14
    exact ⟨fun c => absurd (show nI 13 ≤ nI j from c) (nI_ge hj (by decide)), fun _ => sf_deskNow O (fun r τ' O' => sf_add O' ih)⟩
end RSAFE13
