/-! LAWS: what is refused; fix, learn -/
theorem idx_in {a : Int32} {n : Nat} (hn : n < 2 ^ 31) (h1 : ¬ a < 0) (h2 : a < nI n) : ∃ p, p < n ∧ a = nI p := by
  obtain ⟨p, hp, rfl⟩ := nI_of h1
  exact ⟨p, (nI_ltI hp hn).mp h2, rfl⟩
theorem idx_out {a : Int32} {n : Nat} (hn : n < 2 ^ 31) (h : a < 0 ∨ ¬ a < nI n) : ∀ p, p < n → a ≠ nI p := by
  intro p hp e
  subst e
  rcases h with h | h
  · exact nI_pos (by omega) h
  · exact h (nI_lt hp hn)
abbrev xIO : String := "java/lang/IndexOutOfBoundsException"
abbrev xIA : String := "java/lang/IllegalArgumentException"
abbrev xIS : String := "java/lang/IllegalStateException"
theorem law_T_checkPlayer {post : MS → Prop} {pex : String → MS → Prop} {σ : MS} {P B W T : Nat} {a : Int32} (O : Ok σ P B W T) (h : ∀ p, p < P → a = nI p → post σ) (hx : (∀ p, p < P → a ≠ nI p) → pex xIO σ) : w_T_X7_checkPlayer post pex σ a := by
  have hP := O.hP
  unfold w_T_X7_checkPlayer u_T_X7_checkPlayer_12
  rw [O.h6]
  refine ⟨fun c => hx (idx_out (by omega) (Or.inl c)), fun c => ⟨fun d => ?_, fun d => hx (idx_out (by omega) (Or.inr d))⟩⟩
  obtain ⟨p, hp, e⟩ := idx_in (by omega) c d
  exact h p hp e
theorem law_T_checkBand {post : MS → Prop} {pex : String → MS → Prop} {σ : MS} {P B W T : Nat} {a : Int32} (O : Ok σ P B W T) (h : ∀ p, p < B → a = nI p → post σ) (hx : (∀ p, p < B → a ≠ nI p) → pex xIO σ) : w_T_X7_checkBand post pex σ a := by
  have hB := O.hB
  unfold w_T_X7_checkBand u_T_X7_checkBand_12
  rw [O.h7]
  refine ⟨fun c => hx (idx_out (by omega) (Or.inl c)), fun c => ⟨fun d => ?_, fun d => hx (idx_out (by omega) (Or.inr d))⟩⟩
  obtain ⟨p, hp, e⟩ := idx_in (by omega) c d
  exact h p hp e
theorem law_T_checkWedding {post : MS → Prop} {pex : String → MS → Prop} {σ : MS} {P B W T : Nat} {a : Int32} (O : Ok σ P B W T) (h : ∀ p, p < W → a = nI p → post σ) (hx : (∀ p, p < W → a ≠ nI p) → pex xIO σ) : w_T_X7_checkWedding post pex σ a := by
  have hW := O.hW
  unfold w_T_X7_checkWedding u_T_X7_checkWedding_12
  rw [O.h8]
  refine ⟨fun c => hx (idx_out (by omega) (Or.inl c)), fun c => ⟨fun d => ?_, fun d => hx (idx_out (by omega) (Or.inr d))⟩⟩
  obtain ⟨p, hp, e⟩ := idx_in (by omega) c d
  exact h p hp e
theorem law_T_checkSong {post : MS → Prop} {pex : String → MS → Prop} {σ : MS} {a : Int32} (h : ∀ p, p < 16 → a = nI p → post σ) (hx : (∀ p, p < 16 → a ≠ nI p) → pex xIO σ) : w_T_X7_checkSong post pex σ a := by
  unfold w_T_X7_checkSong u_T_X7_checkSong_10
  refine ⟨fun c => hx (idx_out (by omega) (Or.inl c)), fun c => ⟨fun d => ?_, fun d => hx (idx_out (n := 16) (by omega) (Or.inr d))⟩⟩
  obtain ⟨p, hp, e⟩ := idx_in (n := 16) (by omega) c d
  exact h p hp e
theorem law_T_checkTown {post : MS → Prop} {pex : String → MS → Prop} {σ : MS} {a : Int32} (h : ∀ p, p < 6 → a = nI p → post σ) (hx : (∀ p, p < 6 → a ≠ nI p) → pex xIO σ) : w_T_X7_checkTown post pex σ a := by
  unfold w_T_X7_checkTown
  refine law_isTown ⟨fun c => ?_, fun c => ?_⟩
  · have d := of_decide_eq_false (b01_0.mp c)
    refine hx fun p hp e => d ?_
    subst e
    exact ⟨nI_pos' (by omega), nI_lt (b := 6) hp (by decide)⟩
  · have d := of_decide_eq_true (b01_1.mp c)
    obtain ⟨p, hp, e⟩ := idx_in (n := 6) (by omega) (Int32.not_lt.mpr d.1) d.2
    exact h p hp e
theorem law_T_checkDayToCome {post : MS → Prop} {pex : String → MS → Prop} {σ : MS} {P B W T : Nat} {a : Int32} (O : Ok σ P B W T) (h : ∀ d, T ≤ d → d ≤ 365 → a = nI d → post σ) (hx : (∀ d, T ≤ d → d ≤ 365 → a ≠ nI d) → pex xIA σ) : w_T_X7_checkDayToCome post pex σ a := by
  have hT := O.hT
  unfold w_T_X7_checkDayToCome u_T_X7_checkDayToCome_15
  rw [O.h9]
  refine ⟨fun c => hx fun d h1 h2 e => ?_, fun c => ⟨fun d => ?_, fun d => hx fun k h1 h2 e => ?_⟩⟩
  · subst e
    exact nI_nlt h1 (by omega) c
  · have h0 : ¬ a < 0 := fun q => c (Int32.lt_of_lt_of_le q (nI_pos' (by omega)))
    obtain ⟨k, hk, e⟩ := nI_of h0
    subst e
    refine h k ?_ ?_ rfl
    · exact Nat.le_of_not_lt fun q => c (nI_lt q (by omega))
    · exact (nI_leI hk (by decide)).mp (show nI k ≤ nI 365 from d)
  · subst e
    exact d (show nI k ≤ nI 365 from nI_le h2 (by decide))
/-- the state that fix leaves -/
def fixS (σ : MS) (w P W : Nat) : MS :=
  let z := loseQ (snF σ w P W) w W
  let z1 := up2 (up2 z (73 + w) 7 1) (73 + w) 8 (z 9 0)
  paidF (up2 z1 (73 + w) 9 (priceI (z 9 1))) w (priceI (z 9 1) / 5)
theorem loseQ_k {σ : MS} {a n k : Nat} (h : k < 73) : loseQ σ a n k = σ k := by
  funext j
  exact if_neg (by omega)
theorem law_T_fix {post : Int32 → MS → Prop} {pex : String → MS → Prop} {σ : MS} {P B W T : Nat} {a : Int32} (O : Ok σ P B W T)
    (hx : (∀ w, w < W → a ≠ nI w) → pex xIO σ)
    (hq : ∀ w, w < W → a = nI w → isFst σ w = false → pex xIS σ)
    (hf : ∀ w, w < W → a = nI w → isFst σ w = true → snF σ w P W 9 3 = 0 → pex xIS (snF σ w P W))
    (h : ∀ w, w < W → a = nI w → isFst σ w = true → ¬ snF σ w P W 9 3 = 0 → post (fixS σ w P W (73 + w) 9) (fixS σ w P W)) : w_T_X7_fix post pex σ a := by
  have hW := O.hW
  unfold w_T_X7_fix
  refine law_T_checkWedding O (fun w hw e => ?_) hx
  subst e
  have hq := hq w hw rfl
  have hf := hf w hw rfl
  have h := h w hw rfl
  rw [nI_clamp (by omega)]
  refine law_isFirst (by omega) ⟨fun c => hq (b01_0.mp c), fun c => law_surveyNow O (by omega) ⟨fun d => hf (b01_1.mp c) d, fun d => ?_⟩⟩
  have h := h (b01_1.mp c) d
  have Oy := O.scr (Scr.sn σ w P W)
  unfold fixS at h
  dsimp only at h
  generalize snF σ w P W = y at h Oy ⊢
  refine law_loseQueueOf Oy.h8 hW (by omega) ⟨vp_in_nI (by omega) (by decide), ?_⟩
  generalize loseQ y w W = z at h ⊢
  have e1 : up2 z (73 + w) 7 1 9 = z 9 := up2_ne (by omega)
  have e2 : ∀ v, up2 (up2 z (73 + w) 7 1) (73 + w) 8 v 9 = z 9 := fun v => (up2_ne (by omega)).trans e1
  rw [e1, e2]
  have e3 : ∀ (s : MS) (v : Int32), up2 s (73 + w) 9 v (73 + w) 9 = v := fun s v => by rw [up2_eq]; exact if_pos rfl
  unfold w_X7_priceOf
  refine law_getPaid ?_
  rw [e3]
  exact h
theorem law_T_learn {post : Int32 → MS → Prop} {pex : String → MS → Prop} {σ : MS} {P B W T : Nat} {a s : Int32} (O : Ok σ P B W T)
    (hx : (∀ p, p < P → a ≠ nI p) → pex xIO σ)
    (hq : ∀ p, p < P → a = nI p → ¬ (0 ≤ s ∧ s < 65536) → pex xIA σ)
    (h : ∀ p, p < P → a = nI p → 0 ≤ s ∧ s < 65536 → post (bcI (σ (29 + p) 1 ||| s)) (up2 σ (29 + p) 1 (σ (29 + p) 1 ||| s))) : w_T_X7_learn post pex σ a s := by
  have hP := O.hP
  unfold w_T_X7_learn
  refine law_T_checkPlayer O (fun p hp e => ?_) hx
  subst e
  have hq := hq p hp rfl
  have h := h p hp rfl
  rw [nI_clamp (by omega)]
  refine law_isSetOfSongs ⟨fun c => hq (of_decide_eq_false (b01_0.mp c)), fun c => ⟨vp_in_nI (by omega) (by decide), vp_in_nI (by omega) (by decide), law_bitCount ?_⟩⟩
  have e3 : up2 σ (29 + p) 1 (σ (29 + p) 1 ||| s) (29 + p) 1 = σ (29 + p) 1 ||| s := by rw [up2_eq]; exact if_pos rfl
  rw [e3]
  exact h (of_decide_eq_true (b01_1.mp c))
