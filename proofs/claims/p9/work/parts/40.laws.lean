/-! LAWS: what keeps Ok; player, song, late, cancel, ask, feud -/
theorem up2_at {σ : MS} {k j k' j' : Nat} {v : Int32} (h : k' ≠ k ∨ j' ≠ j) : up2 σ k j v k' j' = σ k' j' := by
  by_cases hk : k' = k
  · subst hk
    rw [up2_eq]
    exact if_neg (fun q => h.elim (fun z => z rfl) (fun z => z q))
  · rw [up2_ne hk]
theorem up2_same {σ : MS} {k j : Nat} {v : Int32} : up2 σ k j v k j = v := by
  rw [up2_eq]
  exact if_pos rfl
/-- the places that Ok looks at -/
def okPl (k j : Nat) : Prop := (k = 0 ∧ 6 ≤ j ∧ j ≤ 9) ∨ (29 ≤ k ∧ k < 39 ∧ j = 2) ∨ (73 ≤ k ∧ k < 87 ∧ j ≤ 2) ∨ (55 ≤ k ∧ k < 61 ∧ j = 2) ∨ (67 ≤ k ∧ k < 73)
theorem Ok.same {σ σ' : MS} {P B W T : Nat} (O : Ok σ P B W T) (h : ∀ k j, okPl k j → σ' k j = σ k j) : Ok σ' P B W T :=
  ⟨(h 0 6 (Or.inl ⟨rfl, by decide, by decide⟩)).trans O.h6, O.hP, (h 0 7 (Or.inl ⟨rfl, by decide, by decide⟩)).trans O.h7, O.hB, (h 0 8 (Or.inl ⟨rfl, by decide, by decide⟩)).trans O.h8, O.hW, (h 0 9 (Or.inl ⟨rfl, by decide, by decide⟩)).trans O.h9, O.hT,
   fun p hp => by rw [h (29 + p) 2 (by unfold okPl; omega)]; exact O.home p hp,
   fun w hw => by rw [h (73 + w) 0 (by unfold okPl; omega)]; exact O.band w hw,
   fun w hw => by rw [h (73 + w) 1 (by unfold okPl; omega)]; exact O.day w hw,
   fun w hw => by rw [h (73 + w) 2 (by unfold okPl; omega)]; exact O.town w hw,
   fun b hb => by rw [h (55 + b) 2 (by unfold okPl; omega)]; exact O.size b hb,
   fun b j hb hj => by rw [h (67 + b) j (by unfold okPl; omega)]; exact O.place b j hb hj⟩
theorem Ok.up {σ : MS} {P B W T k j : Nat} {v : Int32} (O : Ok σ P B W T) (h : ¬ okPl k j) : Ok (up2 σ k j v) P B W T :=
  O.same fun k' j' h' => up2_at (Classical.byContradiction fun q => h (by
    have h1 : k' = k := Classical.byContradiction fun z => q (Or.inl z)
    have h2 : j' = j := Classical.byContradiction fun z => q (Or.inr z)
    rw [← h1, ← h2]; exact h'))
theorem Ok.paid {σ : MS} {P B W T w : Nat} {a : Int32} (O : Ok σ P B W T) (hw : w < 14) : Ok (paidF σ w a) P B W T :=
  (O.up (by unfold okPl; omega)).up (by unfold okPl; omega)
theorem Ok.lose {σ : MS} {P B W T a n : Nat} (O : Ok σ P B W T) (hn : n ≤ 14) : Ok (loseQ σ a n) P B W T :=
  O.same fun k j h => if_neg (fun q => by unfold okPl at h; omega)
theorem Ok.wait {σ : MS} {P B W T n : Nat} (O : Ok σ P B W T) (hn : n ≤ 14) : Ok (waitL σ n) P B W T :=
  O.same fun k j h => if_neg (fun q => by unfold okPl at h; omega)
theorem Ok.put {σ : MS} {P B W T w : Nat} {s : Int32} (O : Ok σ P B W T) (hw : w < 14) : Ok (putF σ w s) P B W T := by
  unfold putF
  split
  · exact (O.up (by unfold okPl; omega)).paid hw
  · exact O.up (by unfold okPl; omega)
theorem Ok.fix {σ : MS} {P B W T w : Nat} (O : Ok σ P B W T) (hw : w < 14) : Ok (fixS σ w P W) P B W T := by
  unfold fixS
  dsimp only
  exact ((((((O.scr (Scr.sn σ w P W)).lose O.hW).up (by unfold okPl; omega)).up (by unfold okPl; omega)).up (by unfold okPl; omega))).paid hw
def plOk (i s f : Int32) : Prop := ¬ i < 1 ∧ ¬ 64 ≤ i ∧ (0 ≤ s ∧ s < 65536) ∧ ¬ f < 1 ∧ f ≤ 99
def telP (σ : MS) (P : Nat) (i s t f : Int32) : MS := up2 (up2 (up2 (up2 (up2 σ (29 + P) 0 i) (29 + P) 1 s) (29 + P) 2 t) (29 + P) 3 f) 0 6 (nI (P + 1))
theorem law_T_player {post : Int32 → MS → Prop} {pex : String → MS → Prop} {σ : MS} {P B W T : Nat} {i s t f : Int32} (O : Ok σ P B W T)
    (hx : ¬ (0 ≤ t ∧ t < 6) → pex xIO σ) (hq : (0 ≤ t ∧ t < 6) → ¬ plOk i s f → pex xIA σ) (hf : (0 ≤ t ∧ t < 6) → plOk i s f → P = 10 → pex xIS σ)
    (h : (0 ≤ t ∧ t < 6) → plOk i s f → P < 10 → post (nI P) (telP σ P i s t f)) : w_T_X7_player post pex σ i s t f := by
  have hP := O.hP
  unfold w_T_X7_player u_T_X7_player_48
  refine law_isTown ⟨fun c => hx (of_decide_eq_false (b01_0.mp c)), fun c => ?_⟩
  have ht := of_decide_eq_true (b01_1.mp c)
  have hq := hq ht
  have hf := hf ht
  have h := h ht
  refine ⟨fun c1 => hq fun q => q.1 c1, fun c1 => ⟨fun c2 => hq fun q => q.2.1 c2, fun c2 => law_isSetOfSongs ⟨fun c3 => hq fun q => of_decide_eq_false (b01_0.mp c3) q.2.2.1, fun c3 => ⟨fun c4 => hq fun q => q.2.2.2.1 c4, fun c4 => ⟨fun c5 => ?_, fun c5 => hq fun q => c5 q.2.2.2.2⟩⟩⟩⟩⟩
  have hok : plOk i s f := ⟨c1, c2, of_decide_eq_true (b01_1.mp c3), c4, c5⟩
  rw [O.h6]
  refine ⟨fun c6 => ?_, fun c6 => hf hok ?_⟩
  · have hlt : P < 10 := (nI_ltI (b := 10) (by omega) (by decide)).mp c6
    rw [nI_clamp (by omega)]
    refine ⟨vp_in_nI hlt (by decide), fun y1 h1 y2 h2 => ?_⟩
    rw [up2_at (by omega), up2_at (by omega), up2_at (by omega), up2_at (by omega), O.h6] at h1
    subst h1
    rw [up2_same] at h2
    subst h2
    rw [nI_1, nI_pred]
    exact h hok hlt
  · exact Classical.byContradiction fun q => c6 (nI_lt (b := 10) (by omega) (by decide))
theorem Ok.tel {σ : MS} {P B W T : Nat} {i s t f : Int32} (O : Ok σ P B W T) (ht : 0 ≤ t ∧ t < 6) (hP : P < 10) : Ok (telP σ P i s t f) (P + 1) B W T := by
  have ht6 : vp_in t 6 := by
    obtain ⟨p, hp, e⟩ := idx_in (n := 6) (by decide) (Int32.not_lt.mpr ht.1) ht.2
    subst e
    exact vp_in_nI hp (by decide)
  have ne : ∀ k j, (k ≠ 0 ∨ j ≠ 6) → (k ≠ 29 + P ∨ 4 ≤ j) → telP σ P i s t f k j = σ k j := fun k j h1 h2 => by
    unfold telP
    rw [up2_at h1, up2_at (by omega), up2_at (by omega), up2_at (by omega), up2_at (by omega)]
  refine ⟨up2_same, by omega, (ne 0 7 (by omega) (by omega)).trans O.h7, O.hB, (ne 0 8 (by omega) (by omega)).trans O.h8, O.hW, (ne 0 9 (by omega) (by omega)).trans O.h9, O.hT, fun p hp => ?_, fun w hw => ?_, fun w hw => ?_, fun w hw => ?_, fun b hb => ?_, fun b j hb hj => ?_⟩
  · by_cases q : p = P
    · subst q
      have e : telP σ p i s t f (29 + p) 2 = t := by
        unfold telP
        rw [up2_at (by omega), up2_at (by omega), up2_same]
      rw [e]
      exact ht6
    · rw [ne (29 + p) 2 (by omega) (by omega)]
      exact O.home p hp
  · rw [ne (73 + w) 0 (by omega) (by omega)]; exact O.band w hw
  · rw [ne (73 + w) 1 (by omega) (by omega)]; exact O.day w hw
  · rw [ne (73 + w) 2 (by omega) (by omega)]; exact O.town w hw
  · rw [ne (55 + b) 2 (by omega) (by omega)]; exact O.size b hb
  · rw [ne (67 + b) j (by omega) (by omega)]; exact O.place b j hb hj
theorem law_T_late {post : Int32 → MS → Prop} {pex : String → MS → Prop} {σ : MS} {P B W T : Nat} {a m : Int32} (O : Ok σ P B W T)
    (hx : (∀ w, w < W → a ≠ nI w) → pex xIO σ) (hq : ∀ w, w < W → a = nI w → ¬ (¬ m < 0 ∧ m ≤ 240) → pex xIA σ)
    (hf : ∀ w, w < W → a = nI w → (¬ m < 0 ∧ m ≤ 240) → ¬ σ (73 + w) 7 = 1 → pex xIS σ)
    (h : ∀ w, w < W → a = nI w → (¬ m < 0 ∧ m ≤ 240) → σ (73 + w) 7 = 1 → post (quF (up2 σ (73 + w) 10 m) w) (up2 σ (73 + w) 10 m)) : w_T_X7_late post pex σ a m := by
  have hW := O.hW
  unfold w_T_X7_late u_T_X7_late_16
  refine law_T_checkWedding O (fun w hw e => ?_) hx
  subst e
  have hq := hq w hw rfl
  have hf := hf w hw rfl
  have h := h w hw rfl
  have v : vp_in (nI w) 14 := vp_in_nI (by omega) (by decide)
  rw [nI_clamp (by omega)]
  exact ⟨fun c => hq fun q => q.1 c, fun c => ⟨fun d => ⟨v, fun g => ⟨v, v, law_quarters (h ⟨c, d⟩ g)⟩, fun g => hf ⟨c, d⟩ g⟩, fun d => hq fun q => d q.2⟩⟩
/-- the state that cancel leaves -/
def canS (σ : MS) (w : Nat) : MS := if σ (73 + w) 7 = 1 then up2 (paidF σ w (if 0 < owedF σ w - σ (73 + w) 11 then owedF σ w - σ (73 + w) 11 else 0)) (73 + w) 7 3 else up2 σ (73 + w) 7 3
theorem law_T_cancel {post : Int32 → MS → Prop} {pex : String → MS → Prop} {σ : MS} {P B W T : Nat} {a : Int32} (O : Ok σ P B W T)
    (hx : (∀ w, w < W → a ≠ nI w) → pex xIO σ)
    (hf : ∀ w, w < W → a = nI w → ¬ (σ (73 + w) 7 = 0 ∨ σ (73 + w) 7 = 1) → pex xIS σ)
    (h : ∀ w, w < W → a = nI w → (σ (73 + w) 7 = 0 ∨ σ (73 + w) 7 = 1) → post (if σ (73 + w) 7 = 1 then owedF σ w else 0) (canS σ w)) : w_T_X7_cancel post pex σ a := by
  have hW := O.hW
  unfold w_T_X7_cancel
  refine law_T_checkWedding O (fun w hw e => ?_) hx
  subst e
  have hf := hf w hw rfl
  have h := h w hw rfl
  rw [nI_clamp (by omega)]
  have key : (σ (73 + w) 7 = 0 ∨ σ (73 + w) 7 = 1) → u_T_X7_cancel_37 post pex (nI w) σ w := fun z => by
    have h := h z
    unfold u_T_X7_cancel_37
    unfold canS at h
    refine ⟨fun c => law_owedFor (law_getPaid ?_), fun c => ?_⟩
    · rw [if_pos c, if_pos c] at h; exact h
    · rw [if_neg c, if_neg c] at h; exact h
  exact ⟨vp_in_nI (by omega) (by decide), fun c => key (Or.inl c), fun c => ⟨fun d => key (Or.inr d), fun d => hf fun q => q.elim c d⟩⟩
theorem Ok.can {σ : MS} {P B W T w : Nat} (O : Ok σ P B W T) (hw : w < 14) : Ok (canS σ w) P B W T := by
  unfold canS
  split
  · exact (O.paid hw).up (by unfold okPl; omega)
  · exact O.up (by unfold okPl; omega)
