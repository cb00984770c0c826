/-! WHAT ALWAYS HOLDS, MORE: songs of weddings, what is paid, what players played, days off, what is to come -/
def PdA (σ : MS) (w : Nat) : Prop := (σ (73 + w) 7 = 0 → σ (73 + w) 11 = 0) ∧ (σ (73 + w) 7 = 1 → σ (73 + w) 11 = σ (73 + w) 9 / 5)
/-- p played there -/
def plw (σ : MS) (p w : Nat) : Bool := decide (σ (73 + w) 7 = 2) && bt (σ (73 + w) 8) p
def PlI (σ : MS) (W : Nat) : Prop := ∀ p, p < 10 → σ (29 + p) 6 = nI (fb_ct (plw σ p) W) ∧ σ (29 + p) 7 = sumI (fun w => if plw σ p w = true then σ (73 + w) 4 else 0) W
def Gw (σ : MS) : Prop := ∀ w, w < 14 → ∀ i, 16 ≤ i → bt (σ (73 + w) 5) i = false
def FO (σ : MS) (P : Nat) : Prop := ∀ d, d < 366 → ∀ p, P ≤ p → bt (σ 6 d) p = false
def EI (σ : MS) (P B W : Nat) : Prop := (SyH σ ∧ SyW σ) ∧ Gw σ ∧ (∀ w, w < 14 → PdA σ w) ∧ PlI σ W ∧ Fp σ P ∧ (∀ w, W ≤ w → w < 14 → σ (73 + w) 10 = 0) ∧ FO σ P ∧ Fb σ B
/-- what EI looks at -/
def eic (k j : Nat) : Prop := k = 6 ∨ (17 ≤ k ∧ k < 29) ∨ (29 ≤ k ∧ k < 39 ∧ 4 ≤ j ∧ j ≤ 7) ∨ (55 ≤ k ∧ k < 61 ∧ j = 2) ∨ (73 ≤ k ∧ k < 87 ∧ (j = 4 ∨ j = 5 ∨ (7 ≤ j ∧ j ≤ 11)))
section EINV
variable {σ τ : MS} {P B W T : Nat}
/-- one wedding changed, not played before or then -/
theorem EI.wd {w : Nat} (hw : w < W) (hW : W ≤ 14) (H : EI σ P B W) (h : ∀ k j, eic k j → (k ≠ 73 + w ∨ j < 7) → τ k j = σ k j) (h2 : ¬ σ (73 + w) 7 = 2) (h3 : ¬ τ (73 + w) 7 = 2) (h4 : PdA τ w) : EI τ P B W := by
  obtain ⟨⟨s1, s2⟩, g, pd, pl, fp, ft, fo, fb⟩ := H
  have hpl : ∀ p v, v < W → plw τ p v = plw σ p v := fun p v hv => by
    unfold plw
    by_cases e : v = w
    · subst e
      rw [decide_eq_false h2, decide_eq_false h3, Bool.false_and, Bool.false_and]
    · rw [h (73 + v) 7 (by unfold eic; omega) (by omega), h (73 + v) 8 (by unfold eic; omega) (by omega)]
  refine ⟨⟨fun a b ha hb => ?_, fun a b ha hb => ?_⟩, fun v hv i hi => ?_, fun v hv => ?_, fun p hp => ⟨?_, ?_⟩, fun p h1 h2 => ?_, fun v h1 h2 => ?_, fun d hd p hp => ?_, fun b h1 h2 => ?_⟩
  · rw [h (17 + a) b (by unfold eic; omega) (by omega), h (17 + b) a (by unfold eic; omega) (by omega)]; exact s1 a b ha hb
  · rw [h (23 + a) b (by unfold eic; omega) (by omega), h (23 + b) a (by unfold eic; omega) (by omega)]; exact s2 a b ha hb
  · rw [h (73 + v) 5 (by unfold eic; omega) (by omega)]; exact g v hv i hi
  · by_cases e : v = w
    · subst e; exact h4
    · unfold PdA
      rw [h (73 + v) 7 (by unfold eic; omega) (by omega), h (73 + v) 11 (by unfold eic; omega) (by omega), h (73 + v) 9 (by unfold eic; omega) (by omega)]
      exact pd v hv
  · rw [h (29 + p) 6 (by unfold eic; omega) (by omega), (pl p hp).1, fb_ct_cong (fun v hv => hpl p v hv)]
  · rw [h (29 + p) 7 (by unfold eic; omega) (by omega), (pl p hp).2]
    exact (sumI_congr (fun v hv => by rw [hpl p v hv, h (73 + v) 4 (by unfold eic; omega) (by omega)])).symm
  · rw [h (29 + p) 4 (by unfold eic; omega) (by omega), h (29 + p) 5 (by unfold eic; omega) (by omega), h (29 + p) 6 (by unfold eic; omega) (by omega), h (29 + p) 7 (by unfold eic; omega) (by omega)]
    exact fp p h1 h2
  · rw [h (73 + v) 10 (by unfold eic; omega) (by omega)]; exact ft v h1 h2
  · rw [h 6 d (by unfold eic; omega) (by omega)]; exact fo d hd p hp
  · rw [h (55 + b) 2 (by unfold eic; omega) (by omega)]; exact fb b h1 h2
theorem EI.same (hW : W ≤ 14) (H : EI σ P B W) (h : ∀ k j, eic k j → τ k j = σ k j) : EI τ P B W := by
  obtain ⟨⟨s1, s2⟩, g, pd, pl, fp, ft, fo, fb⟩ := H
  have hpl : ∀ p v, v < W → plw τ p v = plw σ p v := fun p v hv => by
    unfold plw
    rw [h (73 + v) 7 (by unfold eic; omega), h (73 + v) 8 (by unfold eic; omega)]
  refine ⟨⟨fun a b ha hb => ?_, fun a b ha hb => ?_⟩, fun v hv i hi => ?_, fun v hv => ?_, fun p hp => ⟨?_, ?_⟩, fun p h1 h2 => ?_, fun v h1 h2 => ?_, fun d hd p hp => ?_, fun b h1 h2 => ?_⟩
  · rw [h (17 + a) b (by unfold eic; omega), h (17 + b) a (by unfold eic; omega)]; exact s1 a b ha hb
  · rw [h (23 + a) b (by unfold eic; omega), h (23 + b) a (by unfold eic; omega)]; exact s2 a b ha hb
  · rw [h (73 + v) 5 (by unfold eic; omega)]; exact g v hv i hi
  · unfold PdA
    rw [h (73 + v) 7 (by unfold eic; omega), h (73 + v) 11 (by unfold eic; omega), h (73 + v) 9 (by unfold eic; omega)]
    exact pd v hv
  · rw [h (29 + p) 6 (by unfold eic; omega), (pl p hp).1, fb_ct_cong (fun v hv => hpl p v hv)]
  · rw [h (29 + p) 7 (by unfold eic; omega), (pl p hp).2]
    exact (sumI_congr (fun v hv => by rw [hpl p v hv, h (73 + v) 4 (by unfold eic; omega)])).symm
  · rw [h (29 + p) 4 (by unfold eic; omega), h (29 + p) 5 (by unfold eic; omega), h (29 + p) 6 (by unfold eic; omega), h (29 + p) 7 (by unfold eic; omega)]
    exact fp p h1 h2
  · rw [h (73 + v) 10 (by unfold eic; omega)]; exact ft v h1 h2
  · rw [h 6 d (by unfold eic; omega)]; exact fo d hd p hp
  · rw [h (55 + b) 2 (by unfold eic; omega)]; exact fb b h1 h2
theorem EI.up {k j : Nat} {v : Int32} (hW : W ≤ 14) (H : EI σ P B W) (h : ¬ eic k j) : EI (up2 σ k j v) P B W :=
  H.same hW (fun k' j' hk => up2_off (fun z => h (by obtain ⟨rfl, rfl⟩ := z; exact hk)))
theorem EI.scr (hW : W ≤ 14) (H : EI σ P B W) (h : Scr σ τ) : EI τ P B W := H.same hW (fun k j hk => by rw [h k (by unfold eic at hk; omega)])
theorem EI.late {w : Nat} {m : Int32} (hw : w < W) (hW : W ≤ 14) (h7 : σ (73 + w) 7 = 1) (H : EI σ P B W) : EI (up2 σ (73 + w) 10 m) P B W :=
  H.wd hw hW (fun k j hk hn => up2_off (by unfold eic at hk; omega)) (by rw [h7]; decide) (by rw [up2_off (by omega), h7]; decide) (by
    have := H.2.2.1 w (by omega)
    unfold PdA at this ⊢
    rw [up2_off (by omega), up2_off (by omega), up2_off (by omega)]
    exact this)
theorem EI.lose {w : Nat} (hw : w < W) (hW : W ≤ 14) (h7 : ¬ σ (73 + w) 7 = 2) (H : EI σ P B W) : EI (up2 σ (73 + w) 7 3) P B W :=
  H.wd hw hW (fun k j hk hn => up2_off (by omega)) h7 (by rw [up2_same]; decide) (by
    unfold PdA
    rw [up2_same]
    exact ⟨fun z => absurd z (by decide), fun z => absurd z (by decide)⟩)
theorem EI.lo (hW : W ≤ 14) (h : Lo W σ τ) (H : EI σ P B W) : EI τ P B W := by
  obtain ⟨⟨s1, s2⟩, g, pd, pl, fp, ft, fo, fb⟩ := H
  have ne : ∀ k j, (k < 73 ∨ j ≠ 7) → τ k j = σ k j := h.1
  have hpl : ∀ p v, v < W → plw τ p v = plw σ p v := fun p v hv => by
    unfold plw
    rw [ne (73 + v) 8 (by omega)]
    rcases h.2.2 v hv with e | ⟨e1, e2⟩
    · rw [e]
    · rw [e1, decide_eq_false (by decide), decide_eq_false (p := σ (73 + v) 7 = 2) (fun z => by rcases e2 with e2 | e2 <;> rw [e2] at z <;> exact absurd z (by decide))]
  refine ⟨⟨fun a b ha hb => ?_, fun a b ha hb => ?_⟩, fun v hv i hi => ?_, fun v hv => ?_, fun p hp => ⟨?_, ?_⟩, fun p h1 h2 => ?_, fun v h1 h2 => ?_, fun d hd p hp => ?_, fun b h1 h2 => ?_⟩
  · rw [ne (17 + a) b (by omega), ne (17 + b) a (by omega)]; exact s1 a b ha hb
  · rw [ne (23 + a) b (by omega), ne (23 + b) a (by omega)]; exact s2 a b ha hb
  · rw [ne (73 + v) 5 (by omega)]; exact g v hv i hi
  · have := pd v hv
    unfold PdA at this ⊢
    rw [ne (73 + v) 11 (by omega), ne (73 + v) 9 (by omega)]
    by_cases c : v < W
    · rcases h.2.2 v c with e | ⟨e1, e2⟩
      · rw [e]; exact this
      · rw [e1]; exact ⟨fun z => absurd z (by decide), fun z => absurd z (by decide)⟩
    · rw [h.2.1 v (by omega) hv]; exact this
  · rw [ne (29 + p) 6 (by omega), (pl p hp).1, fb_ct_cong (fun v hv => hpl p v hv)]
  · rw [ne (29 + p) 7 (by omega), (pl p hp).2]
    exact (sumI_congr (fun v hv => by rw [hpl p v hv, ne (73 + v) 4 (by omega)])).symm
  · rw [ne (29 + p) 4 (by omega), ne (29 + p) 5 (by omega), ne (29 + p) 6 (by omega), ne (29 + p) 7 (by omega)]
    exact fp p h1 h2
  · rw [ne (73 + v) 10 (by omega)]; exact ft v h1 h2
  · rw [ne 6 d (by omega)]; exact fo d hd p hp
  · rw [ne (55 + b) 2 (by omega)]; exact fb b h1 h2
theorem EI.can {w : Nat} (hw : w < W) (hW : W ≤ 14) (h7 : σ (73 + w) 7 = 0 ∨ σ (73 + w) 7 = 1) (H : EI σ P B W) : EI (canS σ w) P B W := by
  have h2 : ¬ σ (73 + w) 7 = 2 := fun z => by rcases h7 with e | e <;> rw [e] at z <;> exact absurd z (by decide)
  unfold canS
  split
  · refine H.wd hw hW (fun k j hk hn => ?_) h2 (by rw [up2_same]; decide) (by unfold PdA; rw [up2_same]; exact ⟨fun z => absurd z (by decide), fun z => absurd z (by decide)⟩)
    unfold paidF
    unfold eic at hk
    rw [up2_off (by omega), up2_off (by omega), up2_off (by omega)]
  · exact H.lose hw hW h2
theorem EI.fix {w : Nat} (hw : w < W) (hW : W ≤ 14) (hf : σ (73 + w) 7 = 0) (H : EI σ P B W) : EI (fixS σ w P W) P B W := by
  unfold fixS
  dsimp only
  have h0 := (H.scr hW (Scr.sn σ w P W)).lo hW (loseQ_lo (y := snF σ w P W) (a := w) (W := W))
  have e7 : loseQ (snF σ w P W) w W (73 + w) 7 = 0 := by
    rw [show loseQ (snF σ w P W) w W (73 + w) 7 = snF σ w P W (73 + w) 7 from if_neg (by omega), (Scr.sn σ w P W).c73]
    exact hf
  generalize loseQ (snF σ w P W) w W = z at h0 e7
  have p0 := (h0.2.2.1 w (by omega)).1 e7
  refine h0.wd hw hW (fun k j hk hn => ?_) (by rw [e7]; decide) ?_ ?_
  · unfold paidF
    unfold eic at hk
    rw [up2_off (by omega), up2_off (by omega), up2_off (by omega), up2_off (by omega), up2_off (by omega)]
  · unfold paidF
    rw [up2_off (by omega), up2_off (by omega), up2_off (by omega), up2_off (by omega), up2_same]
    decide
  · unfold PdA paidF
    rw [up2_off (k' := 73 + w) (j' := 7) (by omega), up2_off (k' := 73 + w) (j' := 7) (by omega), up2_off (k' := 73 + w) (j' := 7) (by omega), up2_off (k' := 73 + w) (j' := 7) (by omega), up2_same]
    refine ⟨fun z => absurd z (by decide), fun _ => ?_⟩
    rw [up2_off (k' := 73 + w) (j' := 11) (by omega), up2_same, up2_off (k' := 73 + w) (j' := 11) (by omega), up2_off (k' := 73 + w) (j' := 11) (by omega), up2_off (k' := 73 + w) (j' := 11) (by omega), p0, up2_off (k' := 73 + w) (j' := 9) (by omega), up2_off (k' := 73 + w) (j' := 9) (by omega), up2_same]
    exact Int32.zero_add _
theorem EI.put {w : Nat} {s : Int32} (hw : w < W) (hW : W ≤ 14) (h7 : σ (73 + w) 7 = 1) (H : EI σ P B W) : EI (putF σ w s) P B W := by
  have h2 : ¬ σ (73 + w) 7 = 2 := fun z => by rw [h7] at z; exact absurd z (by decide)
  unfold putF
  split
  · refine H.wd hw hW (fun k j hk hn => ?_) h2 ?_ ?_
    · unfold paidF
      unfold eic at hk
      rw [up2_off (by omega), up2_off (by omega), up2_off (by omega)]
    · unfold paidF
      rw [up2_off (by omega), up2_off (by omega), up2_same]
      decide
    · unfold PdA paidF
      rw [up2_off (k' := 73 + w) (j' := 7) (by omega), up2_off (k' := 73 + w) (j' := 7) (by omega), up2_same]
      exact ⟨fun z => absurd z (by decide), fun z => absurd z (by decide)⟩
  · refine H.wd hw hW (fun k j hk hn => up2_off (by omega)) h2 (by rw [up2_off (by omega)]; exact h2) ?_
    have := H.2.2.1 w (by omega)
    unfold PdA at this ⊢
    rw [up2_off (by omega), up2_off (by omega), up2_off (by omega)]
    exact this
theorem EI.illL {p : Nat} {day : Int32} (hW : W ≤ 14) (H : EI σ P B W) : ∀ n, n ≤ W → EI (illS σ p day n) P B W
  | 0, _ => H
  | n + 1, hn => by
    have ih := EI.illL (p := p) (day := day) hW H n (by omega)
    unfold illS
    split
    · rename_i c
      refine ih.put (by omega) hW ?_
      have := c.2
      unfold fxw at this
      rw [Bool.and_eq_true] at this
      exact of_decide_eq_true this.1
    · exact ih
theorem EI.off {p d : Nat} (hp : p < P) (hP : P ≤ 10) (hW : W ≤ 14) (H : EI σ P B W) : EI (offS σ P W p d) P B W := by
  unfold offS
  have h0 := H.scr hW (Scr.sw σ P W p (nI d) W)
  generalize (swS σ P W p (nI d) W).1 = y at h0
  have h1 : EI y P B W ∧ ∀ e, e < 366 → ∀ q, P ≤ q → bt (up2 y 6 d (y 6 d ||| one p) 6 e) q = false := by
    refine ⟨h0, fun e he q hq => ?_⟩
    by_cases c : e = d
    · subst c
      rw [up2_same, b_or, h0.2.2.2.2.2.2.1 e he q hq, Bool.false_or]
      rcases Nat.lt_or_ge q 32 with g | g
      · rw [b_one (by omega) g, decide_eq_false (by omega)]
      · exact b_big g
    · rw [up2_off (by omega)]
      exact h0.2.2.2.2.2.2.1 e he q hq
  obtain ⟨⟨⟨s1, s2⟩, g, pd, pl, fp, ft, fo, fb⟩, fo2⟩ := h1
  have ne : ∀ k j, k ≠ 6 → up2 y 6 d (y 6 d ||| one p) k j = y k j := fun k j h => up2_off (by omega)
  generalize up2 y 6 d (y 6 d ||| one p) = τ at ne fo2
  have hpl : ∀ p v, plw τ p v = plw y p v := fun p v => by
    unfold plw
    rw [ne _ _ (by omega), ne _ _ (by omega)]
  refine ⟨⟨fun a b ha hb => ?_, fun a b ha hb => ?_⟩, fun v hv i hi => ?_, fun v hv => ?_, fun p hp => ⟨?_, ?_⟩, fun p h1 h2 => ?_, fun v h1 h2 => ?_, fo2, fun b h1 h2 => ?_⟩
  · rw [ne _ _ (by omega), ne _ _ (by omega)]; exact s1 a b ha hb
  · rw [ne _ _ (by omega), ne _ _ (by omega)]; exact s2 a b ha hb
  · rw [ne _ _ (by omega)]; exact g v hv i hi
  · unfold PdA
    rw [ne _ _ (by omega), ne _ _ (by omega), ne _ _ (by omega)]
    exact pd v hv
  · rw [ne _ _ (by omega), (pl p hp).1, fb_ct_cong (fun v hv => hpl p v)]
  · rw [ne _ _ (by omega), (pl p hp).2]
    exact (sumI_congr (fun v hv => by rw [hpl p v, ne _ _ (by omega)])).symm
  · rw [ne _ _ (by omega), ne _ _ (by omega), ne _ _ (by omega), ne _ _ (by omega)]
    exact fp p h1 h2
  · rw [ne _ _ (by omega)]; exact ft v h1 h2
  · rw [ne _ _ (by omega)]; exact fb b h1 h2
theorem EI.ill {p d : Nat} (hp : p < P) (hP : P ≤ 10) (hW : W ≤ 14) (H : EI σ P B W) : EI (illS (offS σ P W p d) p (nI d) W) P B W := (H.off hp hP hW).illL hW W (Nat.le_refl _)
theorem EI.feud {p q : Nat} {u v : Int32} (hp : p < P) (hq : q < P) (hP : P ≤ 10) (hW : W ≤ 14) (H : EI σ P B W) : EI (up2 (up2 σ (29 + p) 4 u) (29 + q) 4 v) P B W := by
  obtain ⟨⟨s1, s2⟩, g, pd, pl, fp, ft, fo, fb⟩ := H
  have ne : ∀ k j, ¬ (29 ≤ k ∧ k < 29 + P ∧ j = 4) → up2 (up2 σ (29 + p) 4 u) (29 + q) 4 v k j = σ k j := fun k j h => by rw [up2_off (by omega), up2_off (by omega)]
  generalize up2 (up2 σ (29 + p) 4 u) (29 + q) 4 v = τ at ne
  have hpl : ∀ p v, plw τ p v = plw σ p v := fun p v => by
    unfold plw
    rw [ne _ _ (by omega), ne _ _ (by omega)]
  refine ⟨⟨fun a b ha hb => ?_, fun a b ha hb => ?_⟩, fun v hv i hi => ?_, fun v hv => ?_, fun p hp => ⟨?_, ?_⟩, fun p h1 h2 => ?_, fun v h1 h2 => ?_, fun d hd p hp => ?_, fun b h1 h2 => ?_⟩
  · rw [ne _ _ (by omega), ne _ _ (by omega)]; exact s1 a b ha hb
  · rw [ne _ _ (by omega), ne _ _ (by omega)]; exact s2 a b ha hb
  · rw [ne _ _ (by omega)]; exact g v hv i hi
  · unfold PdA
    rw [ne _ _ (by omega), ne _ _ (by omega), ne _ _ (by omega)]
    exact pd v hv
  · rw [ne _ _ (by omega), (pl p hp).1, fb_ct_cong (fun v hv => hpl p v)]
  · rw [ne _ _ (by omega), (pl p hp).2]
    exact (sumI_congr (fun v hv => by rw [hpl p v, ne _ _ (by omega)])).symm
  · rw [ne _ _ (by omega), ne _ _ (by omega), ne _ _ (by omega), ne _ _ (by omega)]
    exact fp p h1 h2
  · rw [ne _ _ (by omega)]; exact ft v h1 h2
  · rw [ne _ _ (by omega)]; exact fo d hd p hp
  · rw [ne _ _ (by omega)]; exact fb b h1 h2
theorem EI.road {i j : Nat} {v : Int32} (hi : i < 6) (hj : j < 6) (hv : rg 0 9 v) (hW : W ≤ 14) (hr : Hr σ) (H : EI σ P B W) : EI (layS σ i j v) P B W := by
  obtain ⟨⟨s1, s2⟩, g, pd, pl, fp, ft, fo, fb⟩ := H
  have hs := lay_sy hi hj hv hr s1
  have ne : ∀ k j', (k < 17 ∨ 29 ≤ k) → layS σ i j v k j' = σ k j' := fun k j' h => by rw [lay_k hi hj h]
  generalize layS σ i j v = τ at hs ne
  have hpl : ∀ p v, plw τ p v = plw σ p v := fun p v => by
    unfold plw
    rw [ne _ _ (by omega), ne _ _ (by omega)]
  refine ⟨hs, fun v hv i hi => ?_, fun v hv => ?_, fun p hp => ⟨?_, ?_⟩, fun p h1 h2 => ?_, fun v h1 h2 => ?_, fun d hd p hp => ?_, fun b h1 h2 => ?_⟩
  · rw [ne _ _ (by omega)]; exact g v hv i hi
  · unfold PdA
    rw [ne _ _ (by omega), ne _ _ (by omega), ne _ _ (by omega)]
    exact pd v hv
  · rw [ne _ _ (by omega), (pl p hp).1, fb_ct_cong (fun v hv => hpl p v)]
  · rw [ne _ _ (by omega), (pl p hp).2]
    exact (sumI_congr (fun v hv => by rw [hpl p v, ne _ _ (by omega)])).symm
  · rw [ne _ _ (by omega), ne _ _ (by omega), ne _ _ (by omega), ne _ _ (by omega)]
    exact fp p h1 h2
  · rw [ne _ _ (by omega)]; exact ft v h1 h2
  · rw [ne _ _ (by omega)]; exact fo d hd p hp
  · rw [ne _ _ (by omega)]; exact fb b h1 h2
theorem EI.player {i s t f : Int32} (hP : P < 10) (hW : W ≤ 14) (H : EI σ P B W) : EI (telP σ P i s t f) (P + 1) B W := by
  have h1 : EI (telP σ P i s t f) P B W := by
    refine H.same hW (fun k j hk => ?_)
    unfold telP
    unfold eic at hk
    rw [up2_off (by omega), up2_off (by omega), up2_off (by omega), up2_off (by omega), up2_off (by omega)]
  obtain ⟨s1, g, pd, pl, fp, ft, fo, fb⟩ := h1
  exact ⟨s1, g, pd, pl, fun p h1 h2 => fp p (by omega) h2, ft, fun d hd p hp => fo d hd p (by omega), fb⟩
theorem EI.band {m : Nat} (hB : B < 6) (hW : W ≤ 14) (H : EI σ P B W) : EI (bandS σ B m) P (B + 1) W := by
  obtain ⟨⟨s1, s2⟩, g, pd, pl, fp, ft, fo, fb⟩ := H
  have ne : ∀ k j, ¬ ((k = 55 + B ∧ j = 2) ∨ k = 61 + B ∨ k = 67 + B) → ¬ (k = 0 ∧ j = 7) → bandS σ B m k j = σ k j := fun k j g1 g2 => bandS_k (by unfold bdPl; exact g1) g2
  generalize bandS σ B m = τ at ne
  have hpl : ∀ p v, plw τ p v = plw σ p v := fun p v => by
    unfold plw
    rw [ne _ _ (by omega) (by omega), ne _ _ (by omega) (by omega)]
  refine ⟨⟨fun a b ha hb => ?_, fun a b ha hb => ?_⟩, fun v hv i hi => ?_, fun v hv => ?_, fun p hp => ⟨?_, ?_⟩, fun p h1 h2 => ?_, fun v h1 h2 => ?_, fun d hd p hp => ?_, fun b h1 h2 => ?_⟩
  · rw [ne _ _ (by omega) (by omega), ne _ _ (by omega) (by omega)]; exact s1 a b ha hb
  · rw [ne _ _ (by omega) (by omega), ne _ _ (by omega) (by omega)]; exact s2 a b ha hb
  · rw [ne _ _ (by omega) (by omega)]; exact g v hv i hi
  · unfold PdA
    rw [ne _ _ (by omega) (by omega), ne _ _ (by omega) (by omega), ne _ _ (by omega) (by omega)]
    exact pd v hv
  · rw [ne _ _ (by omega) (by omega), (pl p hp).1, fb_ct_cong (fun v hv => hpl p v)]
  · rw [ne _ _ (by omega) (by omega), (pl p hp).2]
    exact (sumI_congr (fun v hv => by rw [hpl p v, ne _ _ (by omega) (by omega)])).symm
  · rw [ne _ _ (by omega) (by omega), ne _ _ (by omega) (by omega), ne _ _ (by omega) (by omega), ne _ _ (by omega) (by omega)]
    exact fp p h1 h2
  · rw [ne _ _ (by omega) (by omega)]; exact ft v h1 h2
  · rw [ne _ _ (by omega) (by omega)]; exact fo d hd p hp
  · rw [ne _ _ (by omega) (by omega)]; exact fb b (by omega) h2
theorem EI.ask {b d t s l g : Int32} (hW : W < 14) (hg : ∀ i, 16 ≤ i → bt g i = false) (D : D0 σ W) (H : EI σ P B W) : EI (askS σ W b d t s l g) P B (W + 1) := by
  obtain ⟨⟨s1, s2⟩, gg, pd, pl, fp, ft, fo, fb⟩ := H
  have ne : ∀ k j, (k ≠ 0 ∨ j ≠ 8) → (k ≠ 73 + W ∨ 7 ≤ j) → askS σ W b d t s l g k j = σ k j := fun k j h1 h2 => by
    unfold askS
    rw [up2_at h1, up2_at (by omega), up2_at (by omega), up2_at (by omega), up2_at (by omega), up2_at (by omega), up2_at (by omega), up2_at (by omega)]
  have e5 : askS σ W b d t s l g (73 + W) 5 = g := by
    unfold askS
    rw [up2_at (by omega), up2_at (by omega), up2_same]
  have z7 := (D W (Nat.le_refl W) hW).1
  generalize askS σ W b d t s l g = τ at ne e5
  have hpl : ∀ p v, plw τ p v = plw σ p v := fun p v => by
    unfold plw
    rw [ne _ _ (by omega) (by omega), ne _ _ (by omega) (by omega)]
  have hno : ∀ p, plw τ p W = false := fun p => by
    rw [hpl]
    unfold plw
    rw [z7]
    rfl
  refine ⟨⟨fun a b ha hb => ?_, fun a b ha hb => ?_⟩, fun v hv i hi => ?_, fun v hv => ?_, fun p hp => ⟨?_, ?_⟩, fun p h1 h2 => ?_, fun v h1 h2 => ?_, fun d hd p hp => ?_, fun b h1 h2 => ?_⟩
  · rw [ne _ _ (by omega) (by omega), ne _ _ (by omega) (by omega)]; exact s1 a b ha hb
  · rw [ne _ _ (by omega) (by omega), ne _ _ (by omega) (by omega)]; exact s2 a b ha hb
  · by_cases e : v = W
    · subst e
      rw [e5]; exact hg i hi
    · rw [ne _ _ (by omega) (by omega)]; exact gg v hv i hi
  · unfold PdA
    rw [ne _ _ (by omega) (by omega), ne _ _ (by omega) (by omega), ne _ _ (by omega) (by omega)]
    exact pd v hv
  · rw [ne _ _ (by omega) (by omega), (pl p hp).1, fb_ct_succ, hno p, fb_ct_cong (fun v hv => hpl p v)]
    rfl
  · rw [ne _ _ (by omega) (by omega), (pl p hp).2]
    show _ = sumI (fun w => if plw τ p w = true then τ (73 + w) 4 else 0) W + (if plw τ p W = true then τ (73 + W) 4 else 0)
    rw [hno p, if_neg Bool.false_ne_true, Int32.add_zero]
    exact (sumI_congr (fun v hv => by rw [hpl p v, ne _ _ (by omega) (by omega)])).symm
  · rw [ne _ _ (by omega) (by omega), ne _ _ (by omega) (by omega), ne _ _ (by omega) (by omega), ne _ _ (by omega) (by omega)]
    exact fp p h1 h2
  · rw [ne _ _ (by omega) (by omega)]; exact ft v (by omega) h2
  · rw [ne _ _ (by omega) (by omega)]; exact fo d hd p hp
  · rw [ne _ _ (by omega) (by omega)]; exact fb b h1 h2
end EINV
