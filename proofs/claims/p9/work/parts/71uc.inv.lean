/-! WHAT ALWAYS HOLDS: definitions; and that nothing of it looks elsewhere -/
theorem i_c1 (a b c : Int32) : a + b + (c - b) = a + c := by grind
theorem i_c2 (a b c d : Int32) : a + b + (c - d) = a + (c - d) + b := by grind
theorem sumI_congr {f g : Nat → Int32} : ∀ {n : Nat}, (∀ w, w < n → g w = f w) → sumI g n = sumI f n
  | 0, _ => rfl
  | n + 1, h => by
    show sumI g n + g n = sumI f n + f n
    rw [sumI_congr (fun w hw => h w (by omega)), h n (by omega)]
theorem sumI_set {f g : Nat → Int32} {i : Nat} : ∀ {n : Nat}, (∀ w, w < n → w ≠ i → g w = f w) → i < n → sumI g n = sumI f n + (g i - f i)
  | 0, _, hi => absurd hi (by omega)
  | n + 1, h, hi => by
    show sumI g n + g n = sumI f n + f n + (g i - f i)
    by_cases e : i = n
    · subst e
      rw [sumI_congr (f := f) (g := g) (n := i) (fun w hw => h w (by omega) (by omega))]
      exact (i_c1 _ _ _).symm
    · rw [sumI_set (f := f) (g := g) (fun w hw => h w (by omega)) (by omega), h n (by omega) (Ne.symm e)]
      exact (i_c2 _ _ _ _).symm
/-- roads -/
def RdI (σ : MS) : Prop := Hr σ ∧ Wy_i 576 σ
/-- what was told of a wedding -/
def Ws (σ : MS) (B w : Nat) : Prop := (∃ b, b < B ∧ σ (73 + w) 0 = nI b) ∧ ∃ s l, 10 ≤ s ∧ s ≤ 22 ∧ 1 ≤ l ∧ l ≤ 6 ∧ s + l ≤ 24 ∧ σ (73 + w) 3 = nI s ∧ σ (73 + w) 4 = nI l
/-- players, songs, bands, weddings as told -/
def SI (σ : MS) (P B W : Nat) : Prop := (∀ p, p < P → rg 1 99 (σ (29 + p) 3) ∧ p < P) ∧ (∀ s, s < 16 → s < 16) ∧ (∀ b, b < B → Bd σ b) ∧ ∀ w, w < W → Ws σ B w
def Lt (σ : MS) : Prop := ∀ w, w < 14 → rg 0 240 (σ (73 + w) 10)
/-- s is a set of as many players as the band needs, each with an instrument of it -/
def FilS (σ : MS) (P w : Nat) (v : Int32) : Prop := ∃ s, 1 ≤ s ∧ s < 2 ^ P ∧ v = nI s ∧ bcI (nI s) = σ (55 + bdOf σ w) 2 ∧ ∀ p, p < P → bt (nI s) p = true → seats σ (bdOf σ w) p
def dayIn (σ : MS) (lo hi w : Nat) : Prop := ∃ d, lo ≤ d ∧ d < hi ∧ σ (73 + w) 1 = nI d
/-- a wedding, its state; days of those to come from Tl on, of the played ones ahead of Tp -/
def Wd (σ : MS) (P Tl Tp w : Nat) : Prop :=
  (σ (73 + w) 7 = 0 ∧ σ (73 + w) 8 = 0 ∧ σ (73 + w) 9 = 0 ∧ dayIn σ Tl 366 w) ∨
  (σ (73 + w) 7 = 1 ∧ dayIn σ Tl 366 w ∧ FilS σ P w (σ (73 + w) 8) ∧ rg 50 76298 (σ (73 + w) 9)) ∨
  (σ (73 + w) 7 = 2 ∧ dayIn σ 0 Tp w ∧ FilS σ P w (σ (73 + w) 8) ∧ rg 50 76298 (σ (73 + w) 9)) ∨ σ (73 + w) 7 = 3
def D0 (σ : MS) (W : Nat) : Prop := ∀ w, W ≤ w → w < 14 → σ (73 + w) 7 = 0 ∧ σ (73 + w) 8 = 0 ∧ σ (73 + w) 9 = 0 ∧ σ (73 + w) 11 = 0
def D2 (σ : MS) (W : Nat) : Prop := ∀ a b, a < W → b < W → a ≠ b → σ (73 + a) 7 = 1 → σ (73 + a) 0 = σ (73 + b) 0 → σ (73 + a) 1 = σ (73 + b) 1 → ¬ σ (73 + b) 7 = 0 ∧ ¬ σ (73 + b) 7 = 1
def D3 (σ : MS) (P W : Nat) : Prop := σ 0 10 = paidI σ W - earnI σ P
/-- hours that were played at a wedding, of all together -/
def hoW (σ : MS) (w : Nat) : Int32 := if σ (73 + w) 7 = 2 then σ (73 + w) 4 * bcI (σ (73 + w) 8) else 0
def D4 (σ : MS) (P W : Nat) : Prop := hrsI σ P = sumI (hoW σ) W
def nPl (σ : MS) (W : Nat) : Nat := fb_ct (fun w => decide (σ (73 + w) 7 = 2)) W
def D5 (σ : MS) (P W : Nat) : Prop := (∀ p, p < P → ∃ n m, σ (29 + p) 6 = nI n ∧ σ (29 + p) 7 = nI m ∧ n ≤ m ∧ m ≤ 6 * n ∧ n ≤ nPl σ W) ∧ ∀ s, s < 16 → ∃ n, σ (39 + s) 3 = nI n ∧ n ≤ 16 * nPl σ W
def DI (σ : MS) (P W Tl Tp : Nat) : Prop := D0 σ W ∧ (∀ w, w < W → Wd σ P Tl Tp w) ∧ D2 σ W ∧ D3 σ P W ∧ D4 σ P W ∧ D5 σ P W
/-- all that always holds but the roads and how late it is -/
def In0 (σ : MS) (P B W T Tl Tp : Nat) : Prop := Ok σ P B W T ∧ Pk σ P ∧ SI σ P B W ∧ DI σ P W Tl Tp
def Inv (σ : MS) (P B W T : Nat) : Prop := RdI σ ∧ Lt σ ∧ In0 σ P B W T T T
/-- what stays as it was told -/
def stc (k j : Nat) : Prop := (k = 0 ∧ 6 ≤ j ∧ j ≤ 8) ∨ (29 ≤ k ∧ k < 39 ∧ (j = 0 ∨ j = 2 ∨ j = 3)) ∨ (55 ≤ k ∧ k < 73) ∨ (73 ≤ k ∧ k < 87 ∧ j ≤ 4)
def St (σ τ : MS) : Prop := ∀ k j, stc k j → τ k j = σ k j
theorem St.rf (σ : MS) : St σ σ := fun _ _ _ => rfl
theorem St.tr {a b c : MS} (h : St a b) (g : St b c) : St a c := fun k j hk => (g k j hk).trans (h k j hk)
theorem St.up {σ : MS} {k j : Nat} {v : Int32} (h : ¬ stc k j) : St σ (up2 σ k j v) := fun k' j' hk => up2_at (by
  by_cases e : k' = k
  · by_cases e2 : j' = j
    · subst e; subst e2; exact absurd hk h
    · exact Or.inr e2
  · exact Or.inl e)
theorem St.scr {σ τ : MS} (h : Scr σ τ) : St σ τ := fun k j hk => by rw [h k (by unfold stc at hk; omega)]
theorem Ok.st {σ τ : MS} {P B W T : Nat} (O : Ok σ P B W T) (h : St σ τ) (e9 : τ 0 9 = σ 0 9) : Ok τ P B W T := O.same (fun k j hk => by
  by_cases c : k = 0 ∧ j = 9
  · obtain ⟨rfl, rfl⟩ := c; exact e9
  · exact h k j (by unfold okPl at hk; unfold stc; omega))
theorem Bd.st {σ τ : MS} {b : Nat} (hb : b < 6) (h : St σ τ) (H : Bd σ b) : Bd τ b :=
  H.same (h _ _ (by unfold stc; omega)) (funext fun j => h _ _ (by unfold stc; omega)) (funext fun j => h _ _ (by unfold stc; omega))
theorem Ws.st {σ τ : MS} {B w : Nat} (hw : w < 14) (h : St σ τ) (H : Ws σ B w) : Ws τ B w := by
  unfold Ws at H ⊢
  rw [h (73 + w) 0 (by unfold stc; omega), h (73 + w) 3 (by unfold stc; omega), h (73 + w) 4 (by unfold stc; omega)]
  exact H
theorem SI.st {σ τ : MS} {P B W T : Nat} (O : Ok σ P B W T) (h : St σ τ) (H : SI σ P B W) : SI τ P B W := by
  have hP := O.hP
  have hB := O.hB
  have hW := O.hW
  refine ⟨fun p hp => ?_, fun s hs => ?_, fun b hb => (H.2.2.1 b hb).st (by omega) h, fun w hw => (H.2.2.2 w hw).st (by omega) h⟩
  · rw [h (29 + p) 3 (by unfold stc; omega)]
    exact H.1 p hp
  · exact hs
theorem bdOf_st {σ τ : MS} {w : Nat} (hw : w < 14) (h : St σ τ) : bdOf τ w = bdOf σ w := by
  unfold bdOf
  rw [h (73 + w) 0 (by unfold stc; omega)]
theorem FilS.st {σ τ : MS} {P B W T w : Nat} {v : Int32} (O : Ok σ P B W T) (hw : w < 14) (h : St σ τ) (H : FilS σ P w v) : FilS τ P w v := by
  have hP := O.hP
  obtain ⟨s, h1, h2, h3, h4, h5⟩ := H
  have hb := O.bd hw
  refine ⟨s, h1, h2, h3, ?_, fun p hp hbt => ?_⟩
  · rw [bdOf_st hw h, h (55 + bdOf σ w) 2 (by unfold stc; omega)]
    exact h4
  · obtain ⟨j, j1, j2, j3⟩ := h5 p hp hbt
    refine ⟨j, ?_, j2, ?_⟩
    · rw [bdOf_st hw h, h (55 + bdOf σ w) 2 (by unfold stc; omega)]
      exact j1
    · unfold pl at j3 ⊢
      rw [bdOf_st hw h, h (29 + p) 0 (by unfold stc; omega), h (67 + bdOf σ w) j (by unfold stc; omega)]
      exact j3
theorem dayIn.st {σ τ : MS} {lo hi w : Nat} (hw : w < 14) (h : St σ τ) (H : dayIn σ lo hi w) : dayIn τ lo hi w := by
  obtain ⟨d, h1, h2, h3⟩ := H
  exact ⟨d, h1, h2, (h (73 + w) 1 (by unfold stc; omega)).trans h3⟩
/-- a wedding whose state, players and price stay -/
theorem Wd.st {σ τ : MS} {P B W T Tl Tp w : Nat} (O : Ok σ P B W T) (hw : w < 14) (h : St σ τ) (e7 : τ (73 + w) 7 = σ (73 + w) 7) (e8 : τ (73 + w) 8 = σ (73 + w) 8) (e9 : τ (73 + w) 9 = σ (73 + w) 9) (H : Wd σ P Tl Tp w) : Wd τ P Tl Tp w := by
  unfold Wd at H ⊢
  rw [e7, e8, e9]
  rcases H with ⟨a, b, c, d⟩ | ⟨a, b, c, d⟩ | ⟨a, b, c, d⟩ | a
  · exact Or.inl ⟨a, b, c, d.st hw h⟩
  · exact Or.inr (Or.inl ⟨a, b.st hw h, c.st O hw h, d⟩)
  · exact Or.inr (Or.inr (Or.inl ⟨a, b.st hw h, c.st O hw h, d⟩))
  · exact Or.inr (Or.inr (Or.inr a))
/-- what happens to weddings: states, players, prices, what is paid; the cash; what players earned, played; how often songs were played -/
def dyn (k j : Nat) : Prop := (k = 0 ∧ j = 10) ∨ (29 ≤ k ∧ k < 39 ∧ 5 ≤ j ∧ j ≤ 7) ∨ (39 ≤ k ∧ k < 55 ∧ j = 3) ∨ (73 ≤ k ∧ k < 87 ∧ (7 ≤ j ∧ j ≤ 9 ∨ j = 11))
def Dy (σ τ : MS) : Prop := ∀ k j, dyn k j → τ k j = σ k j
theorem Dy.scr {σ τ : MS} (h : Scr σ τ) : Dy σ τ := fun k j hk => by rw [h k (by unfold dyn at hk; omega)]
theorem Dy.up {σ : MS} {k j : Nat} {v : Int32} (h : ¬ dyn k j) : Dy σ (up2 σ k j v) := fun k' j' hk => up2_at (by
  by_cases e : k' = k
  · by_cases e2 : j' = j
    · subst e; subst e2; exact absurd hk h
    · exact Or.inr e2
  · exact Or.inl e)
theorem Dy.tr {a b c : MS} (h : Dy a b) (g : Dy b c) : Dy a c := fun k j hk => (g k j hk).trans (h k j hk)
theorem nPl_congr {σ τ : MS} {W : Nat} (h : ∀ w, w < W → τ (73 + w) 7 = σ (73 + w) 7) : nPl τ W = nPl σ W := by
  unfold nPl
  exact fb_ct_cong (fun w hw => by rw [h w hw])
theorem DI.same {σ τ : MS} {P B W T Tl Tp : Nat} (O : Ok σ P B W T) (h : St σ τ) (g : Dy σ τ) (H : DI σ P W Tl Tp) : DI τ P W Tl Tp := by
  have hP := O.hP
  have hW := O.hW
  obtain ⟨H0, H1, H2, H3, H4, H5⟩ := H
  have f7 : ∀ w, w < 14 → τ (73 + w) 7 = σ (73 + w) 7 := fun w hw => g _ _ (by unfold dyn; omega)
  have f8 : ∀ w, w < 14 → τ (73 + w) 8 = σ (73 + w) 8 := fun w hw => g _ _ (by unfold dyn; omega)
  have f9 : ∀ w, w < 14 → τ (73 + w) 9 = σ (73 + w) 9 := fun w hw => g _ _ (by unfold dyn; omega)
  have f11 : ∀ w, w < 14 → τ (73 + w) 11 = σ (73 + w) 11 := fun w hw => g _ _ (by unfold dyn; omega)
  refine ⟨fun w h1 h2 => ?_, fun w hw => (H1 w hw).st O (by omega) h (f7 w (by omega)) (f8 w (by omega)) (f9 w (by omega)), fun a b ha hb hne => ?_, ?_, ?_, fun p hp => ?_, fun s hs => ?_⟩
  · rw [f7 w h2, f8 w h2, f9 w h2, f11 w h2]
    exact H0 w h1 h2
  · rw [f7 a (by omega), f7 b (by omega), h (73 + a) 0 (by unfold stc; omega), h (73 + b) 0 (by unfold stc; omega), h (73 + a) 1 (by unfold stc; omega), h (73 + b) 1 (by unfold stc; omega)]
    exact H2 a b ha hb hne
  · unfold D3 paidI earnI
    rw [g 0 10 (by unfold dyn; omega), sumI_congr (f := fun w => σ (73 + w) 11) (fun w hw => f11 w (by omega)), sumI_congr (f := fun p => σ (29 + p) 5) (fun p hp => g _ _ (by unfold dyn; omega))]
    exact H3
  · unfold D4 hrsI
    rw [sumI_congr (f := fun p => σ (29 + p) 7) (fun p hp => g _ _ (by unfold dyn; omega)), sumI_congr (f := hoW σ) (g := hoW τ) (n := W) (fun w hw2 => by unfold hoW; rw [f7 w (by omega), f8 w (by omega), h (73 + w) 4 (by unfold stc; omega)])]
    exact H4
  · rw [nPl_congr (fun w hw => f7 w (by omega)), g (29 + p) 6 (by unfold dyn; omega), g (29 + p) 7 (by unfold dyn; omega)]
    exact H5.1 p hp
  · rw [nPl_congr (fun w hw => f7 w (by omega)), g (39 + s) 3 (by unfold dyn; omega)]
    exact H5.2 s hs
theorem Pk.dy {σ τ : MS} {P : Nat} (g : Dy σ τ) (H : Pk σ P) : Pk τ P := fun w hw => by
  rw [g (73 + w) 8 (by unfold dyn; omega)]
  exact H w hw
theorem In0.same {σ τ : MS} {P B W T Tl Tp : Nat} (h : St σ τ) (g : Dy σ τ) (e9 : τ 0 9 = σ 0 9) (H : In0 σ P B W T Tl Tp) : In0 τ P B W T Tl Tp :=
  ⟨H.1.st h e9, H.2.1.dy g, H.2.2.1.st H.1 h, H.2.2.2.same H.1 h g⟩
theorem In0.scr {σ τ : MS} {P B W T Tl Tp : Nat} (h : Scr σ τ) (H : In0 σ P B W T Tl Tp) : In0 τ P B W T Tl Tp := H.same (St.scr h) (Dy.scr h) (by rw [h 0 (by omega)])
theorem RdI.same {σ τ : MS} (h : ∀ k, 17 ≤ k → k < 29 → τ k = σ k) (H : RdI σ) : RdI τ := by
  refine ⟨fun a b ha hb => ?_, fun a b ha hb => ?_⟩
  · rw [h (17 + a) (by omega) (by omega)]; exact H.1 a b ha hb
  · rw [h (23 + a) (by omega) (by omega)]; exact H.2 a b ha hb
theorem Lt.same {σ τ : MS} (h : ∀ w, w < 14 → τ (73 + w) 10 = σ (73 + w) 10) (H : Lt σ) : Lt τ := fun w hw => by rw [h w hw]; exact H w hw
theorem Inv.scr {σ τ : MS} {P B W T : Nat} (h : Scr σ τ) (H : Inv σ P B W T) : Inv τ P B W T :=
  ⟨H.1.same (fun k h1 h2 => h k (by omega)), H.2.1.same (fun w hw => by rw [h (73 + w) (by omega)]), H.2.2.scr h⟩
/-! a wedding is lost; something is paid for it -/
theorem hw_at {σ τ : MS} {w : Nat} (e7 : (τ (73 + w) 7 = 2) ↔ (σ (73 + w) 7 = 2)) (e8 : σ (73 + w) 7 = 2 → τ (73 + w) 8 = σ (73 + w) 8) (e4 : τ (73 + w) 4 = σ (73 + w) 4) : hoW τ w = hoW σ w := by
  unfold hoW
  by_cases c : σ (73 + w) 7 = 2
  · rw [if_pos c, if_pos (e7.mpr c), e8 c, e4]
  · rw [if_neg c, if_neg (fun q => c (e7.mp q))]
/-- some asked or fixed ones are lost, nothing else changes -/
def Lo (W : Nat) (σ τ : MS) : Prop := (∀ k j, (k < 73 ∨ j ≠ 7) → τ k j = σ k j) ∧ (∀ w, W ≤ w → w < 14 → τ (73 + w) 7 = σ (73 + w) 7) ∧ ∀ w, w < W → τ (73 + w) 7 = σ (73 + w) 7 ∨ (τ (73 + w) 7 = 3 ∧ (σ (73 + w) 7 = 0 ∨ σ (73 + w) 7 = 1))
theorem DI.lo {σ τ : MS} {P B W T Tl Tp : Nat} (O : Ok σ P B W T) (h : Lo W σ τ) (H : DI σ P W Tl Tp) : DI τ P W Tl Tp := by
  have hP := O.hP
  have hW := O.hW
  have hst : St σ τ := fun k j hk => h.1 k j (by unfold stc at hk; omega)
  obtain ⟨H0, H1, H2, H3, H4, H5⟩ := H
  have i2 : ∀ w, w < W → ((τ (73 + w) 7 = 2) ↔ (σ (73 + w) 7 = 2)) := fun w hw => by
    rcases h.2.2 w hw with e | ⟨e, f⟩
    · rw [e]
    · rw [e]
      constructor
      · intro q; exact absurd q (by decide)
      · intro q; rcases f with f | f <;> (rw [f] at q; exact absurd q (by decide))
  have en : nPl τ W = nPl σ W := by
    unfold nPl
    exact fb_ct_cong (fun w hw => decide_eq_decide.mpr (i2 w hw))
  refine ⟨fun w h1 h2 => ?_, fun w hw => ?_, fun a b ha hb hne a1 a2 a3 => ?_, ?_, ?_, fun p hp => ?_, fun s hs => ?_⟩
  · rw [h.2.1 w h1 h2, h.1 (73 + w) 8 (by omega), h.1 (73 + w) 9 (by omega), h.1 (73 + w) 11 (by omega)]
    exact H0 w h1 h2
  · rcases h.2.2 w hw with e | ⟨e, f⟩
    · exact (H1 w hw).st O (by omega) hst e (h.1 _ _ (by omega)) (h.1 _ _ (by omega))
    · exact Or.inr (Or.inr (Or.inr e))
  · rw [h.1 (73 + a) 0 (by omega), h.1 (73 + b) 0 (by omega)] at a2
    rw [h.1 (73 + a) 1 (by omega), h.1 (73 + b) 1 (by omega)] at a3
    have a1' : σ (73 + a) 7 = 1 := by
      rcases h.2.2 a ha with e | ⟨e, f⟩
      · rw [← e]; exact a1
      · rw [e] at a1; exact absurd a1 (by decide)
    have hh := H2 a b ha hb hne a1' a2 a3
    rcases h.2.2 b hb with e | ⟨e, f⟩
    · rw [e]; exact hh
    · rw [e]; exact ⟨by decide, by decide⟩
  · unfold D3 paidI earnI
    rw [h.1 0 10 (by omega), sumI_congr (f := fun w => σ (73 + w) 11) (fun w hw => h.1 _ _ (by omega)), sumI_congr (f := fun p => σ (29 + p) 5) (fun p hp => h.1 _ _ (by omega))]
    exact H3
  · unfold D4 hrsI
    rw [sumI_congr (f := fun p => σ (29 + p) 7) (fun p hp => h.1 _ _ (by omega)), sumI_congr (f := hoW σ) (fun w hw2 => hw_at (i2 w hw2) (fun _ => h.1 _ _ (by omega)) (h.1 _ _ (by omega)))]
    exact H4
  · rw [en, h.1 (29 + p) 6 (by omega), h.1 (29 + p) 7 (by omega)]
    exact H5.1 p hp
  · rw [en, h.1 (39 + s) 3 (by omega)]
    exact H5.2 s hs
theorem In0.lo {σ τ : MS} {P B W T Tl Tp : Nat} (h : Lo W σ τ) (H : In0 σ P B W T Tl Tp) : In0 τ P B W T Tl Tp := by
  have hst : St σ τ := fun k j hk => h.1 k j (by unfold stc at hk; omega)
  exact ⟨H.1.st hst (h.1 0 9 (by omega)), fun w hw => by rw [h.1 (73 + w) 8 (by omega)]; exact H.2.1 w hw, H.2.2.1.st H.1 hst, H.2.2.2.lo H.1 h⟩
theorem Lo.up {σ : MS} {W w : Nat} (hw : w < W) (hs : σ (73 + w) 7 = 0 ∨ σ (73 + w) 7 = 1) : Lo W σ (up2 σ (73 + w) 7 3) :=
  ⟨fun k j h => up2_at (by omega), fun v h1 h2 => up2_at (by omega), fun v hv => by
    by_cases e : v = w
    · subst e; exact Or.inr ⟨up2_same, hs⟩
    · exact Or.inl (up2_at (by omega))⟩
theorem Lo.rf (W : Nat) (σ : MS) : Lo W σ σ := ⟨fun _ _ _ => rfl, fun _ _ _ => rfl, fun _ _ => Or.inl rfl⟩
theorem Lo.tr {W : Nat} {a b c : MS} (h : Lo W a b) (g : Lo W b c) : Lo W a c :=
  ⟨fun k j hk => (g.1 k j hk).trans (h.1 k j hk), fun w h1 h2 => (g.2.1 w h1 h2).trans (h.2.1 w h1 h2), fun w hw => by
    rcases g.2.2 w hw with e | ⟨e, f⟩
    · rcases h.2.2 w hw with e2 | ⟨e2, f2⟩
      · exact Or.inl (e.trans e2)
      · exact Or.inr ⟨e.trans e2, f2⟩
    · rcases h.2.2 w hw with e2 | ⟨e2, f2⟩
      · rw [e2] at f; exact Or.inr ⟨e, f⟩
      · exact Or.inr ⟨e, f2⟩⟩
theorem i_c3 (c p a e : Int32) : c = p - e → c + a = p + (p + a - p) - e := by grind
theorem DI.paid {σ : MS} {P B W T Tl Tp w : Nat} {a : Int32} (O : Ok σ P B W T) (hw : w < W) (H : DI σ P W Tl Tp) : DI (paidF σ w a) P W Tl Tp := by
  have hP := O.hP
  have hW := O.hW
  have hst : St σ (paidF σ w a) := (St.up (by unfold stc; omega)).tr (St.up (by unfold stc; omega))
  have ne : ∀ k j, (k ≠ 73 + w ∨ j ≠ 11) → (k ≠ 0 ∨ j ≠ 10) → paidF σ w a k j = σ k j := fun k j h1 h2 => by
    unfold paidF
    rw [up2_at h2, up2_at h1]
  obtain ⟨H0, H1, H2, H3, H4, H5⟩ := H
  have en : nPl (paidF σ w a) W = nPl σ W := nPl_congr (fun v hv => ne _ _ (by omega) (by omega))
  refine ⟨fun v h1 h2 => ?_, fun v hv => (H1 v hv).st O (by omega) hst (ne _ _ (by omega) (by omega)) (ne _ _ (by omega) (by omega)) (ne _ _ (by omega) (by omega)), fun x y hx hy hne => ?_, ?_, ?_, fun p hp => ?_, fun s hs => ?_⟩
  · rw [ne _ 7 (by omega) (by omega), ne _ 8 (by omega) (by omega), ne _ 9 (by omega) (by omega), ne _ 11 (by omega) (by omega)]
    exact H0 v h1 h2
  · rw [ne (73 + x) 7 (by omega) (by omega), ne (73 + y) 7 (by omega) (by omega), ne (73 + x) 0 (by omega) (by omega), ne (73 + y) 0 (by omega) (by omega), ne (73 + x) 1 (by omega) (by omega), ne (73 + y) 1 (by omega) (by omega)]
    exact H2 x y hx hy hne
  · have e1 : paidF σ w a 0 10 = σ 0 10 + a := by unfold paidF; rw [up2_same]
    have e2 : paidF σ w a (73 + w) 11 = σ (73 + w) 11 + a := by unfold paidF; rw [up2_at (by omega), up2_same]
    have e3 : earnI (paidF σ w a) P = earnI σ P := sumI_congr (fun p hp => ne _ _ (by omega) (by omega))
    have e4 : paidI (paidF σ w a) W = paidI σ W + a := by
      have := sumI_set (f := fun v => σ (73 + v) 11) (g := fun v => paidF σ w a (73 + v) 11) (i := w) (n := W) (fun v hv hne => ne _ _ (by omega) (by omega)) hw
      unfold paidI
      rw [this, e2]
      grind
    unfold D3
    rw [e1, e3, e4]
    unfold D3 at H3
    rw [H3]
    grind
  · unfold D4 hrsI
    rw [sumI_congr (f := fun p => σ (29 + p) 7) (fun p hp => ne _ _ (by omega) (by omega)), sumI_congr (f := hoW σ) (fun v hv => hw_at (by rw [ne _ _ (by omega) (by omega)]) (fun _ => ne _ _ (by omega) (by omega)) (ne _ _ (by omega) (by omega)))]
    exact H4
  · rw [en, ne (29 + p) 6 (by omega) (by omega), ne (29 + p) 7 (by omega) (by omega)]
    exact H5.1 p hp
  · rw [en, ne (39 + s) 3 (by omega) (by omega)]
    exact H5.2 s hs
theorem In0.paid {σ : MS} {P B W T Tl Tp w : Nat} {a : Int32} (hw : w < W) (H : In0 σ P B W T Tl Tp) : In0 (paidF σ w a) P B W T Tl Tp := by
  have hst : St σ (paidF σ w a) := (St.up (by unfold stc; omega)).tr (St.up (by unfold stc; omega))
  exact ⟨H.1.paid (by have := H.1.hW; omega), H.2.1.kw (Kw.paid σ w a), H.2.2.1.st H.1 hst, H.2.2.2.paid H.1 hw⟩
