section
/-! what each call does to what always holds: learn, late, road, cancel, ask; and what goes on and never back -/
/-- states go on, prices stay -/
def RA (σ τ : MS) (w : Nat) : Prop := (τ (73 + w) 7 = σ (73 + w) 7 ∨ (σ (73 + w) 7 = 0 ∧ τ (73 + w) 7 = 3) ∨ (σ (73 + w) 7 = 1 ∧ (τ (73 + w) 7 = 2 ∨ τ (73 + w) 7 = 3))) ∧ τ (73 + w) 9 = σ (73 + w) 9
def RF (σ τ : MS) (w : Nat) : Prop := RA σ τ w ∨ (σ (73 + w) 7 = 0 ∧ τ (73 + w) 7 = 1)
def Sm (σ τ : MS) : Prop := ∀ s, s < 16 → (σ (39 + s) 3).toNatClampNeg ≤ (τ (39 + s) 3).toNatClampNeg
def RlA (σ τ : MS) : Prop := (∀ w, w < 14 → RA σ τ w) ∧ Sm σ τ
def Rl (σ τ : MS) : Prop := (∀ w, w < 14 → RF σ τ w) ∧ Sm σ τ
theorem RlA.rl {σ τ : MS} (h : RlA σ τ) : Rl σ τ := ⟨fun w hw => Or.inl (h.1 w hw), h.2⟩
theorem RA.tr {a b c : MS} {w : Nat} (h : RA a b w) (g : RA b c w) : RA a c w := by
  refine ⟨?_, g.2.trans h.2⟩
  rcases h.1 with e | ⟨e, f⟩ | ⟨e, f⟩
  · have := g.1
    rw [e] at this
    exact this
  · rcases g.1 with e2 | ⟨e2, f2⟩ | ⟨e2, f2⟩
    · exact Or.inr (Or.inl ⟨e, e2.trans f⟩)
    · rw [f] at e2; exact absurd e2 (by decide)
    · rw [f] at e2; exact absurd e2 (by decide)
  · rcases g.1 with e2 | ⟨e2, f2⟩ | ⟨e2, f2⟩
    · rw [e2]; exact Or.inr (Or.inr ⟨e, f⟩)
    · rcases f with f | f <;> (rw [f] at e2; exact absurd e2 (by decide))
    · rcases f with f | f <;> (rw [f] at e2; exact absurd e2 (by decide))
theorem RlA.tr {a b c : MS} (h : RlA a b) (g : RlA b c) : RlA a c := ⟨fun w hw => (h.1 w hw).tr (g.1 w hw), fun s hs => Nat.le_trans (h.2 s hs) (g.2 s hs)⟩
theorem RlA.dy {σ τ : MS} (h : Dy σ τ) : RlA σ τ := ⟨fun w hw => ⟨Or.inl (h _ _ (by unfold dyn; omega)), h _ _ (by unfold dyn; omega)⟩, fun s hs => by rw [h (39 + s) 3 (by unfold dyn; omega)]; exact Nat.le_refl _⟩
theorem RlA.rf (σ : MS) : RlA σ σ := RlA.dy (fun _ _ _ => rfl)
theorem RlA.lo {W : Nat} {σ τ : MS} (h : Lo W σ τ) : RlA σ τ := by
  refine ⟨fun w hw => ⟨?_, h.1 _ _ (by omega)⟩, fun s hs => by rw [h.1 (39 + s) 3 (by omega)]; exact Nat.le_refl _⟩
  by_cases c : w < W
  · rcases h.2.2 w c with e | ⟨e, f | f⟩
    · exact Or.inl e
    · exact Or.inr (Or.inl ⟨f, e⟩)
    · exact Or.inr (Or.inr ⟨f, Or.inr e⟩)
  · exact Or.inl (h.2.1 w (by omega) hw)
theorem RlA.at {σ τ : MS} (h7 : ∀ w, w < 14 → τ (73 + w) 7 = σ (73 + w) 7) (h9 : ∀ w, w < 14 → τ (73 + w) 9 = σ (73 + w) 9) (h3 : ∀ s, s < 16 → τ (39 + s) 3 = σ (39 + s) 3) : RlA σ τ :=
  ⟨fun w hw => ⟨Or.inl (h7 w hw), h9 w hw⟩, fun s hs => by rw [h3 s hs]; exact Nat.le_refl _⟩
theorem RlA.paid (σ : MS) (w : Nat) (a : Int32) : RlA σ (paidF σ w a) := by
  unfold paidF
  exact RlA.at (fun v hv => by rw [up2_at (by omega), up2_at (by omega)]) (fun v hv => by rw [up2_at (by omega), up2_at (by omega)]) (fun s hs => by rw [up2_at (by omega), up2_at (by omega)])
/-- roads and how late it is stay -/
def Sp (σ τ : MS) : Prop := (∀ k, 17 ≤ k → k < 29 → τ k = σ k) ∧ ∀ w, w < 14 → τ (73 + w) 10 = σ (73 + w) 10
theorem Sp.rf (σ : MS) : Sp σ σ := ⟨fun _ _ _ => rfl, fun _ _ => rfl⟩
theorem Sp.tr {a b c : MS} (h : Sp a b) (g : Sp b c) : Sp a c := ⟨fun k h1 h2 => (g.1 k h1 h2).trans (h.1 k h1 h2), fun w hw => (g.2 w hw).trans (h.2 w hw)⟩
theorem Sp.up {σ : MS} {k j : Nat} {v : Int32} (h : ¬ ((17 ≤ k ∧ k < 29) ∨ (73 ≤ k ∧ j = 10))) : Sp σ (up2 σ k j v) := ⟨fun k' h1 h2 => up2_ne (by omega), fun w hw => up2_at (by omega)⟩
theorem Sp.scr {σ τ : MS} (h : Scr σ τ) : Sp σ τ := ⟨fun k h1 h2 => h k (by omega), fun w hw => by rw [h (73 + w) (by omega)]⟩
theorem Sp.lo {W : Nat} {σ τ : MS} (h : Lo W σ τ) : Sp σ τ := ⟨fun k h1 h2 => funext fun j => h.1 k j (by omega), fun w hw => h.1 _ _ (by omega)⟩
theorem Sp.paid (σ : MS) (w : Nat) (a : Int32) : Sp σ (paidF σ w a) := (Sp.up (by omega)).tr (Sp.up (by omega))
theorem Inv.of {σ τ : MS} {P B W T P' B' W' T' : Nat} (H : Inv σ P B W T) (s : Sp σ τ) (h : In0 τ P' B' W' T' T' T') : Inv τ P' B' W' T' := ⟨H.1.same s.1, H.2.1.same s.2, h⟩
theorem inv_learn {σ : MS} {P B W T p : Nat} {v : Int32} (hp : p < 10) (H : Inv σ P B W T) : Inv (up2 σ (29 + p) 1 v) P B W T ∧ RlA σ (up2 σ (29 + p) 1 v) :=
  ⟨H.of (Sp.up (by omega)) (H.2.2.same (St.up (by unfold stc; omega)) (Dy.up (by unfold dyn; omega)) (up2_at (by omega))), RlA.dy (Dy.up (by unfold dyn; omega))⟩
theorem inv_late {σ : MS} {P B W T w : Nat} {m : Int32} (hw : w < 14) (h1 : ¬ m < 0) (h2 : m ≤ 240) (H : Inv σ P B W T) : Inv (up2 σ (73 + w) 10 m) P B W T ∧ RlA σ (up2 σ (73 + w) 10 m) := by
  refine ⟨⟨H.1.same (fun k h1 h2 => up2_ne (by omega)), fun v hv => ?_, H.2.2.same (St.up (by unfold stc; omega)) (Dy.up (by unfold dyn; omega)) (up2_at (by omega))⟩, RlA.dy (Dy.up (by unfold dyn; omega))⟩
  by_cases e : v = w
  · subst e
    rw [up2_same]
    obtain ⟨j, hj, rfl⟩ := nI_of h1
    exact ⟨j, by omega, (nI_leI hj (by decide)).mp (show nI j ≤ nI 240 from h2), rfl⟩
  · rw [up2_at (by omega)]
    exact H.2.1 v hv
theorem inv_road {σ : MS} {P B W T i j : Nat} {v : Int32} (hi : i < 6) (hj : j < 6) (hv : rg 0 9 v) (H : Inv σ P B W T) : Inv (layS σ i j v) P B W T ∧ RlA σ (layS σ i j v) := by
  have hst : St σ (layS σ i j v) := fun k' j' hk => by rw [lay_k hi hj (by unfold stc at hk; omega)]
  have hdy : Dy σ (layS σ i j v) := fun k' j' hk => by rw [lay_k hi hj (by unfold dyn at hk; omega)]
  exact ⟨⟨lay_ok hi hj hv H.1.1, H.2.1.same (fun w hw => by rw [lay_k hi hj (by omega)]), H.2.2.same hst hdy (by rw [lay_k hi hj (by omega)])⟩, RlA.dy hdy⟩
theorem inv_can {σ : MS} {P B W T w : Nat} (hw : w < W) (hs : σ (73 + w) 7 = 0 ∨ σ (73 + w) 7 = 1) (H : Inv σ P B W T) : Inv (canS σ w) P B W T ∧ RlA σ (canS σ w) := by
  unfold canS
  split
  · generalize (if 0 < owedF σ w - σ (73 + w) 11 then owedF σ w - σ (73 + w) 11 else 0) = a
    have e7 : paidF σ w a (73 + w) 7 = σ (73 + w) 7 := by unfold paidF; rw [up2_at (by omega), up2_at (by omega)]
    have hl : Lo W (paidF σ w a) (up2 (paidF σ w a) (73 + w) 7 3) := Lo.up hw (by rw [e7]; exact hs)
    exact ⟨H.of ((Sp.paid σ w a).tr (Sp.lo hl)) ((H.2.2.paid hw).lo hl), (RlA.paid σ w a).tr (RlA.lo hl)⟩
  · have hl : Lo W σ (up2 σ (73 + w) 7 3) := Lo.up hw hs
    exact ⟨H.of (Sp.lo hl) (H.2.2.lo hl), RlA.lo hl⟩
/-! a wedding asked for -/
/-- what was told of all but weddings stays, and of the wedding w -/
def Sw (w : Nat) (σ τ : MS) : Prop := (∀ k j, 29 ≤ k → k < 73 → stc k j → τ k j = σ k j) ∧ ∀ j, j ≤ 4 → τ (73 + w) j = σ (73 + w) j
theorem FilS.sw {σ τ : MS} {P B W T w : Nat} {v : Int32} (O : Ok σ P B W T) (hw : w < 14) (h : Sw w σ τ) (H : FilS σ P w v) : FilS τ P w v := by
  have hP := O.hP
  obtain ⟨s, h1, h2, h3, h4, h5⟩ := H
  have hb := O.bd hw
  have eb : bdOf τ w = bdOf σ w := by unfold bdOf; rw [h.2 0 (by omega)]
  refine ⟨s, h1, h2, h3, ?_, fun p hp hbt => ?_⟩
  · rw [eb, h.1 (55 + bdOf σ w) 2 (by omega) (by omega) (by unfold stc; omega)]
    exact h4
  · obtain ⟨j, j1, j2, j3⟩ := h5 p hp hbt
    refine ⟨j, ?_, j2, ?_⟩
    · rw [eb, h.1 (55 + bdOf σ w) 2 (by omega) (by omega) (by unfold stc; omega)]
      exact j1
    · unfold pl at j3 ⊢
      rw [eb, h.1 (29 + p) 0 (by omega) (by omega) (by unfold stc; omega), h.1 (67 + bdOf σ w) j (by omega) (by omega) (by unfold stc; omega)]
      exact j3
theorem dayIn.sw {σ τ : MS} {lo hi w : Nat} (h : Sw w σ τ) (H : dayIn σ lo hi w) : dayIn τ lo hi w := by
  obtain ⟨d, h1, h2, h3⟩ := H
  exact ⟨d, h1, h2, (h.2 1 (by omega)).trans h3⟩
theorem Wd.sw {σ τ : MS} {P B W T Tl Tp w : Nat} (O : Ok σ P B W T) (hw : w < 14) (h : Sw w σ τ) (e7 : τ (73 + w) 7 = σ (73 + w) 7) (e8 : τ (73 + w) 8 = σ (73 + w) 8) (e9 : τ (73 + w) 9 = σ (73 + w) 9) (H : Wd σ P Tl Tp w) : Wd τ P Tl Tp w := by
  unfold Wd at H ⊢
  rw [e7, e8, e9]
  rcases H with ⟨a, b, c, d⟩ | ⟨a, b, c, d⟩ | ⟨a, b, c, d⟩ | a
  · exact Or.inl ⟨a, b, c, d.sw h⟩
  · exact Or.inr (Or.inl ⟨a, b.sw h, c.sw O hw h, d⟩)
  · exact Or.inr (Or.inr (Or.inl ⟨a, b.sw h, c.sw O hw h, d⟩))
  · exact Or.inr (Or.inr (Or.inr a))
theorem taken_no {σ : MS} {a b : Int32} : ∀ {n : Nat}, taken σ a b n = false → ∀ w, w < n → ¬ (σ (73 + w) 7 = 1 ∧ σ (73 + w) 0 = a ∧ σ (73 + w) 1 = b)
  | 0, _, w, hw => absurd hw (by omega)
  | n + 1, h, w, hw => by
    unfold taken at h
    have h2 := Bool.or_eq_false_iff.mp h
    by_cases e : w = n
    · subst e; exact of_decide_eq_false h2.2
    · exact taken_no h2.1 w (by omega)
theorem inv_ask {σ : MS} {P B W T : Nat} {b d t s l g : Int32} (hb : ∃ k, k < B ∧ b = nI k) (ht : ∃ k, k < 6 ∧ t = nI k) (ok : askOk σ d s l g) (hW : W < 14) (hn : taken σ b d W = false) (H : Inv σ P B W T) : Inv (askS σ W b d t s l g) P B (W + 1) T ∧ RlA σ (askS σ W b d t s l g) := by
  have O := H.2.2.1
  have hP := O.hP
  have hBB := O.hB
  have ne : ∀ k j, (k ≠ 0 ∨ j ≠ 8) → (k ≠ 73 + W ∨ 7 ≤ j) → askS σ W b d t s l g k j = σ k j := fun k j h1 h2 => by
    unfold askS
    rw [up2_at h1, up2_at (by omega), up2_at (by omega), up2_at (by omega), up2_at (by omega), up2_at (by omega), up2_at (by omega), up2_at (by omega)]
  have e0 : askS σ W b d t s l g (73 + W) 0 = b := by
    unfold askS
    rw [up2_at (by omega), up2_at (by omega), up2_at (by omega), up2_at (by omega), up2_at (by omega), up2_at (by omega), up2_at (by omega), up2_same]
  have e1 : askS σ W b d t s l g (73 + W) 1 = d := by
    unfold askS
    rw [up2_at (by omega), up2_at (by omega), up2_at (by omega), up2_at (by omega), up2_at (by omega), up2_at (by omega), up2_same]
  have e3 : askS σ W b d t s l g (73 + W) 3 = s := by
    unfold askS
    rw [up2_at (by omega), up2_at (by omega), up2_at (by omega), up2_at (by omega), up2_same]
  have e4 : askS σ W b d t s l g (73 + W) 4 = l := by
    unfold askS
    rw [up2_at (by omega), up2_at (by omega), up2_at (by omega), up2_same]
  have O2 : Ok (askS σ W b d t s l g) P B (W + 1) T := O.ask hb ht ok hW
  generalize askS σ W b d t s l g = τ at ne e0 e1 e3 e4 O2
  obtain ⟨HR, HL, _, HP, HS, H0, H1, H2, H3, H4, H5⟩ := H
  have hsw : ∀ w, w < W → Sw w σ τ := fun w hw => ⟨fun k j h1 h2 _ => ne _ _ (by omega) (by omega), fun j hj => ne _ _ (by omega) (by omega)⟩
  have z0 := H0 W (Nat.le_refl W) hW
  have f7 : ∀ w, w < 14 → τ (73 + w) 7 = σ (73 + w) 7 := fun w hw => ne _ _ (by omega) (by omega)
  have f8 : ∀ w, w < 14 → τ (73 + w) 8 = σ (73 + w) 8 := fun w hw => ne _ _ (by omega) (by omega)
  have f9 : ∀ w, w < 14 → τ (73 + w) 9 = σ (73 + w) 9 := fun w hw => ne _ _ (by omega) (by omega)
  have f11 : ∀ w, w < 14 → τ (73 + w) 11 = σ (73 + w) 11 := fun w hw => ne _ _ (by omega) (by omega)
  have hd : ∃ k, T ≤ k ∧ k < 366 ∧ d = nI k := by
    have hT := O.hT
    have h9 := O.h9
    have h0 : ¬ d < 0 := fun q => ok.1 (by rw [h9]; exact Int32.lt_of_lt_of_le q (nI_pos' (by omega)))
    obtain ⟨k, hk, rfl⟩ := nI_of h0
    have k2 := (nI_leI hk (by decide)).mp (show nI k ≤ nI 365 from Int32.not_lt.mp ok.2.1)
    have k1 : T ≤ k := Nat.le_of_not_lt fun q => ok.1 (by rw [h9]; exact nI_lt q (by omega))
    exact ⟨k, k1, by omega, rfl⟩
  have hh : ∃ x y, 10 ≤ x ∧ x ≤ 22 ∧ 1 ≤ y ∧ y ≤ 6 ∧ x + y ≤ 24 ∧ s = nI x ∧ l = nI y := by
    obtain ⟨q1, q2, q3, q4, q5⟩ := of_decide_eq_true ok.2.2.1
    have s0 : ¬ s < 0 := fun q => q1 (Int32.lt_trans q (by decide))
    have l0 : ¬ l < 0 := fun q => q3 (Int32.lt_trans q (by decide))
    obtain ⟨x, hx, rfl⟩ := nI_of s0
    obtain ⟨y, hy, rfl⟩ := nI_of l0
    have x1 : 10 ≤ x := Nat.le_of_not_lt fun q => q1 (show nI x < nI 10 from nI_lt q (by decide))
    have x2 : x ≤ 22 := Nat.le_of_not_lt fun q => q2 (show nI 22 < nI x from nI_lt q (by omega))
    have y1 : 1 ≤ y := Nat.le_of_not_lt fun q => q3 (show nI y < nI 1 from nI_lt q (by decide))
    have y2 : y ≤ 6 := Nat.le_of_not_lt fun q => q4 (show nI 6 < nI y from nI_lt q (by omega))
    have xy : x + y ≤ 24 := Nat.le_of_not_lt fun q => q5 (by rw [nI_add]; exact (show nI 24 < nI (x + y) from nI_lt q (by omega)))
    exact ⟨x, y, x1, x2, y1, y2, xy, rfl, rfl⟩
  have en : nPl τ (W + 1) = nPl σ W := by
    have e : nPl τ W = nPl σ W := nPl_congr (fun w hw => f7 w (by omega))
    show nPl τ W + (if decide (τ (73 + W) 7 = 2) then 1 else 0) = _
    rw [e, f7 W hW, z0.1]
    rfl
  refine ⟨⟨HR.same (fun k h1 h2 => funext fun j => ne _ _ (by omega) (by omega)), HL.same (fun w hw => ne _ _ (by omega) (by omega)), O2, fun w hw => by rw [f8 w hw]; exact HP w hw, ⟨fun p hp => ?_, fun x hx => ?_, fun c hc => ?_, fun w hw => ?_⟩, fun w h1 h2 => ?_, fun w hw => ?_, fun x y hx hy hne a1 a2 a3 => ?_, ?_, ?_, fun p hp => ?_, fun x hx => ?_⟩, RlA.at f7 f9 (fun x hx => ne _ _ (by omega) (by omega))⟩
  · rw [ne (29 + p) 3 (by omega) (by omega)]
    exact HS.1 p hp
  · exact hx
  · exact (HS.2.2.1 c hc).same (ne _ _ (by omega) (by omega)) (funext fun j => ne _ _ (by omega) (by omega)) (funext fun j => ne _ _ (by omega) (by omega))
  · by_cases e : w = W
    · subst e
      obtain ⟨k, hk, hk2⟩ := hb
      obtain ⟨x, y, r⟩ := hh
      unfold Ws
      rw [e0, e3, e4]
      exact ⟨⟨k, hk, hk2⟩, x, y, r⟩
    · unfold Ws
      rw [ne (73 + w) 0 (by omega) (by omega), ne (73 + w) 3 (by omega) (by omega), ne (73 + w) 4 (by omega) (by omega)]
      exact HS.2.2.2 w (by omega)
  · rw [f7 w h2, f8 w h2, f9 w h2, f11 w h2]
    exact H0 w (by omega) h2
  · by_cases e : w = W
    · subst e
      refine Or.inl ⟨(f7 w hW).trans z0.1, (f8 w hW).trans z0.2.1, (f9 w hW).trans z0.2.2.1, ?_⟩
      obtain ⟨k, k1, k2, k3⟩ := hd
      exact ⟨k, k1, k2, e1.trans k3⟩
    · exact (H1 w (by omega)).sw O (by omega) (hsw w (by omega)) (f7 w (by omega)) (f8 w (by omega)) (f9 w (by omega))
  · rw [f7 x (by omega)] at a1
    rw [f7 y (by omega)]
    by_cases ex : x = W
    · subst ex
      rw [z0.1] at a1
      exact absurd a1 (by decide)
    · rw [ne (73 + x) 0 (by omega) (by omega)] at a2
      rw [ne (73 + x) 1 (by omega) (by omega)] at a3
      by_cases ey : y = W
      · subst ey
        rw [e0] at a2
        rw [e1] at a3
        exact absurd ⟨a1, a2, a3⟩ (taken_no hn x (by omega))
      · rw [ne (73 + y) 0 (by omega) (by omega)] at a2
        rw [ne (73 + y) 1 (by omega) (by omega)] at a3
        exact H2 x y (by omega) (by omega) hne a1 a2 a3
  · show τ 0 10 = sumI (fun w => τ (73 + w) 11) W + τ (73 + W) 11 - sumI (fun p => τ (29 + p) 5) P
    rw [sumI_congr (f := fun w => σ (73 + w) 11) (n := W) (fun w hw => f11 w (by omega)), sumI_congr (f := fun p => σ (29 + p) 5) (n := P) (fun p hp => ne _ _ (by omega) (by omega)), f11 W hW, z0.2.2.2, Int32.add_zero, ne 0 10 (by omega) (by omega)]
    exact H3
  · show sumI (fun p => τ (29 + p) 7) P = sumI (hoW τ) W + hoW τ W
    have e : hoW τ W = 0 := by
      unfold hoW
      rw [if_neg]
      rw [f7 W hW, z0.1]
      decide
    rw [e, Int32.add_zero, sumI_congr (f := fun p => σ (29 + p) 7) (n := P) (fun p hp => ne _ _ (by omega) (by omega)), sumI_congr (f := hoW σ) (g := hoW τ) (n := W) (fun w hw => hw_at (by rw [f7 w (by omega)]) (fun _ => f8 w (by omega)) (ne _ _ (by omega) (by omega)))]
    exact H4
  · rw [en, ne (29 + p) 6 (by omega) (by omega), ne (29 + p) 7 (by omega) (by omega)]
    exact H5.1 p hp
  · rw [en, ne (39 + x) 3 (by omega) (by omega)]
    exact H5.2 x hx
end
section
/-! fix; ill -/
theorem snF_fil {σ : MS} {w P W : Nat} (hP : P ≤ 10) (h : ¬ snF σ w P W 9 3 = 0) : ∃ s, 1 ≤ s ∧ s < 2 ^ P ∧ snF σ w P W 9 0 = nI s ∧ snF σ w P W 9 1 = costsF σ (nI s) w P ∧ FilS σ P w (nI s) := by
  have hs := Scr.stg σ W
  obtain ⟨s, h1, h2, h3, h4, h5, h6⟩ := surv_fil (σ := stg σ W) (w := w) hP h
  rw [costsF_sc hs] at h4
  rw [bdOf_sc hs, hs.c55] at h5
  refine ⟨s, h1, h2, h3, h4, s, h1, h2, rfl, h5, fun p hp hb => ?_⟩
  have := h6 p hp hb
  rw [bdOf_sc hs] at this
  exact seats_sc hs this
theorem costs_ok {σ : MS} {P B W T w : Nat} {s : Int32} (O : Ok σ P B W T) (hR : RdI σ) (hS : SI σ P B W) (hw : w < W) : rg 0 63540 (costsF σ s w P) := by
  have hP := O.hP
  have hW := O.hW
  have hl : rg 0 6 (σ (73 + w) 4) := by
    obtain ⟨_, x, y, _, _, y1, y2, _, _, e⟩ := hS.2.2.2 w hw
    exact ⟨y, by omega, y2, e⟩
  exact (sum_ok (f := ifb s fun p => costF σ p w) (M := 6354) P (fun p hp => ifb_ok (s := s) (f := fun p => costF σ p w) (cost_ok hR.2 (O.home p (by omega)) (O.town w (by omega)) ((hS.1 p hp).1.wk (by omega) (Nat.le_refl _)) hl))).wk (Nat.le_refl 0) (show P * 6354 ≤ 63540 by omega)
theorem loseQ_lo {y : MS} {a W : Nat} : Lo W y (loseQ y a W) := by
  refine ⟨fun k j h => if_neg (by omega), fun w h1 h2 => if_neg (by omega), fun w hw => ?_⟩
  by_cases c : 73 ≤ 73 + w ∧ 73 + w < 73 + W ∧ 73 + w ≠ 73 + a ∧ inQ y (73 + w - 73) a = true ∧ 7 = 7
  · refine Or.inr ⟨if_pos c, Or.inl ?_⟩
    have := c.2.2.2.1
    rw [show 73 + w - 73 = w by omega] at this
    exact (of_decide_eq_true this).1
  · exact Or.inl (if_neg c)
theorem loseQ_in {y : MS} {a W b : Nat} (hb : b < W) (hne : b ≠ a) (hq : inQ y b a = true) : loseQ y a W (73 + b) 7 = 3 := if_pos ⟨by omega, by omega, by omega, by rw [show 73 + b - 73 = b by omega]; exact hq, rfl⟩
theorem Wd.asked {σ : MS} {P Tl Tp w : Nat} (H : Wd σ P Tl Tp w) (h : σ (73 + w) 7 = 0) : dayIn σ Tl 366 w := by
  rcases H with ⟨a, b, c, d⟩ | ⟨a, _⟩ | ⟨a, _⟩ | a
  · exact d
  · rw [a] at h; exact absurd h (by decide)
  · rw [a] at h; exact absurd h (by decide)
  · rw [a] at h; exact absurd h (by decide)
theorem Wd.fixed {σ : MS} {P Tl Tp w : Nat} (H : Wd σ P Tl Tp w) (h : σ (73 + w) 7 = 1) : dayIn σ Tl 366 w ∧ FilS σ P w (σ (73 + w) 8) ∧ rg 50 76298 (σ (73 + w) 9) := by
  rcases H with ⟨a, _⟩ | ⟨a, b⟩ | ⟨a, _⟩ | a
  · rw [a] at h; exact absurd h (by decide)
  · exact b
  · rw [a] at h; exact absurd h (by decide)
  · rw [a] at h; exact absurd h (by decide)
/-- an asked one becomes fixed, with none of its band and day asked or fixed -/
theorem In0.fixw {z : MS} {P B W T w : Nat} {v c : Int32} (hw : w < W) (H : In0 z P B W T T T) (h7 : z (73 + w) 7 = 0) (hv : FilS z P w v) (hc : rg 50 76298 c) (hu : ∀ b, b < W → b ≠ w → z (73 + w) 0 = z (73 + b) 0 → z (73 + w) 1 = z (73 + b) 1 → ¬ z (73 + b) 7 = 0 ∧ ¬ z (73 + b) 7 = 1) :
    In0 (up2 (up2 (up2 z (73 + w) 7 1) (73 + w) 8 v) (73 + w) 9 c) P B W T T T := by
  obtain ⟨O, HP, HS, H0, H1, H2, H3, H4, H5⟩ := H
  have hP := O.hP
  have hW := O.hW
  have hst : St z (up2 (up2 (up2 z (73 + w) 7 1) (73 + w) 8 v) (73 + w) 9 c) := ((St.up (by unfold stc; omega)).tr (St.up (by unfold stc; omega))).tr (St.up (by unfold stc; omega))
  have ne : ∀ k j, (k ≠ 73 + w ∨ (j ≠ 7 ∧ j ≠ 8 ∧ j ≠ 9)) → up2 (up2 (up2 z (73 + w) 7 1) (73 + w) 8 v) (73 + w) 9 c k j = z k j := fun k j h => by rw [up2_at (by omega), up2_at (by omega), up2_at (by omega)]
  have w7 : up2 (up2 (up2 z (73 + w) 7 1) (73 + w) 8 v) (73 + w) 9 c (73 + w) 7 = 1 := by rw [up2_at (by omega), up2_at (by omega), up2_same]
  have w8 : up2 (up2 (up2 z (73 + w) 7 1) (73 + w) 8 v) (73 + w) 9 c (73 + w) 8 = v := by rw [up2_at (by omega), up2_same]
  have w9 : up2 (up2 (up2 z (73 + w) 7 1) (73 + w) 8 v) (73 + w) 9 c (73 + w) 9 = c := up2_same
  generalize up2 (up2 (up2 z (73 + w) 7 1) (73 + w) 8 v) (73 + w) 9 c = τ at hst ne w7 w8 w9
  have i2 : ∀ b, b < W → ((τ (73 + b) 7 = 2) ↔ (z (73 + b) 7 = 2)) := fun b hb => by
    by_cases e : b = w
    · subst e
      rw [w7, h7]
      exact ⟨fun q => absurd q (by decide), fun q => absurd q (by decide)⟩
    · rw [ne _ _ (by omega)]
  have en : nPl τ W = nPl z W := by
    unfold nPl
    exact fb_ct_cong (fun b hb => decide_eq_decide.mpr (i2 b hb))
  refine ⟨O.st hst (ne _ _ (by omega)), fun b hb => ?_, HS.st O hst, fun b h1 h2 => ?_, fun b hb => ?_, fun x y hx hy hne a1 a2 a3 => ?_, ?_, ?_, fun p hp => ?_, fun s hs => ?_⟩
  · by_cases e : b = w
    · subst e
      rw [w8]
      obtain ⟨s, _, q2, q3, _⟩ := hv
      rw [q3]
      exact inP_n hP q2
    · rw [ne _ _ (by omega)]; exact HP b hb
  · rw [ne _ 7 (by omega), ne _ 8 (by omega), ne _ 9 (by omega), ne _ 11 (by omega)]
    exact H0 b h1 h2
  · by_cases e : b = w
    · subst e
      refine Or.inr (Or.inl ⟨w7, ((H1 b hb).asked h7).st (by omega) hst, ?_, by rw [w9]; exact hc⟩)
      rw [w8]
      exact hv.st O (by omega) hst
    · exact (H1 b hb).st O (by omega) hst (ne _ _ (by omega)) (ne _ _ (by omega)) (ne _ _ (by omega))
  · rw [ne (73 + x) 0 (by omega), ne (73 + y) 0 (by omega)] at a2
    rw [ne (73 + x) 1 (by omega), ne (73 + y) 1 (by omega)] at a3
    by_cases ex : x = w
    · subst ex
      rw [ne (73 + y) 7 (by omega)]
      exact hu y hy (Ne.symm hne) a2 a3
    · rw [ne (73 + x) 7 (by omega)] at a1
      by_cases ey : y = w
      · subst ey
        exact absurd a1 (hu x hx ex a2.symm a3.symm).2
      · rw [ne (73 + y) 7 (by omega)]
        exact H2 x y hx hy hne a1 a2 a3
  · unfold D3 paidI earnI
    rw [ne 0 10 (by omega), sumI_congr (f := fun w => z (73 + w) 11) (n := W) (fun w hw => ne _ _ (by omega)), sumI_congr (f := fun p => z (29 + p) 5) (n := P) (fun p hp => ne _ _ (by omega))]
    exact H3
  · unfold D4 hrsI
    rw [sumI_congr (f := fun p => z (29 + p) 7) (n := P) (fun p hp => ne _ _ (by omega)), sumI_congr (f := hoW z) (g := hoW τ) (n := W) (fun b hb => hw_at (i2 b hb) (fun q => ne _ _ (by
      by_cases e : b = w
      · subst e; rw [h7] at q; exact absurd q (by decide)
      · omega)) (ne _ _ (by omega)))]
    exact H4
  · rw [en, ne (29 + p) 6 (by omega), ne (29 + p) 7 (by omega)]
    exact H5.1 p hp
  · rw [en, ne (39 + s) 3 (by omega)]
    exact H5.2 s hs
theorem inv_fix {σ : MS} {P B W T w : Nat} (hw : w < W) (hf : isFst σ w = true) (hc : ¬ snF σ w P W 9 3 = 0) (H : Inv σ P B W T) : Inv (fixS σ w P W) P B W T ∧ Rl σ (fixS σ w P W) := by
  have O := H.2.2.1
  have hP := O.hP
  have hW := O.hW
  have hf0 := (of_decide_eq_true hf).1
  obtain ⟨s, s1, s2, e0, e1, hfil⟩ := snF_fil hP hc
  have hpr : rg 50 76298 (priceI (costsF σ (nI s) w P)) := price_ok (costs_ok O H.1 H.2.2.2.2.1 hw)
  have hsc := Scr.sn σ w P W
  have Hy := H.2.2.scr hsc
  unfold fixS
  dsimp only
  generalize snF σ w P W = y at e0 e1 hsc Hy
  have hlo : Lo W y (loseQ y w W) := loseQ_lo
  have Hz := Hy.lo hlo
  have ez9 : loseQ y w W 9 = y 9 := loseQ_k (by decide)
  have ezw : loseQ y w W (73 + w) 7 = y (73 + w) 7 := if_neg (by omega)
  have hstz : St σ (loseQ y w W) := fun k j hk => by
    rw [hlo.1 k j (by unfold stc at hk; omega), hsc k (by unfold stc at hk; omega)]
  have hu : ∀ b, b < W → b ≠ w → loseQ y w W (73 + w) 0 = loseQ y w W (73 + b) 0 → loseQ y w W (73 + w) 1 = loseQ y w W (73 + b) 1 → ¬ loseQ y w W (73 + b) 7 = 0 ∧ ¬ loseQ y w W (73 + b) 7 = 1 := fun b hb hne a1 a2 => by
    rw [hstz (73 + w) 0 (by unfold stc; omega), hstz (73 + b) 0 (by unfold stc; omega)] at a1
    rw [hstz (73 + w) 1 (by unfold stc; omega), hstz (73 + b) 1 (by unfold stc; omega)] at a2
    by_cases c : σ (73 + b) 7 = 0
    · have : inQ y b w = true := by
        rw [inQ_sc hsc]
        exact decide_eq_true ⟨c, hf0, a1.symm, a2.symm⟩
      rw [loseQ_in hb hne this]
      exact ⟨by decide, by decide⟩
    · have e7 : loseQ y w W (73 + b) 7 = 3 ∨ loseQ y w W (73 + b) 7 = σ (73 + b) 7 := by
        rcases hlo.2.2 b hb with q | ⟨q, _⟩
        · exact Or.inr (q.trans (by rw [hsc.c73]))
        · exact Or.inl q
      rcases e7 with q | q
      · rw [q]; exact ⟨by decide, by decide⟩
      · rw [q]
        refine ⟨c, fun d => ?_⟩
        exact (H.2.2.2.2.2.2.2.1 b w hb hw hne d a1.symm a2.symm).1 hf0
  have hfz : FilS (loseQ y w W) P w (nI s) := hfil.st O (by omega) hstz
  rw [ez9, e0, e1]
  have Hx := In0.fixw hw Hz (by rw [ezw, hsc.c73]; exact hf0) hfz hpr hu
  refine ⟨H.of ?_ (Hx.paid hw), ?_⟩
  · exact ((((((Sp.scr hsc).tr (Sp.lo hlo)).tr (Sp.up (by omega))).tr (Sp.up (by omega))).tr (Sp.up (by omega)))).tr (Sp.paid _ _ _)
  · have r1 : RlA σ (loseQ y w W) := (RlA.dy (Dy.scr hsc)).tr (RlA.lo hlo)
    refine ⟨fun v hv => ?_, fun t ht => ?_⟩
    · by_cases e : v = w
      · subst e
        refine Or.inr ⟨hf0, ?_⟩
        unfold paidF
        rw [up2_at (by omega), up2_at (by omega), up2_at (by omega), up2_at (by omega), up2_same]
      · refine Or.inl ?_
        have := r1.1 v hv
        unfold RA at this ⊢
        unfold paidF
        rw [up2_at (by omega), up2_at (by omega), up2_at (by omega), up2_at (by omega), up2_at (by omega), up2_at (by omega), up2_at (by omega), up2_at (by omega), up2_at (by omega), up2_at (by omega)]
        exact this
    · have := r1.2 t ht
      unfold paidF
      rw [up2_at (by omega), up2_at (by omega), up2_at (by omega), up2_at (by omega), up2_at (by omega)]
      exact this
/-! ill -/
theorem In0.put {σ : MS} {P B W T w : Nat} {v : Int32} (hw : w < W) (H : In0 σ P B W T T T) (h7 : σ (73 + w) 7 = 1) (hv : FilS σ P w v) : In0 (up2 σ (73 + w) 8 v) P B W T T T := by
  obtain ⟨O, HP, HS, H0, H1, H2, H3, H4, H5⟩ := H
  have hP := O.hP
  have hW := O.hW
  have hst : St σ (up2 σ (73 + w) 8 v) := St.up (by unfold stc; omega)
  have ne : ∀ k j, (k ≠ 73 + w ∨ j ≠ 8) → up2 σ (73 + w) 8 v k j = σ k j := fun k j h => up2_at h
  have w8 : up2 σ (73 + w) 8 v (73 + w) 8 = v := up2_same
  generalize up2 σ (73 + w) 8 v = τ at hst ne w8
  have en : nPl τ W = nPl σ W := nPl_congr (fun b hb => ne _ _ (by omega))
  refine ⟨O.st hst (ne _ _ (by omega)), fun b hb => ?_, HS.st O hst, fun b h1 h2 => ?_, fun b hb => ?_, fun x y hx hy hne a1 a2 a3 => ?_, ?_, ?_, fun p hp => ?_, fun s hs => ?_⟩
  · by_cases e : b = w
    · subst e
      rw [w8]
      obtain ⟨s, _, q2, q3, _⟩ := hv
      rw [q3]
      exact inP_n hP q2
    · rw [ne _ _ (by omega)]; exact HP b hb
  · rw [ne _ 7 (by omega), ne _ 8 (by omega), ne _ 9 (by omega), ne _ 11 (by omega)]
    exact H0 b h1 h2
  · by_cases e : b = w
    · subst e
      obtain ⟨q1, q2, q3⟩ := (H1 b hb).fixed h7
      refine Or.inr (Or.inl ⟨(ne _ _ (by omega)).trans h7, q1.st (by omega) hst, ?_, by rw [ne _ _ (by omega)]; exact q3⟩)
      rw [w8]
      exact hv.st O (by omega) hst
    · exact (H1 b hb).st O (by omega) hst (ne _ _ (by omega)) (ne _ _ (by omega)) (ne _ _ (by omega))
  · rw [ne (73 + x) 0 (by omega), ne (73 + y) 0 (by omega)] at a2
    rw [ne (73 + x) 1 (by omega), ne (73 + y) 1 (by omega)] at a3
    rw [ne (73 + x) 7 (by omega)] at a1
    rw [ne (73 + y) 7 (by omega)]
    exact H2 x y hx hy hne a1 a2 a3
  · unfold D3 paidI earnI
    rw [ne 0 10 (by omega), sumI_congr (f := fun w => σ (73 + w) 11) (n := W) (fun w hw => ne _ _ (by omega)), sumI_congr (f := fun p => σ (29 + p) 5) (n := P) (fun p hp => ne _ _ (by omega))]
    exact H3
  · unfold D4 hrsI
    rw [sumI_congr (f := fun p => σ (29 + p) 7) (n := P) (fun p hp => ne _ _ (by omega)), sumI_congr (f := hoW σ) (g := hoW τ) (n := W) (fun b hb => hw_at (by rw [ne _ _ (by omega)]) (fun q => ne _ _ (by
      by_cases e : b = w
      · subst e; rw [h7] at q; exact absurd q (by decide)
      · omega)) (ne _ _ (by omega)))]
    exact H4
  · rw [en, ne (29 + p) 6 (by omega), ne (29 + p) 7 (by omega)]
    exact H5.1 p hp
  · rw [en, ne (39 + s) 3 (by omega)]
    exact H5.2 s hs
/-- on stage stand those who were found anew, or nobody, where the player plays that day -/
theorem sw_fil {σ : MS} {P B W T p : Nat} {day : Int32} (O : Ok σ P B W T) : ∀ n, n ≤ W → (∀ j, j < n → σ (73 + j) 1 = day → fxw σ j p = true → (swS σ P W p day n).1 7 j = 0 ∨ FilS σ P j ((swS σ P W p day n).1 7 j)) ∧ ∀ j, n ≤ j → j < W → (swS σ P W p day n).1 7 j = stg σ W 7 j
  | 0, _ => ⟨fun j hj => absurd hj (by omega), fun j _ _ => rfl⟩
  | n + 1, hn => by
    have hP := O.hP
    have hW := O.hW
    obtain ⟨i1, i2⟩ := sw_fil (p := p) (day := day) O n (by omega)
    have hs := Scr.sw σ P W p day n
    unfold swS
    (try dsimp only)
    generalize swS σ P W p day n = x at i1 i2 hs
    by_cases c : x.1 (73 + n) 1 = day ∧ bt (x.1 7 n) p = true
    · rw [if_pos c]
      dsimp only
      have e7 : survF x.1 n P (freeF x.1 n W P &&& (one p ^^^ (-1))) (x.1 7 n) 7 = x.1 7 := by
        unfold survF svAll
        rw [up2_ne (by decide), sv_7]
        unfold svIn
        rw [sat_7]
        exact clear_7 _
      have hfl := surv_fil (σ := x.1) (w := n) (free := freeF x.1 n W P &&& (one p ^^^ (-1))) (had := x.1 7 n) hP
      generalize survF x.1 n P (freeF x.1 n W P &&& (one p ^^^ (-1))) (x.1 7 n) = y at e7 hfl
      refine ⟨fun j hj hd hx => ?_, fun j h1 h2 => ?_⟩
      · by_cases e : j = n
        · subst e
          rw [up2_same]
          by_cases z : y 9 3 = 0
          · rw [if_pos z]; exact Or.inl rfl
          · rw [if_neg z]
            obtain ⟨s, s1, s2, e0, _, e5, e6⟩ := hfl z
            rw [bdOf_sc hs, hs.c55] at e5
            refine Or.inr ⟨s, s1, s2, e0, e5, fun q hq hb => ?_⟩
            have := e6 q hq hb
            rw [bdOf_sc hs] at this
            exact seats_sc hs this
        · rw [up2_at (Or.inr e), e7]
          exact i1 j (by omega) hd hx
      · rw [up2_at (Or.inr (by omega)), e7]
        exact i2 j (by omega) h2
    · rw [if_neg c]
      refine ⟨fun j hj hd hx => ?_, fun j h1 h2 => i2 j (by omega) h2⟩
      by_cases e : j = n
      · subst e
        refine absurd ⟨by rw [hs.c73]; exact hd, ?_⟩ c
        unfold fxw at hx
        have hx2 := Bool.and_eq_true _ _ |>.mp hx
        rw [i2 j (Nat.le_refl _) (by omega), stg_at (by omega), if_pos (of_decide_eq_true hx2.1)]
        exact hx2.2
      · exact i1 j (by omega) hd hx
theorem illS_m {z : MS} {p : Nat} {day : Int32} : ∀ n m, n ≤ m → m < 14 → illS z p day n (73 + m) = z (73 + m)
  | 0, _, _, _ => rfl
  | n + 1, m, h, h2 => by
    have ih := illS_m (z := z) (p := p) (day := day) n m (by omega) h2
    unfold illS
    split
    · rw [← ih]
      generalize illS z p day n = y
      unfold putF paidF
      split
      · rw [up2_ne (by omega), up2_ne (by omega), up2_ne (by omega)]
      · rw [up2_ne (by omega)]
    · exact ih
theorem in0_ill {z : MS} {P B W T p : Nat} {day : Int32} (H : In0 z P B W T T T) (hs : ∀ j, j < W → z (73 + j) 1 = day → fxw z j p = true → z 7 j = 0 ∨ FilS z P j (z 7 j)) : ∀ n, n ≤ W → In0 (illS z p day n) P B W T T T ∧ RlA z (illS z p day n) ∧ Sp z (illS z p day n) ∧ St z (illS z p day n)
  | 0, _ => ⟨H, RlA.rf z, Sp.rf z, St.rf z⟩
  | n + 1, hn => by
    have hW := H.1.hW
    obtain ⟨h1, h2, h3, h4⟩ := in0_ill H hs n (by omega)
    have em := illS_m (z := z) (p := p) (day := day) n n (Nat.le_refl n) (by omega)
    have e7 := illS_7 (σ := z) (p := p) (day := day) n
    unfold illS
    split
    · rename_i c
      generalize illS z p day n = y at h1 h2 h3 h4 em e7 c
      have cx : fxw z n p = true := by
        have := c.2
        unfold fxw at this ⊢
        rw [em] at this
        exact this
      have c7 : y (73 + n) 7 = 1 := by
        have := c.2
        unfold fxw at this
        exact of_decide_eq_true (Bool.and_eq_true _ _ |>.mp this).1
      have hh := hs n (by omega) (by rw [← em]; exact c.1) cx
      unfold putF
      rw [e7]
      by_cases d : z 7 n = 0
      · rw [if_pos d]
        have hl : Lo W y (up2 y (73 + n) 7 3) := Lo.up (by omega) (Or.inr c7)
        exact ⟨(h1.lo hl).paid (by omega), (h2.tr (RlA.lo hl)).tr (RlA.paid _ _ _), (h3.tr (Sp.lo hl)).tr (Sp.paid _ _ _), (h4.tr (St.up (by unfold stc; omega))).tr ((St.up (by unfold stc; omega)).tr (St.up (by unfold stc; omega)))⟩
      · rw [if_neg d]
        have hf : FilS y P n (z 7 n) := (hh.elim (fun q => absurd q d) id).st H.1 (by omega) h4
        refine ⟨h1.put (by omega) c7 hf, h2.tr (RlA.at (fun v hv => up2_at (by omega)) (fun v hv => up2_at (by omega)) (fun s hs => up2_at (by omega))), h3.tr (Sp.up (by omega)), h4.tr (St.up (by unfold stc; omega))⟩
    · exact ⟨h1, h2, h3, h4⟩
theorem inv_ill {σ : MS} {P B W T p d : Nat} (H : Inv σ P B W T) : Inv (illS (offS σ P W p d) p (nI d) W) P B W T ∧ RlA σ (illS (offS σ P W p d) p (nI d) W) := by
  have O := H.2.2.1
  have hs := Scr.sw σ P W p (nI d) W
  have hf := (sw_fil (p := p) (day := nI d) O W (Nat.le_refl W)).1
  have Hx := H.2.2.scr hs
  unfold offS
  generalize (swS σ P W p (nI d) W).1 = x at hs hf Hx
  have hst : St x (up2 x 6 d (x 6 d ||| one p)) := St.up (by unfold stc; omega)
  have hdy : Dy x (up2 x 6 d (x 6 d ||| one p)) := Dy.up (by unfold dyn; omega)
  have Hz := Hx.same hst hdy (up2_at (by omega))
  have hsz : St σ (up2 x 6 d (x 6 d ||| one p)) := (St.scr hs).tr hst
  obtain ⟨h1, h2, h3, h4⟩ := in0_ill (p := p) (day := nI d) Hz (fun j hj hd hx => by
    have hW := O.hW
    rw [up2_at (by omega)] at hd
    rw [up2_at (by omega)]
    have hx2 : fxw σ j p = true := by
      unfold fxw at hx ⊢
      rw [up2_at (by omega), up2_at (by omega), hs.c73] at hx
      exact hx
    rw [hs.c73] at hd
    rcases hf j hj hd hx2 with q | q
    · exact Or.inl q
    · exact Or.inr (q.st O (by omega) hsz)) W (Nat.le_refl W)
  exact ⟨H.of (((Sp.scr hs).tr (Sp.up (by omega))).tr h3) h1, ((RlA.dy (Dy.scr hs)).tr (RlA.dy hdy)).tr h2⟩
end
section
/-! pass -/
theorem py_facts {x : MS} {P w : Nat} (hP : P ≤ 10) : ∀ n, n ≤ P →
    (∀ k j, ¬ (k = 0 ∧ j = 10) → ¬ (29 ≤ k ∧ k < 29 + n ∧ 5 ≤ j ∧ j ≤ 7) → pyS x w n k j = x k j) ∧
    pyS x w n 0 10 + earnI (pyS x w n) P = x 0 10 + earnI x P ∧
    hrsI (pyS x w n) P = hrsI x P + x (73 + w) 4 * nI (fb_ct (fun p => bt (x (73 + w) 8) p) n) ∧
    ∀ p, p < n → (pyS x w n (29 + p) 6 = x (29 + p) 6 + 1 ∧ pyS x w n (29 + p) 7 = x (29 + p) 7 + x (73 + w) 4) ∨ (pyS x w n (29 + p) 6 = x (29 + p) 6 ∧ pyS x w n (29 + p) 7 = x (29 + p) 7)
  | 0, _ => ⟨fun _ _ _ _ => rfl, rfl, by
      show hrsI x P = hrsI x P + x (73 + w) 4 * nI 0
      rw [nI_0, Int32.mul_zero, Int32.add_zero], fun p hp => absurd hp (by omega)⟩
  | n + 1, hn => by
    obtain ⟨a, b, c, d⟩ := py_facts (x := x) (w := w) hP n (by omega)
    have e8 : pyS x w n (73 + w) 8 = x (73 + w) 8 := a _ _ (by omega) (by omega)
    have e4 : pyS x w n (73 + w) 4 = x (73 + w) 4 := a _ _ (by omega) (by omega)
    have e6 : pyS x w n (29 + n) 6 = x (29 + n) 6 := a _ _ (by omega) (by omega)
    have e7 : pyS x w n (29 + n) 7 = x (29 + n) 7 := a _ _ (by omega) (by omega)
    have ect : fb_ct (fun p => bt (x (73 + w) 8) p) (n + 1) = fb_ct (fun p => bt (x (73 + w) 8) p) n + (if bt (x (73 + w) 8) n then 1 else 0) := fb_ct_succ _ _
    unfold pyS
    rw [e8, ect]
    generalize pyS x w n = y at a b c d e4 e6 e7
    by_cases q : bt (x (73 + w) 8) n = true
    · rw [if_pos q, q]
      have ne : ∀ k j, ¬ (k = 0 ∧ j = 10) → ¬ (k = 29 + n ∧ 5 ≤ j ∧ j ≤ 7) → wgS y w n k j = y k j := fun k j h1 h2 => by
        unfold wgS
        rw [up2_at (by omega), up2_at (by omega), up2_at (by omega), up2_at (by omega)]
      have g10 : wgS y w n 0 10 = y 0 10 - wageF y n w := by
        unfold wgS
        rw [up2_at (by omega), up2_at (by omega), up2_at (by omega), up2_same]
      have g5 : wgS y w n (29 + n) 5 = y (29 + n) 5 + wageF y n w := by
        unfold wgS
        rw [up2_at (by omega), up2_at (by omega), up2_same]
      have g6 : wgS y w n (29 + n) 6 = y (29 + n) 6 + 1 := by
        unfold wgS
        rw [up2_at (by omega), up2_same]
      have g7 : wgS y w n (29 + n) 7 = y (29 + n) 7 + y (73 + w) 4 := by
        unfold wgS
        rw [up2_same]
      generalize wgS y w n = z at ne g10 g5 g6 g7
      generalize wageF y n w = wa at g10 g5
      have s5 : earnI z P = earnI y P + (z (29 + n) 5 - y (29 + n) 5) := sumI_set (f := fun p => y (29 + p) 5) (g := fun p => z (29 + p) 5) (i := n) (fun p hp hne => ne _ _ (by omega) (by omega)) (by omega)
      have s7 : hrsI z P = hrsI y P + (z (29 + n) 7 - y (29 + n) 7) := sumI_set (f := fun p => y (29 + p) 7) (g := fun p => z (29 + p) 7) (i := n) (fun p hp hne => ne _ _ (by omega) (by omega)) (by omega)
      refine ⟨fun k j h1 h2 => (ne k j h1 (by omega)).trans (a k j h1 (by omega)), ?_, ?_, fun p hp => ?_⟩
      · rw [g10, s5, g5]
        rw [← b]
        grind
      · rw [s7, g7, c, e4]
        show _ = hrsI x P + x (73 + w) 4 * nI (fb_ct (fun p => bt (x (73 + w) 8) p) n + 1)
        rw [← nI_1]
        grind
      · by_cases e : p = n
        · subst e
          exact Or.inl ⟨by rw [g6, e6], by rw [g7, e7, e4]⟩
        · rw [ne (29 + p) 6 (by omega) (by omega), ne (29 + p) 7 (by omega) (by omega)]
          exact d p (by omega)
    · rw [if_neg q, Bool.not_eq_true] at *
      rw [q]
      refine ⟨fun k j h1 h2 => a k j h1 (by omega), b, c, fun p hp => ?_⟩
      by_cases e : p = n
      · subst e
        exact Or.inr ⟨e6, e7⟩
      · exact d p (by omega)
theorem ply_facts {y : MS} {l : Nat} (hy : ∀ k, k < l → vp_in (y 11 k) 16) : ∀ n, n ≤ l → (∀ k j, ¬ (39 ≤ k ∧ k < 55 ∧ j = 3) → plyS y n k j = y k j) ∧ ∀ s, s < 16 → ∃ m, m ≤ n ∧ plyS y n (39 + s) 3 = y (39 + s) 3 + nI m
  | 0, _ => ⟨fun _ _ _ => rfl, fun s hs => ⟨0, Nat.le_refl 0, by rw [nI_0, Int32.add_zero]; rfl⟩⟩
  | n + 1, hn => by
    obtain ⟨a, b⟩ := ply_facts hy n (by omega)
    have hi := vlt (hy n (by omega))
    unfold plyS
    generalize (y 11 n).toNatClampNeg = i at hi
    generalize plyS y n = z at a b
    refine ⟨fun k j h => by rw [up2_at (by omega)]; exact a k j h, fun s hs => ?_⟩
    obtain ⟨m, h1, h2⟩ := b s hs
    by_cases e : s = i
    · subst e
      refine ⟨m + 1, by omega, ?_⟩
      rw [up2_same, h2, ← nI_1]
      grind
    · exact ⟨m, by omega, by rw [up2_at (by omega)]; exact h2⟩
theorem In0.playd {x τ : MS} {P B W T Tl Tp w : Nat} (H : In0 x P B W T Tl Tp) (hw : w < W) (h7 : x (73 + w) 7 = 1) (hd : dayIn x 0 Tp w)
    (ne : ∀ k j, ¬ (k = 0 ∧ j = 10) → ¬ (29 ≤ k ∧ k < 39 ∧ 5 ≤ j ∧ j ≤ 7) → ¬ (39 ≤ k ∧ k < 55 ∧ j = 3) → ¬ (7 ≤ k ∧ k < 15) → ¬ (k = 73 + w ∧ j = 7) → τ k j = x k j)
    (w7 : τ (73 + w) 7 = 2) (hb : τ 0 10 + earnI τ P = x 0 10 + earnI x P)
    (hc : hrsI τ P = hrsI x P + x (73 + w) 4 * nI (fb_ct (fun p => bt (x (73 + w) 8) p) P))
    (hp : ∀ p, p < P → (τ (29 + p) 6 = x (29 + p) 6 + 1 ∧ τ (29 + p) 7 = x (29 + p) 7 + x (73 + w) 4) ∨ (τ (29 + p) 6 = x (29 + p) 6 ∧ τ (29 + p) 7 = x (29 + p) 7))
    (hs : ∀ s, s < 16 → ∃ m, m ≤ 16 ∧ τ (39 + s) 3 = x (39 + s) 3 + nI m) : In0 τ P B W T Tl Tp ∧ RlA x τ := by
  obtain ⟨O, HP, HS, H0, H1, H2, H3, H4, H5⟩ := H
  have hP := O.hP
  have hW := O.hW
  have hst : St x τ := fun k j hk => ne k j (by unfold stc at hk; omega) (by unfold stc at hk; omega) (by unfold stc at hk; omega) (by unfold stc at hk; omega) (by unfold stc at hk; omega)
  have f7 : ∀ v, v < 14 → v ≠ w → τ (73 + v) 7 = x (73 + v) 7 := fun v hv hne => ne _ _ (by omega) (by omega) (by omega) (by omega) (by omega)
  have f8 : ∀ v, v < 14 → τ (73 + v) 8 = x (73 + v) 8 := fun v hv => ne _ _ (by omega) (by omega) (by omega) (by omega) (by omega)
  have f9 : ∀ v, v < 14 → τ (73 + v) 9 = x (73 + v) 9 := fun v hv => ne _ _ (by omega) (by omega) (by omega) (by omega) (by omega)
  have f11 : ∀ v, v < 14 → τ (73 + v) 11 = x (73 + v) 11 := fun v hv => ne _ _ (by omega) (by omega) (by omega) (by omega) (by omega)
  obtain ⟨q1, q2, q3⟩ := (H1 w hw).fixed h7
  have en : nPl τ W = nPl x W + 1 := by
    have h := fb_ct_upd (fun v => decide (x (73 + v) 7 = 2)) true (i := w) (n := W) hw
    have e1 : decide (x (73 + w) 7 = 2) = false := by rw [h7]; decide
    have e2 : nPl τ W = fb_ct (fun v => if v = w then true else decide (x (73 + v) 7 = 2)) W := by
      unfold nPl
      refine fb_ct_cong (fun v hv => ?_)
      by_cases e : v = w
      · subst e
        rw [if_pos rfl, w7]
        decide
      · rw [if_neg e, f7 v (by omega) e]
    rw [e2]
    unfold nPl
    rw [e1] at h
    simpa using h
  have hnp : nPl x W ≤ 14 := Nat.le_trans (fb_ct_le _ _) hW
  obtain ⟨ln, l1, l2, e4⟩ : ∃ ln, 1 ≤ ln ∧ ln ≤ 6 ∧ x (73 + w) 4 = nI ln := by
    obtain ⟨_, a, b, _, _, b1, b2, _, _, e⟩ := HS.2.2.2 w hw
    exact ⟨b, b1, b2, e⟩
  refine ⟨⟨O.st hst (ne _ _ (by omega) (by omega) (by omega) (by omega) (by omega)), fun v hv => by rw [f8 v hv]; exact HP v hv, HS.st O hst, fun v h1 h2 => ?_, fun v hv => ?_, fun a b ha hb2 hne a1 a2 a3 => ?_, ?_, ?_, fun p hp2 => ?_, fun s hs2 => ?_⟩, fun v hv => ⟨?_, f9 v hv⟩, fun s hs2 => ?_⟩
  · rw [f7 v h2 (by omega), f8 v h2, f9 v h2, f11 v h2]
    exact H0 v h1 h2
  · by_cases e : v = w
    · subst e
      refine Or.inr (Or.inr (Or.inl ⟨w7, hd.st (by omega) hst, ?_, by rw [f9 v (by omega)]; exact q3⟩))
      rw [f8 v (by omega)]
      exact q2.st O (by omega) hst
    · exact (H1 v hv).st O (by omega) hst (f7 v (by omega) e) (f8 v (by omega)) (f9 v (by omega))
  · by_cases ea : a = w
    · subst ea
      rw [w7] at a1
      exact absurd a1 (by decide)
    · by_cases eb : b = w
      · subst eb
        rw [w7]
        exact ⟨by decide, by decide⟩
      · rw [f7 a (by omega) ea] at a1
        rw [hst (73 + a) 0 (by unfold stc; omega), hst (73 + b) 0 (by unfold stc; omega)] at a2
        rw [hst (73 + a) 1 (by unfold stc; omega), hst (73 + b) 1 (by unfold stc; omega)] at a3
        rw [f7 b (by omega) eb]
        exact H2 a b ha hb2 hne a1 a2 a3
  · unfold D3 at H3 ⊢
    have e : paidI τ W = paidI x W := sumI_congr (fun v hv => f11 v (by omega))
    rw [e]
    rw [H3] at hb
    grind
  · unfold D4 at H4 ⊢
    have e := sumI_set (f := hoW x) (g := hoW τ) (i := w) (n := W) (fun v hv hne => hw_at (by rw [f7 v (by omega) hne]) (fun _ => f8 v (by omega)) (hst (73 + v) 4 (by unfold stc; omega))) hw
    have e1 : hoW x w = 0 := by unfold hoW; rw [if_neg (by rw [h7]; decide)]
    have e2 : hoW τ w = x (73 + w) 4 * nI (fb_ct (fun p => bt (x (73 + w) 8) p) P) := by
      unfold hoW
      rw [if_pos w7, hst (73 + w) 4 (by unfold stc; omega), f8 w (by omega)]
      obtain ⟨s, _, s2, s3, _⟩ := q2
      rw [s3, bc_P hP s2]
    rw [e, e1, e2, hc, H4, Int32.sub_zero]
  · rw [en]
    obtain ⟨n, m, n1, n2, n3, n4, n5⟩ := H5.1 p hp2
    rcases hp p hp2 with ⟨g1, g2⟩ | ⟨g1, g2⟩
    · exact ⟨n + 1, m + ln, by rw [g1, n1, nI_1], by rw [g2, n2, e4, nI_add], by omega, by omega, by omega⟩
    · exact ⟨n, m, g1.trans n1, g2.trans n2, n3, n4, by omega⟩
  · rw [en]
    obtain ⟨n, n1, n2⟩ := H5.2 s hs2
    obtain ⟨m, m1, m2⟩ := hs s hs2
    exact ⟨n + m, by rw [m2, n1, nI_add], by omega⟩
  · by_cases e : v = w
    · subst e
      exact Or.inr (Or.inr ⟨h7, Or.inl w7⟩)
    · exact Or.inl (f7 v hv e)
  · obtain ⟨n, n1, n2⟩ := H5.2 s hs2
    obtain ⟨m, m1, m2⟩ := hs s hs2
    rw [m2, n1, nI_add, nI_clamp (by omega), nI_clamp (by omega)]
    omega
theorem in0_out {σ : MS} {P B W T Tl Tp w : Nat} (H : In0 σ P B W T Tl Tp) (hw : w < W) (h7 : σ (73 + w) 7 = 1) (hd : dayIn σ 0 Tp w) :
    In0 (outS σ w P) P B W T Tl Tp ∧ RlA σ (outS σ w P) ∧ Sp σ (outS σ w P) ∧ outS σ w P (73 + w) 7 = 2 ∧ (∀ v, v < 14 → v ≠ w → outS σ w P (73 + v) 7 = σ (73 + v) 7) ∧ St σ (outS σ w P) := by
  have O := H.1
  have hP := O.hP
  have hW := O.hW
  unfold outS outY outX
  generalize (σ (73 + w) 9 - σ (73 + w) 11) + extraF σ w P = a
  have Hx := H.paid (a := a) hw
  have hrl := RlA.paid σ w a
  have hsp := Sp.paid σ w a
  have hst0 : St σ (paidF σ w a) := (St.up (by unfold stc; omega)).tr (St.up (by unfold stc; omega))
  have px : ∀ v, v < 14 → paidF σ w a (73 + v) 7 = σ (73 + v) 7 := fun v hv => by unfold paidF; rw [up2_at (by omega), up2_at (by omega)]
  generalize paidF σ w a = x at Hx hrl hsp hst0 px
  obtain ⟨a1, a2, a3, a4⟩ := py_facts (x := x) (w := w) hP P (Nat.le_refl P)
  generalize pyS x w P = y at a1 a2 a3 a4
  have hsc := Scr.set y (y (73 + w) 8) P
  obtain ⟨l, hl, e1, e2⟩ := cho_row y (playF y (y (73 + w) 8) P)
  have e1 : setS y (y (73 + w) 8) P 10 1 = nI l := e1
  have e2 : ∀ k, k < l → vp_in (setS y (y (73 + w) 8) P 11 k) 16 := e2
  rw [e1, nI_clamp (by omega)]
  generalize setS y (y (73 + w) 8) P = z at hsc e2
  obtain ⟨b1, b2⟩ := ply_facts e2 l (Nat.le_refl l)
  generalize plyS z l = u at b1 b2
  have w7 : up2 u (73 + w) 7 2 (73 + w) 7 = 2 := up2_same
  have nu : ∀ k j, ¬ (k = 73 + w ∧ j = 7) → up2 u (73 + w) 7 2 k j = u k j := fun k j h => up2_at (by omega)
  generalize up2 u (73 + w) 7 2 = τ at w7 nu
  have ne : ∀ k j, ¬ (k = 0 ∧ j = 10) → ¬ (29 ≤ k ∧ k < 39 ∧ 5 ≤ j ∧ j ≤ 7) → ¬ (39 ≤ k ∧ k < 55 ∧ j = 3) → ¬ (7 ≤ k ∧ k < 15) → ¬ (k = 73 + w ∧ j = 7) → τ k j = x k j := fun k j h1 h2 h3 h4 h5 => by
    rw [nu k j h5, b1 k j h3, hsc k (by omega), a1 k j h1 (by omega)]
  have t0 : τ 0 10 = y 0 10 := by rw [nu _ _ (by omega), b1 _ _ (by omega), hsc 0 (by omega)]
  have tp : ∀ p j, p < P → τ (29 + p) j = y (29 + p) j := fun p j hp => by rw [nu _ _ (by omega), b1 _ _ (by omega), hsc (29 + p) (by omega)]
  obtain ⟨r1, r2⟩ := Hx.playd (τ := τ) hw (by rw [px w (by omega)]; exact h7) (hd.st (by omega) hst0) ne w7
    (by rw [t0, show earnI τ P = earnI y P from sumI_congr (fun p hp => tp p 5 hp)]; exact a2)
    (by rw [show hrsI τ P = hrsI y P from sumI_congr (fun p hp => tp p 7 hp)]; exact a3)
    (fun p hp => by rw [tp p 6 hp, tp p 7 hp]; exact a4 p hp)
    (fun s hs => by
      obtain ⟨m, m1, m2⟩ := b2 s hs
      refine ⟨m, by omega, ?_⟩
      rw [nu _ _ (by omega), m2, hsc (39 + s) (by omega), a1 _ _ (by omega) (by omega)])
  refine ⟨r1, hrl.tr r2, hsp.tr ⟨fun k h1 h2 => funext fun j => ne k j (by omega) (by omega) (by omega) (by omega) (by omega), fun v hv => ne _ _ (by omega) (by omega) (by omega) (by omega) (by omega)⟩, w7, fun v hv hne => (ne _ _ (by omega) (by omega) (by omega) (by omega) (by omega)).trans (px v hv), hst0.tr (fun k j hk => ne k j (by unfold stc at hk; omega) (by unfold stc at hk; omega) (by unfold stc at hk; omega) (by unfold stc at hk; omega) (by unfold stc at hk; omega))⟩
theorem ed_A {σ : MS} {P B W T : Nat} (H : In0 σ P B W T T (T + 1)) : ∀ n, n ≤ W → In0 (edA σ P n) P B W T T (T + 1) ∧ RlA σ (edA σ P n) ∧ Sp σ (edA σ P n) ∧ ∀ w, w < n → ¬ (edA σ P n (73 + w) 7 = 1 ∧ edA σ P n (73 + w) 1 = nI T)
  | 0, _ => ⟨H, RlA.rf σ, Sp.rf σ, fun w hw => absurd hw (by omega)⟩
  | n + 1, hn => by
    obtain ⟨h1, h2, h3, h4⟩ := ed_A H n (by omega)
    have hW := h1.1.hW
    have hT := h1.1.hT
    unfold edA
    generalize edA σ P n = y at h1 h2 h3 h4
    rw [h1.1.h9]
    by_cases c : y (73 + n) 1 = nI T ∧ y (73 + n) 7 = 1
    · rw [if_pos c]
      obtain ⟨r1, r2, r3, r4, r5, r6⟩ := in0_out h1 (w := n) (by omega) c.2 ⟨T, by omega, by omega, c.1⟩
      refine ⟨r1, h2.tr r2, h3.tr r3, fun w hw => ?_⟩
      by_cases e : w = n
      · subst e
        rw [r4]
        exact fun q => absurd q.1 (by decide)
      · rw [r5 w (by omega) e, r6 (73 + w) 1 (by unfold stc; omega)]
        exact h4 w (by omega)
    · rw [if_neg c]
      refine ⟨h1, h2, h3, fun w hw => ?_⟩
      by_cases e : w = n
      · subst e
        exact fun q => c ⟨q.2, q.1⟩
      · exact h4 w (by omega)
theorem ed_B {y : MS} {P B W T : Nat} (O : Ok y P B W T) : ∀ n, n ≤ W → Lo W y (edB y n) ∧ ∀ w, w < n → ¬ (edB y n (73 + w) 7 = 0 ∧ edB y n (73 + w) 1 = nI T)
  | 0, _ => ⟨Lo.rf W y, fun w hw => absurd hw (by omega)⟩
  | n + 1, hn => by
    obtain ⟨h1, h2⟩ := ed_B O n (by omega)
    unfold edB
    have e9 : edB y n 0 9 = nI T := (h1.1 0 9 (by omega)).trans O.h9
    generalize edB y n = z at h1 h2 e9
    rw [e9]
    by_cases c : z (73 + n) 1 = nI T ∧ z (73 + n) 7 = 0
    · rw [if_pos c]
      refine ⟨h1.tr (Lo.up (by omega) (Or.inl c.2)), fun w hw => ?_⟩
      by_cases e : w = n
      · subst e
        rw [up2_same]
        exact fun q => absurd q.1 (by decide)
      · rw [up2_at (by omega), up2_at (by omega)]
        exact h2 w (by omega)
    · rw [if_neg c]
      refine ⟨h1, fun w hw => ?_⟩
      by_cases e : w = n
      · subst e
        exact fun q => c ⟨q.2, q.1⟩
      · exact h2 w (by omega)
theorem dayIn.next {σ : MS} {T hi w : Nat} (hT : T < 2 ^ 31) (hh : hi < 2 ^ 31) (h : dayIn σ T hi w) (hn : ¬ σ (73 + w) 1 = nI T) : dayIn σ (T + 1) hi w := by
  obtain ⟨d, h1, h2, h3⟩ := h
  have : d ≠ T := fun e => hn (by rw [h3, e])
  exact ⟨d, by omega, h2, h3⟩
theorem Wd.tp {σ : MS} {P Tl Tp Tq w : Nat} (h : Tp ≤ Tq) (H : Wd σ P Tl Tp w) : Wd σ P Tl Tq w := by
  rcases H with a | a | ⟨a, ⟨d, d1, d2, d3⟩, c⟩ | a
  · exact Or.inl a
  · exact Or.inr (Or.inl a)
  · exact Or.inr (Or.inr (Or.inl ⟨a, ⟨d, d1, by omega, d3⟩, c⟩))
  · exact Or.inr (Or.inr (Or.inr a))
theorem waitL_lo {σ : MS} {W : Nat} : Lo W σ (waitL σ W) := by
  refine ⟨fun k j h => if_neg (by omega), fun w h1 h2 => if_neg (by omega), fun w hw => ?_⟩
  by_cases c : 73 ≤ 73 + w ∧ 73 + w < 73 + W ∧ σ (73 + w) 7 = 0 ∧ ¬ σ 0 9 < σ (73 + w) 6 + 5 ∧ 7 = 7
  · exact Or.inr ⟨if_pos c, Or.inl c.2.2.1⟩
  · exact Or.inl (if_neg c)
theorem inv_day {σ : MS} {P B W T : Nat} (hT : T < 365) (H : Inv σ P B W T) : Inv (dayS σ P W) P B W (T + 1) ∧ RlA σ (dayS σ P W) := by
  have H1 : In0 σ P B W T T (T + 1) := ⟨H.2.2.1, H.2.2.2.1, H.2.2.2.2.1, H.2.2.2.2.2.1, fun w hw => (H.2.2.2.2.2.2.1 w hw).tp (by omega), H.2.2.2.2.2.2.2⟩
  obtain ⟨a1, a2, a3, a4⟩ := ed_A H1 W (Nat.le_refl W)
  unfold dayS endS
  generalize edA σ P W = y at a1 a2 a3 a4
  obtain ⟨b1, b2⟩ := ed_B a1.1 W (Nat.le_refl W)
  have hW := a1.1.hW
  generalize edB y W = z at b1 b2
  have Hz := a1.lo b1
  have c1 : ∀ w, w < W → z (73 + w) 7 = 1 → ¬ z (73 + w) 1 = nI T := fun w hw h7 h1 => by
    rcases b1.2.2 w hw with e | ⟨e, _⟩
    · exact a4 w hw ⟨by rw [← e]; exact h7, by rw [← b1.1 (73 + w) 1 (by omega)]; exact h1⟩
    · rw [e] at h7; exact absurd h7 (by decide)
  have hst : St z (up2 z 0 9 (z 0 9 + 1)) := St.up (by unfold stc; omega)
  have hdy : Dy z (up2 z 0 9 (z 0 9 + 1)) := Dy.up (by unfold dyn; omega)
  have Ot := Hz.1.tomorrow hT
  have Hd := Hz.2.2.2.same Hz.1 hst hdy
  have ht : In0 (up2 z 0 9 (z 0 9 + 1)) P B W (T + 1) (T + 1) (T + 1) := by
    refine ⟨Ot, Hz.2.1.dy hdy, Hz.2.2.1.st Hz.1 hst, Hd.1, fun w hw => ?_, Hd.2.2⟩
    have e7 : up2 z 0 9 (z 0 9 + 1) (73 + w) 7 = z (73 + w) 7 := up2_at (by omega)
    have e1 : up2 z 0 9 (z 0 9 + 1) (73 + w) 1 = z (73 + w) 1 := up2_at (by omega)
    have hwd := Hd.2.1 w hw
    have d1 := c1 w hw
    have d0 := b2 w hw
    rw [← e7, ← e1] at d1
    rw [← e7, ← e1] at d0
    rcases hwd with ⟨a, b, c, d⟩ | ⟨a, b, c⟩ | a | a
    · exact Or.inl ⟨a, b, c, d.next (by omega) (by omega) (fun q => d0 ⟨a, q⟩)⟩
    · exact Or.inr (Or.inl ⟨a, b.next (by omega) (by omega) (d1 a), c⟩)
    · exact Or.inr (Or.inr (Or.inl a))
    · exact Or.inr (Or.inr (Or.inr a))
  have hwl := waitL_lo (σ := up2 z 0 9 (z 0 9 + 1)) (W := W)
  exact ⟨H.of (((a3.tr (Sp.lo b1)).tr (Sp.up (by omega))).tr (Sp.lo hwl)) (ht.lo hwl), ((a2.tr (RlA.lo b1)).tr (RlA.dy hdy)).tr (RlA.lo hwl)⟩
theorem inv_pass {σ : MS} {P B W T : Nat} (H : Inv σ P B W T) : ∀ n, T + n ≤ 365 → Inv (psS σ P W n) P B W (T + n) ∧ RlA σ (psS σ P W n)
  | 0, _ => ⟨H, RlA.rf σ⟩
  | n + 1, hn => by
    obtain ⟨h1, h2⟩ := inv_pass H n (by omega)
    obtain ⟨h3, h4⟩ := inv_day (by omega) h1
    exact ⟨h3, h2.tr h4⟩
end
section
/-! WHAT ALWAYS HOLDS: players, bands, songs, feuds told -/
section INVT
variable {σ τ : MS} {P B W T : Nat}
theorem inv_song {s : Nat} {k e m : Int32} (hs : s < 16) (H : Inv σ P B W T) : Inv (songS σ s k e m) P B W T := by
  have hst : St σ (songS σ s k e m) := fun k' j' hk => by
    unfold songS
    unfold stc at hk
    rw [up2_at (by omega), up2_at (by omega), up2_at (by omega)]
  have hdy : Dy σ (songS σ s k e m) := fun k' j' hk => by
    unfold songS
    unfold dyn at hk
    rw [up2_at (by omega), up2_at (by omega), up2_at (by omega)]
  have e9 : songS σ s k e m 0 9 = σ 0 9 := by
    unfold songS
    rw [up2_at (by omega), up2_at (by omega), up2_at (by omega)]
  exact ⟨H.1.same (fun k' h1 h2 => by unfold songS; rw [up2_ne (by omega), up2_ne (by omega), up2_ne (by omega)]), H.2.1.same (fun w hw => by unfold songS; rw [up2_at (by omega), up2_at (by omega), up2_at (by omega)]), H.2.2.same hst hdy e9⟩
theorem inv_feud {p q : Nat} {u v : Int32} (hp : p < 10) (hq : q < 10) (H : Inv σ P B W T) : Inv (up2 (up2 σ (29 + p) 4 u) (29 + q) 4 v) P B W T := by
  have h1 : Inv (up2 σ (29 + p) 4 u) P B W T := H.of (Sp.up (by omega)) (H.2.2.same (St.up (by unfold stc; omega)) (Dy.up (by unfold dyn; omega)) (up2_at (by omega)))
  exact h1.of (Sp.up (by omega)) (h1.2.2.same (St.up (by unfold stc; omega)) (Dy.up (by unfold dyn; omega)) (up2_at (by omega)))
theorem dayIn.at {lo hi w : Nat} (e : τ (73 + w) 1 = σ (73 + w) 1) (h : dayIn σ lo hi w) : dayIn τ lo hi w := by
  obtain ⟨d, h1, h2, h3⟩ := h
  exact ⟨d, h1, h2, e.trans h3⟩
theorem Wd.re {P' Tl Tp w : Nat} (h : ∀ j, τ (73 + w) j = σ (73 + w) j) (hf : ∀ v, FilS σ P w v → FilS τ P' w v) (H : Wd σ P Tl Tp w) : Wd τ P' Tl Tp w := by
  unfold Wd at H ⊢
  rw [h 7, h 8, h 9]
  rcases H with ⟨a, b, c, d⟩ | ⟨a, b, c, d⟩ | ⟨a, b, c, d⟩ | a
  · exact Or.inl ⟨a, b, c, d.at (h 1)⟩
  · exact Or.inr (Or.inl ⟨a, b.at (h 1), hf _ c, d⟩)
  · exact Or.inr (Or.inr (Or.inl ⟨a, b.at (h 1), hf _ c, d⟩))
  · exact Or.inr (Or.inr (Or.inr a))
/-- those to come have nothing yet -/
def Fp (σ : MS) (P : Nat) : Prop := ∀ p, P ≤ p → p < 10 → σ (29 + p) 4 = 0 ∧ σ (29 + p) 5 = 0 ∧ σ (29 + p) 6 = 0 ∧ σ (29 + p) 7 = 0
theorem inv_player {i s t f : Int32} (ht : 0 ≤ t ∧ t < 6) (ok : plOk i s f) (hP : P < 10) (Z : Fp σ P) (H : Inv σ P B W T) : Inv (telP σ P i s t f) (P + 1) B W T := by
  have O := H.2.2.1
  have hW := O.hW
  have hB := O.hB
  have ne : ∀ k j, (k ≠ 0 ∨ j ≠ 6) → (k ≠ 29 + P ∨ 4 ≤ j) → telP σ P i s t f k j = σ k j := fun k j h1 h2 => by
    unfold telP
    rw [up2_at h1, up2_at (by omega), up2_at (by omega), up2_at (by omega), up2_at (by omega)]
  have e3 : telP σ P i s t f (29 + P) 3 = f := by
    unfold telP
    rw [up2_at (by omega), up2_same]
  have O2 : Ok (telP σ P i s t f) (P + 1) B W T := O.tel ht hP
  generalize telP σ P i s t f = τ at ne e3 O2
  obtain ⟨HR, HL, _, HP, HS, H0, H1, H2, H3, H4, H5⟩ := H
  have z := Z P (Nat.le_refl P) hP
  have fw : ∀ w j, τ (73 + w) j = σ (73 + w) j := fun w j => ne _ _ (by omega) (by omega)
  have en : nPl τ W = nPl σ W := nPl_congr (fun w hw => fw w 7)
  have hf : ∀ w v, w < W → FilS σ P w v → FilS τ (P + 1) w v := fun w v hw h => by
    obtain ⟨x, h1, h2, h3, h4, h5⟩ := h
    have eb : bdOf τ w = bdOf σ w := by unfold bdOf; rw [fw]
    refine ⟨x, h1, by rw [Nat.pow_succ]; omega, h3, ?_, fun p hp hbt => ?_⟩
    · rw [eb, ne _ _ (by omega) (by omega)]; exact h4
    · rcases Nat.lt_or_ge p P with c | c
      · obtain ⟨j, j1, j2, j3⟩ := h5 p c hbt
        refine ⟨j, ?_, j2, ?_⟩
        · rw [eb, ne _ _ (by omega) (by omega)]; exact j1
        · have ep : pl τ (bdOf τ w) j = pl σ (bdOf σ w) j := by
            unfold pl
            rw [eb, ne _ _ (by omega) (by omega)]
          rw [ep, ne _ _ (by omega) (by omega)]
          exact j3
      · have : p = P := by omega
        rw [this, bt_hi (P := P) (p := P) (by omega) h2 (Nat.le_refl _) (by omega)] at hbt
        exact absurd hbt Bool.false_ne_true
  have hfee : rg 1 99 f := by
    obtain ⟨-, -, -, q1, q2⟩ := ok
    have q0 : ¬ f < 0 := fun q => q1 (Int32.lt_trans q (by decide))
    obtain ⟨n, hn, rfl⟩ := nI_of q0
    exact ⟨n, Nat.le_of_not_lt fun q => q1 (show nI n < nI 1 from nI_lt q (by decide)), (nI_leI hn (by decide)).mp (show nI n ≤ nI 99 from q2), rfl⟩
  refine ⟨HR.same (fun k h1 h2 => funext fun j => ne _ _ (by omega) (by omega)), HL.same (fun w hw => fw w 10), O2, fun w hw => by rw [fw w 8]; exact inP_up hP (HP w hw), ⟨fun p hp => ?_, HS.2.1, fun c hc => ?_, fun w hw => ?_⟩, fun w h1 h2 => ?_, fun w hw => (H1 w hw).re (fw w) (fun v => hf w v hw), fun x y hx hy hne a1 a2 a3 => ?_, ?_, ?_, fun p hp => ?_, fun x hx => ?_⟩
  · by_cases e : p = P
    · subst e
      rw [e3]
      exact ⟨hfee, by omega⟩
    · rw [ne (29 + p) 3 (by omega) (by omega)]
      exact ⟨(HS.1 p (by omega)).1, by omega⟩
  · exact (HS.2.2.1 c hc).same (ne _ _ (by omega) (by omega)) (funext fun j => ne _ _ (by omega) (by omega)) (funext fun j => ne _ _ (by omega) (by omega))
  · unfold Ws
    rw [fw w 0, fw w 3, fw w 4]
    exact HS.2.2.2 w hw
  · rw [fw w 7, fw w 8, fw w 9, fw w 11]
    exact H0 w h1 h2
  · rw [fw x 0, fw y 0] at a2
    rw [fw x 1, fw y 1] at a3
    rw [fw x 7] at a1
    rw [fw y 7]
    exact H2 x y hx hy hne a1 a2 a3
  · show τ 0 10 = sumI (fun w => τ (73 + w) 11) W - (sumI (fun p => τ (29 + p) 5) P + τ (29 + P) 5)
    rw [sumI_congr (f := fun w => σ (73 + w) 11) (n := W) (fun w hw => fw w 11), sumI_congr (f := fun p => σ (29 + p) 5) (n := P) (fun p hp => ne _ _ (by omega) (by omega)), ne (29 + P) 5 (by omega) (by omega), z.2.1, Int32.add_zero, ne 0 10 (by omega) (by omega)]
    exact H3
  · show sumI (fun p => τ (29 + p) 7) P + τ (29 + P) 7 = sumI (hoW τ) W
    rw [sumI_congr (f := fun p => σ (29 + p) 7) (n := P) (fun p hp => ne _ _ (by omega) (by omega)), ne (29 + P) 7 (by omega) (by omega), z.2.2.2, Int32.add_zero, sumI_congr (f := hoW σ) (g := hoW τ) (n := W) (fun w hw => hw_at (by rw [fw w 7]) (fun _ => fw w 8) (fw w 4))]
    exact H4
  · rw [en, ne (29 + p) 6 (by omega) (by omega), ne (29 + p) 7 (by omega) (by omega)]
    by_cases e : p = P
    · subst e
      exact ⟨0, 0, z.2.2.1.trans nI_0.symm, z.2.2.2.trans nI_0.symm, Nat.le_refl _, Nat.zero_le _, Nat.zero_le _⟩
    · exact H5.1 p (by omega)
  · rw [en, ne (39 + x) 3 (by omega) (by omega)]
    exact H5.2 x hx
/-- bands to come have no size yet -/
def Fb (σ : MS) (B : Nat) : Prop := ∀ b, B ≤ b → b < 6 → σ (55 + b) 2 = 0
theorem bandS_k {m : Nat} {k j : Nat} (h : ¬ bdPl B k j) (h2 : ¬ (k = 0 ∧ j = 7)) : bandS σ B m k j = σ k j := by
  unfold bandS
  rw [up2_off h2, tkO_k h]
theorem inv_band {m : Nat} (hB : B < 6) (h1 : 1 ≤ m) (hm : m ≤ 728) (O2 : Ok (bandS σ B m) P (B + 1) W T) (Z : Fb σ B) (H : Inv σ P B W T) : Inv (bandS σ B m) P (B + 1) W T := by
  have O := H.2.2.1
  have hW := O.hW
  have hP := O.hP
  have ne : ∀ k j, ¬ ((k = 55 + B ∧ j = 2) ∨ k = 61 + B ∨ k = 67 + B) → ¬ (k = 0 ∧ j = 7) → bandS σ B m k j = σ k j := fun k j g1 g2 => bandS_k (by unfold bdPl; exact g1) g2
  have hbd : Bd (bandS σ B m) B := (bd_new (x := σ) hB hm h1 (Z B (Nat.le_refl B) hB)).same (up2_off (by omega)) (funext fun j => up2_off (by omega)) (funext fun j => up2_off (by omega))
  generalize bandS σ B m = τ at ne hbd O2
  obtain ⟨HR, HL, _, HP, HS, H0, H1, H2, H3, H4, H5⟩ := H
  have fw : ∀ w j, τ (73 + w) j = σ (73 + w) j := fun w j => ne _ _ (by omega) (by omega)
  have en : nPl τ W = nPl σ W := nPl_congr (fun w hw => fw w 7)
  have hf : ∀ w v, w < W → FilS σ P w v → FilS τ P w v := fun w v hw h => by
    obtain ⟨x, g1, g2, g3, g4, g5⟩ := h
    have eb : bdOf τ w = bdOf σ w := by unfold bdOf; rw [fw]
    obtain ⟨⟨b, hb, hb2⟩, -⟩ := HS.2.2.2 w hw
    have hlt : bdOf σ w < B := by
      unfold bdOf
      rw [hb2, nI_clamp (by omega)]
      exact hb
    refine ⟨x, g1, g2, g3, ?_, fun p hp hbt => ?_⟩
    · rw [eb, ne _ _ (by omega) (by omega)]; exact g4
    · obtain ⟨j, j1, j2, j3⟩ := g5 p hp hbt
      refine ⟨j, ?_, j2, ?_⟩
      · rw [eb, ne _ _ (by omega) (by omega)]; exact j1
      · have ep : pl τ (bdOf τ w) j = pl σ (bdOf σ w) j := by
          unfold pl
          rw [eb, ne _ _ (by omega) (by omega)]
        rw [ep, ne _ _ (by omega) (by omega)]
        exact j3
  refine ⟨HR.same (fun k h1 h2 => funext fun j => ne _ _ (by omega) (by omega)), HL.same (fun w hw => fw w 10), O2, fun w hw => by rw [fw w 8]; exact HP w hw, ⟨fun p hp => ?_, HS.2.1, fun c hc => ?_, fun w hw => ?_⟩, fun w h1 h2 => ?_, fun w hw => (H1 w hw).re (fw w) (fun v => hf w v hw), fun x y hx hy hne a1 a2 a3 => ?_, ?_, ?_, fun p hp => ?_, fun x hx => ?_⟩
  · rw [ne (29 + p) 3 (by omega) (by omega)]
    exact HS.1 p hp
  · by_cases e : c = B
    · subst e; exact hbd
    · exact (HS.2.2.1 c (by omega)).same (ne _ _ (by omega) (by omega)) (funext fun j => ne _ _ (by omega) (by omega)) (funext fun j => ne _ _ (by omega) (by omega))
  · unfold Ws
    rw [fw w 0, fw w 3, fw w 4]
    obtain ⟨⟨b, hb, hb2⟩, r⟩ := HS.2.2.2 w hw
    exact ⟨⟨b, by omega, hb2⟩, r⟩
  · rw [fw w 7, fw w 8, fw w 9, fw w 11]
    exact H0 w h1 h2
  · rw [fw x 0, fw y 0] at a2
    rw [fw x 1, fw y 1] at a3
    rw [fw x 7] at a1
    rw [fw y 7]
    exact H2 x y hx hy hne a1 a2 a3
  · show τ 0 10 = sumI (fun w => τ (73 + w) 11) W - sumI (fun p => τ (29 + p) 5) P
    rw [sumI_congr (f := fun w => σ (73 + w) 11) (n := W) (fun w hw => fw w 11), sumI_congr (f := fun p => σ (29 + p) 5) (n := P) (fun p hp => ne _ _ (by omega) (by omega)), ne 0 10 (by omega) (by omega)]
    exact H3
  · show sumI (fun p => τ (29 + p) 7) P = sumI (hoW τ) W
    rw [sumI_congr (f := fun p => σ (29 + p) 7) (n := P) (fun p hp => ne _ _ (by omega) (by omega)), sumI_congr (f := hoW σ) (g := hoW τ) (n := W) (fun w hw => hw_at (by rw [fw w 7]) (fun _ => fw w 8) (fw w 4))]
    exact H4
  · rw [en, ne (29 + p) 6 (by omega) (by omega), ne (29 + p) 7 (by omega) (by omega)]
    exact H5.1 p hp
  · rw [en, ne (39 + x) 3 (by omega) (by omega)]
    exact H5.2 x hx
end INVT
end
section
/-! ROADS: ways are as long there as back -/
/-- a way shortened over a town -/
def relF (u p q : Int32) : Int32 := if p = -1 ∨ q = -1 then u else if u = -1 then p + q else if p + q < u then p + q else u
def SyH (x : MS) : Prop := ∀ a b, a < 6 → b < 6 → x (17 + a) b = x (17 + b) a
def SyW (x : MS) : Prop := ∀ a b, a < 6 → b < 6 → x (23 + a) b = x (23 + b) a
section ROADS
variable {x y : MS} {M o : Nat}
theorem relF_sy (u p q : Int32) : relF u p q = relF u q p := by
  unfold relF
  rw [Int32.add_comm q p]
  by_cases c : p = -1 ∨ q = -1
  · rw [if_pos c, if_pos c.symm]
  · rw [if_neg c, if_neg (show ¬ (q = -1 ∨ p = -1) from fun z => c z.symm)]
theorem relF_id {u r : Int32} (hu : wy M u) (hr : wy M r) (hM : 2 * M < 2 ^ 31) : relF u u r = u ∧ relF u r u = u := by
  have key : relF u u r = u := by
    unfold relF
    by_cases c : u = -1 ∨ r = -1
    · rw [if_pos c]
    · rw [if_neg c, if_neg (fun z => c (Or.inl z))]
      obtain ⟨n, n1, n2, n3⟩ := hu.resolve_left (fun z => c (Or.inl z))
      obtain ⟨m, m1, m2, m3⟩ := hr.resolve_left (fun z => c (Or.inr z))
      rw [n3, m3, nI_add, if_neg (nI_nlt (by omega) (by omega))]
  exact ⟨key, by rw [relF_sy]; exact key⟩
theorem shB_at {a b c d : Nat} : shB y o a b (23 + c) d = if c = a ∧ d = b then relF (y (23 + a) b) (y (23 + a) o) (y (23 + o) b) else y (23 + c) d := by
  unfold shB
  by_cases e : c = a ∧ d = b
  · obtain ⟨rfl, rfl⟩ := e
    rw [if_pos (show c = c ∧ d = d from ⟨rfl, rfl⟩)]
    unfold relF
    by_cases h : y (23 + c) o = -1 ∨ y (23 + o) d = -1
    · rw [if_pos h, if_pos h]
    · rw [if_neg h, if_neg h, up2_same]
  · rw [if_neg e]
    by_cases h : y (23 + a) o = -1 ∨ y (23 + o) b = -1
    · rw [if_pos h]
    · rw [if_neg h, up2_at (by omega)]
/-- the rows ahead of n are done, and m of row n -/
def dnR (x : MS) (o n m : Nat) (y : MS) : Prop := ∀ c d, c < 6 → d < 6 → y (23 + c) d = if c < n ∨ (c = n ∧ d < m) then relF (x (23 + c) d) (x (23 + c) o) (x (23 + o) d) else x (23 + c) d
theorem dnR.st {n m : Nat} (hx : Wy_i M x) (hM : 2 * M < 2 ^ 31) (ho : o < 6) (hn : n < 6) (hm : m < 6) (h : dnR x o n m y) : dnR x o n (m + 1) (shB y o n m) := fun c d hc hd => by
  have e1 : y (23 + n) m = x (23 + n) m := by rw [h n m hn hm, if_neg (by omega)]
  have e2 : y (23 + n) o = x (23 + n) o := by
    rw [h n o hn ho]
    split
    · exact (relF_id (hx n o hn ho) (hx o o ho ho) hM).1
    · rfl
  have e3 : y (23 + o) m = x (23 + o) m := by
    rw [h o m ho hm]
    split
    · exact (relF_id (hx o m ho hm) (hx o o ho ho) hM).2
    · rfl
  rw [shB_at]
  by_cases e : c = n ∧ d = m
  · obtain ⟨rfl, rfl⟩ := e
    rw [if_pos ⟨rfl, rfl⟩, if_pos (Or.inr ⟨rfl, by omega⟩), e1, e2, e3]
  · rw [if_neg e, h c d hc hd]
    by_cases g : c < n ∨ (c = n ∧ d < m)
    · rw [if_pos g, if_pos (by omega)]
    · rw [if_neg g, if_neg (by omega)]
theorem shA_dn {n : Nat} (hx : Wy_i M x) (hM : 2 * M < 2 ^ 31) (ho : o < 6) (hn : n < 6) (h : dnR x o n 0 y) : ∀ m, m ≤ 6 → dnR x o n m (shA y o n m)
  | 0, _ => h
  | m + 1, hm => (shA_dn hx hM ho hn h m (by omega)).st hx hM ho hn (by omega)
theorem shO_dn (hx : Wy_i M x) (hM : 2 * M < 2 ^ 31) (ho : o < 6) : ∀ n, n ≤ 6 → dnR x o n 0 (shO x o n)
  | 0, _ => fun c d hc hd => by rw [if_neg (by omega)]; rfl
  | n + 1, hn => fun c d hc hd => by
    have h := shA_dn hx hM ho (by omega) (shO_dn hx hM ho n (by omega)) 6 (Nat.le_refl _) c d hc hd
    show shA (shO x o n) o n 6 (23 + c) d = _
    rw [h]
    by_cases g : c < n ∨ (c = n ∧ d < 6)
    · rw [if_pos g, if_pos (by omega)]
    · rw [if_neg g, if_neg (by omega)]
theorem shO_sy (hx : Wy_i M x) (hM : 2 * M < 2 ^ 31) (ho : o < 6) (h : SyW x) : SyW (shO x o 6) := fun a b ha hb => by
  have hd := shO_dn hx hM ho 6 (Nat.le_refl _)
  rw [hd a b ha hb, hd b a hb ha, if_pos (Or.inl ha), if_pos (Or.inl hb), h b a hb ha, h b o hb ho, h o a ho ha, relF_sy]
theorem ovS_sy (hx : Wy_i 9 x) (h : SyW x) : ∀ n, n ≤ 6 → SyW (ovS x n) ∧ Wy_i (9 * 2 ^ n) (ovS x n)
  | 0, _ => ⟨h, hx⟩
  | n + 1, hn => by
    obtain ⟨h1, h2⟩ := ovS_sy hx h n (by omega)
    have hp : 2 ^ n ≤ 2 ^ 6 := Nat.pow_le_pow_right (by decide) (by omega)
    have hM : 2 * (9 * 2 ^ n) < 2 ^ 31 := by
      rw [show (2 : Nat) ^ 6 = 64 from rfl] at hp
      omega
    refine ⟨shO_sy h2 hM (by omega) h1, ?_⟩
    have := wy_shO (o := n) (by omega) hM h2
    rw [show 9 * 2 ^ (n + 1) = 2 * (9 * 2 ^ n) by rw [Nat.pow_succ]; omega]
    exact this
theorem lyB_v {a : Nat} (ha : a < 6) : ∀ n, n ≤ 6 → ∀ b, b < n → lyB x a n (23 + a) b = lyV x a b
  | 0, _, b, hb => absurd hb (by omega)
  | n + 1, hn, b, hb => by
    show up2 (lyB x a n) (23 + a) n (lyV (lyB x a n) a n) (23 + a) b = _
    by_cases e : b = n
    · subst e
      rw [up2_same]
      unfold lyV
      rw [lyB_k (by omega)]
    · rw [up2_at (by omega)]
      exact lyB_v ha n (by omega) b (by omega)
theorem lyA_v : ∀ n, n ≤ 6 → ∀ a b, a < n → b < 6 → lyA x n (23 + a) b = lyV x a b
  | 0, _, a, b, ha, hb => absurd ha (by omega)
  | n + 1, hn, a, b, ha, hb => by
    show lyB (lyA x n) n 6 (23 + a) b = _
    by_cases e : a = n
    · subst e
      rw [lyB_v (by omega) 6 (by decide) b hb]
      unfold lyV
      rw [lyA_k (by omega) a (by omega)]
    · rw [lyB_k (by omega)]
      exact lyA_v n (by omega) a b (by omega) hb
theorem lyA_sy (h : SyH x) : SyW (lyA x 6) := fun a b ha hb => by
  rw [lyA_v 6 (by decide) a b ha hb, lyA_v 6 (by decide) b a hb ha]
  unfold lyV
  rw [h b a hb ha]
  by_cases e : a = b
  · rw [if_pos e, if_pos e.symm]
  · rw [if_neg e, if_neg (show ¬ b = a from fun z => e z.symm)]
theorem lay_sy {i j : Nat} {v : Int32} (hi : i < 6) (hj : j < 6) (hv : rg 0 9 v) (h : Hr x) (hs : SyH x) : SyH (layS x i j v) ∧ SyW (layS x i j v) := by
  have hh : ∀ a b, up2 (up2 x (17 + i) j v) (17 + j) i v (17 + a) b = if (a = j ∧ b = i) ∨ (a = i ∧ b = j) then v else x (17 + a) b := fun a b => by
    by_cases c : a = j ∧ b = i
    · obtain ⟨rfl, rfl⟩ := c
      rw [if_pos (Or.inl ⟨rfl, rfl⟩), up2_same]
    · rw [up2_at (by omega)]
      by_cases d : a = i ∧ b = j
      · obtain ⟨rfl, rfl⟩ := d
        rw [if_pos (Or.inr ⟨rfl, rfl⟩), up2_same]
      · rw [up2_at (by omega), if_neg (by omega)]
  have sh : SyH (up2 (up2 x (17 + i) j v) (17 + j) i v) := fun a b ha hb => by
    rw [hh, hh, hs a b ha hb]
    by_cases c : (a = j ∧ b = i) ∨ (a = i ∧ b = j)
    · rw [if_pos c, if_pos (by omega)]
    · rw [if_neg c, if_neg (by omega)]
  have hr : Hr (up2 (up2 x (17 + i) j v) (17 + j) i v) := fun a b ha hb => by
    rw [hh]
    split
    · exact hv
    · exact h a b ha hb
  unfold layS
  generalize up2 (up2 x (17 + i) j v) (17 + j) i v = z at sh hr
  constructor
  · intro a b ha hb
    rw [ovS_k (by omega), ovS_k (by omega), lyA_k (by omega) 6 (by decide), lyA_k (by omega) 6 (by decide)]
    exact sh a b ha hb
  · exact (ovS_sy (fun a b ha hb => lyA_ok hr 6 (by decide) a b ha hb) (lyA_sy sh) 6 (by decide)).1
end ROADS
end
section
/-! WHAT ALWAYS HOLDS, MORE: songs of weddings, what is paid, what players played, days off, what is to come -/
def PdA (σ : MS) (w : Nat) : Prop := (σ (73 + w) 7 = 0 → σ (73 + w) 11 = 0) ∧ (σ (73 + w) 7 = 1 → σ (73 + w) 11 = σ (73 + w) 9 / 5)
/-- p played there -/
def plw (σ : MS) (p w : Nat) : Bool := decide (σ (73 + w) 7 = 2) && bt (σ (73 + w) 8) p
def PlI (σ : MS) (W : Nat) : Prop := ∀ p, p < 10 → σ (29 + p) 6 = nI (fb_ct (plw σ p) W) ∧ σ (29 + p) 7 = sumI (fun w => if plw σ p w = true then σ (73 + w) 4 else 0) W
def Gw (σ : MS) : Prop := ∀ w, w < 14 → ∀ i, 16 ≤ i → bt (σ (73 + w) 5) i = false
def FO (σ : MS) (P : Nat) : Prop := ∀ d, d < 366 → ∀ p, P ≤ p → bt (σ 6 d) p = false
def EI (σ : MS) (P B W : Nat) : Prop := (SyH σ ∧ SyW σ) ∧ Gw σ ∧ (∀ w, w < 14 → PdA σ w) ∧ PlI σ W ∧ Fp σ P ∧ (∀ w, W ≤ w → w < 14 → σ (73 + w) 10 = 0) ∧ FO σ P ∧ Fb σ B
/-- what EI looks at -/
def eic (k j : Nat) : Prop := k = 6 ∨ (17 ≤ k ∧ k < 29) ∨ (29 ≤ k ∧ k < 39 ∧ 4 ≤ j ∧ j ≤ 7) ∨ (55 ≤ k ∧ k < 61 ∧ j = 2) ∨ (73 ≤ k ∧ k < 87 ∧ (j = 4 ∨ j = 5 ∨ (7 ≤ j ∧ j ≤ 11)))
section EINV
variable {σ τ : MS} {P B W T : Nat}
/-- one wedding changed, not played before or then -/
theorem EI.wd {w : Nat} (hw : w < W) (hW : W ≤ 14) (H : EI σ P B W) (h : ∀ k j, eic k j → (k ≠ 73 + w ∨ j < 7) → τ k j = σ k j) (h2 : ¬ σ (73 + w) 7 = 2) (h3 : ¬ τ (73 + w) 7 = 2) (h4 : PdA τ w) : EI τ P B W := by
  obtain ⟨⟨s1, s2⟩, g, pd, pl, fp, ft, fo, fb⟩ := H
  have hpl : ∀ p v, v < W → plw τ p v = plw σ p v := fun p v hv => by
    unfold plw
    by_cases e : v = w
    · subst e
      rw [decide_eq_false h2, decide_eq_false h3, Bool.false_and, Bool.false_and]
    · rw [h (73 + v) 7 (by unfold eic; omega) (by omega), h (73 + v) 8 (by unfold eic; omega) (by omega)]
  refine ⟨⟨fun a b ha hb => ?_, fun a b ha hb => ?_⟩, fun v hv i hi => ?_, fun v hv => ?_, fun p hp => ⟨?_, ?_⟩, fun p h1 h2 => ?_, fun v h1 h2 => ?_, fun d hd p hp => ?_, fun b h1 h2 => ?_⟩
  · rw [h (17 + a) b (by unfold eic; omega) (by omega), h (17 + b) a (by unfold eic; omega) (by omega)]; exact s1 a b ha hb
  · rw [h (23 + a) b (by unfold eic; omega) (by omega), h (23 + b) a (by unfold eic; omega) (by omega)]; exact s2 a b ha hb
  · rw [h (73 + v) 5 (by unfold eic; omega) (by omega)]; exact g v hv i hi
  · by_cases e : v = w
    · subst e; exact h4
    · unfold PdA
      rw [h (73 + v) 7 (by unfold eic; omega) (by omega), h (73 + v) 11 (by unfold eic; omega) (by omega), h (73 + v) 9 (by unfold eic; omega) (by omega)]
      exact pd v hv
  · rw [h (29 + p) 6 (by unfold eic; omega) (by omega), (pl p hp).1, fb_ct_cong (fun v hv => hpl p v hv)]
  · rw [h (29 + p) 7 (by unfold eic; omega) (by omega), (pl p hp).2]
    exact (sumI_congr (fun v hv => by rw [hpl p v hv, h (73 + v) 4 (by unfold eic; omega) (by omega)])).symm
  · rw [h (29 + p) 4 (by unfold eic; omega) (by omega), h (29 + p) 5 (by unfold eic; omega) (by omega), h (29 + p) 6 (by unfold eic; omega) (by omega), h (29 + p) 7 (by unfold eic; omega) (by omega)]
    exact fp p h1 h2
  · rw [h (73 + v) 10 (by unfold eic; omega) (by omega)]; exact ft v h1 h2
  · rw [h 6 d (by unfold eic; omega) (by omega)]; exact fo d hd p hp
  · rw [h (55 + b) 2 (by unfold eic; omega) (by omega)]; exact fb b h1 h2
theorem EI.same (hW : W ≤ 14) (H : EI σ P B W) (h : ∀ k j, eic k j → τ k j = σ k j) : EI τ P B W := by
  obtain ⟨⟨s1, s2⟩, g, pd, pl, fp, ft, fo, fb⟩ := H
  have hpl : ∀ p v, v < W → plw τ p v = plw σ p v := fun p v hv => by
    unfold plw
    rw [h (73 + v) 7 (by unfold eic; omega), h (73 + v) 8 (by unfold eic; omega)]
  refine ⟨⟨fun a b ha hb => ?_, fun a b ha hb => ?_⟩, fun v hv i hi => ?_, fun v hv => ?_, fun p hp => ⟨?_, ?_⟩, fun p h1 h2 => ?_, fun v h1 h2 => ?_, fun d hd p hp => ?_, fun b h1 h2 => ?_⟩
  · rw [h (17 + a) b (by unfold eic; omega), h (17 + b) a (by unfold eic; omega)]; exact s1 a b ha hb
  · rw [h (23 + a) b (by unfold eic; omega), h (23 + b) a (by unfold eic; omega)]; exact s2 a b ha hb
  · rw [h (73 + v) 5 (by unfold eic; omega)]; exact g v hv i hi
  · unfold PdA
    rw [h (73 + v) 7 (by unfold eic; omega), h (73 + v) 11 (by unfold eic; omega), h (73 + v) 9 (by unfold eic; omega)]
    exact pd v hv
  · rw [h (29 + p) 6 (by unfold eic; omega), (pl p hp).1, fb_ct_cong (fun v hv => hpl p v hv)]
  · rw [h (29 + p) 7 (by unfold eic; omega), (pl p hp).2]
    exact (sumI_congr (fun v hv => by rw [hpl p v hv, h (73 + v) 4 (by unfold eic; omega)])).symm
  · rw [h (29 + p) 4 (by unfold eic; omega), h (29 + p) 5 (by unfold eic; omega), h (29 + p) 6 (by unfold eic; omega), h (29 + p) 7 (by unfold eic; omega)]
    exact fp p h1 h2
  · rw [h (73 + v) 10 (by unfold eic; omega)]; exact ft v h1 h2
  · rw [h 6 d (by unfold eic; omega)]; exact fo d hd p hp
  · rw [h (55 + b) 2 (by unfold eic; omega)]; exact fb b h1 h2
theorem EI.up {k j : Nat} {v : Int32} (hW : W ≤ 14) (H : EI σ P B W) (h : ¬ eic k j) : EI (up2 σ k j v) P B W :=
  H.same hW (fun k' j' hk => up2_off (fun z => h (by obtain ⟨rfl, rfl⟩ := z; exact hk)))
theorem EI.scr (hW : W ≤ 14) (H : EI σ P B W) (h : Scr σ τ) : EI τ P B W := H.same hW (fun k j hk => by rw [h k (by unfold eic at hk; omega)])
theorem EI.late {w : Nat} {m : Int32} (hw : w < W) (hW : W ≤ 14) (h7 : σ (73 + w) 7 = 1) (H : EI σ P B W) : EI (up2 σ (73 + w) 10 m) P B W :=
  H.wd hw hW (fun k j hk hn => up2_off (by unfold eic at hk; omega)) (by rw [h7]; decide) (by rw [up2_off (by omega), h7]; decide) (by
    have := H.2.2.1 w (by omega)
    unfold PdA at this ⊢
    rw [up2_off (by omega), up2_off (by omega), up2_off (by omega)]
    exact this)
theorem EI.lose {w : Nat} (hw : w < W) (hW : W ≤ 14) (h7 : ¬ σ (73 + w) 7 = 2) (H : EI σ P B W) : EI (up2 σ (73 + w) 7 3) P B W :=
  H.wd hw hW (fun k j hk hn => up2_off (by omega)) h7 (by rw [up2_same]; decide) (by
    unfold PdA
    rw [up2_same]
    exact ⟨fun z => absurd z (by decide), fun z => absurd z (by decide)⟩)
theorem EI.lo (hW : W ≤ 14) (h : Lo W σ τ) (H : EI σ P B W) : EI τ P B W := by
  obtain ⟨⟨s1, s2⟩, g, pd, pl, fp, ft, fo, fb⟩ := H
  have ne : ∀ k j, (k < 73 ∨ j ≠ 7) → τ k j = σ k j := h.1
  have hpl : ∀ p v, v < W → plw τ p v = plw σ p v := fun p v hv => by
    unfold plw
    rw [ne (73 + v) 8 (by omega)]
    rcases h.2.2 v hv with e | ⟨e1, e2⟩
    · rw [e]
    · rw [e1, decide_eq_false (by decide), decide_eq_false (p := σ (73 + v) 7 = 2) (fun z => by rcases e2 with e2 | e2 <;> rw [e2] at z <;> exact absurd z (by decide))]
  refine ⟨⟨fun a b ha hb => ?_, fun a b ha hb => ?_⟩, fun v hv i hi => ?_, fun v hv => ?_, fun p hp => ⟨?_, ?_⟩, fun p h1 h2 => ?_, fun v h1 h2 => ?_, fun d hd p hp => ?_, fun b h1 h2 => ?_⟩
  · rw [ne (17 + a) b (by omega), ne (17 + b) a (by omega)]; exact s1 a b ha hb
  · rw [ne (23 + a) b (by omega), ne (23 + b) a (by omega)]; exact s2 a b ha hb
  · rw [ne (73 + v) 5 (by omega)]; exact g v hv i hi
  · have := pd v hv
    unfold PdA at this ⊢
    rw [ne (73 + v) 11 (by omega), ne (73 + v) 9 (by omega)]
    by_cases c : v < W
    · rcases h.2.2 v c with e | ⟨e1, e2⟩
      · rw [e]; exact this
      · rw [e1]; exact ⟨fun z => absurd z (by decide), fun z => absurd z (by decide)⟩
    · rw [h.2.1 v (by omega) hv]; exact this
  · rw [ne (29 + p) 6 (by omega), (pl p hp).1, fb_ct_cong (fun v hv => hpl p v hv)]
  · rw [ne (29 + p) 7 (by omega), (pl p hp).2]
    exact (sumI_congr (fun v hv => by rw [hpl p v hv, ne (73 + v) 4 (by omega)])).symm
  · rw [ne (29 + p) 4 (by omega), ne (29 + p) 5 (by omega), ne (29 + p) 6 (by omega), ne (29 + p) 7 (by omega)]
    exact fp p h1 h2
  · rw [ne (73 + v) 10 (by omega)]; exact ft v h1 h2
  · rw [ne 6 d (by omega)]; exact fo d hd p hp
  · rw [ne (55 + b) 2 (by omega)]; exact fb b h1 h2
theorem EI.can {w : Nat} (hw : w < W) (hW : W ≤ 14) (h7 : σ (73 + w) 7 = 0 ∨ σ (73 + w) 7 = 1) (H : EI σ P B W) : EI (canS σ w) P B W := by
  have h2 : ¬ σ (73 + w) 7 = 2 := fun z => by rcases h7 with e | e <;> rw [e] at z <;> exact absurd z (by decide)
  unfold canS
  split
  · refine H.wd hw hW (fun k j hk hn => ?_) h2 (by rw [up2_same]; decide) (by unfold PdA; rw [up2_same]; exact ⟨fun z => absurd z (by decide), fun z => absurd z (by decide)⟩)
    unfold paidF
    unfold eic at hk
    rw [up2_off (by omega), up2_off (by omega), up2_off (by omega)]
  · exact H.lose hw hW h2
theorem EI.fix {w : Nat} (hw : w < W) (hW : W ≤ 14) (hf : σ (73 + w) 7 = 0) (H : EI σ P B W) : EI (fixS σ w P W) P B W := by
  unfold fixS
  dsimp only
  have h0 := (H.scr hW (Scr.sn σ w P W)).lo hW (loseQ_lo (y := snF σ w P W) (a := w) (W := W))
  have e7 : loseQ (snF σ w P W) w W (73 + w) 7 = 0 := by
    rw [show loseQ (snF σ w P W) w W (73 + w) 7 = snF σ w P W (73 + w) 7 from if_neg (by omega), (Scr.sn σ w P W).c73]
    exact hf
  generalize loseQ (snF σ w P W) w W = z at h0 e7
  have p0 := (h0.2.2.1 w (by omega)).1 e7
  refine h0.wd hw hW (fun k j hk hn => ?_) (by rw [e7]; decide) ?_ ?_
  · unfold paidF
    unfold eic at hk
    rw [up2_off (by omega), up2_off (by omega), up2_off (by omega), up2_off (by omega), up2_off (by omega)]
  · unfold paidF
    rw [up2_off (by omega), up2_off (by omega), up2_off (by omega), up2_off (by omega), up2_same]
    decide
  · unfold PdA paidF
    rw [up2_off (k' := 73 + w) (j' := 7) (by omega), up2_off (k' := 73 + w) (j' := 7) (by omega), up2_off (k' := 73 + w) (j' := 7) (by omega), up2_off (k' := 73 + w) (j' := 7) (by omega), up2_same]
    refine ⟨fun z => absurd z (by decide), fun _ => ?_⟩
    rw [up2_off (k' := 73 + w) (j' := 11) (by omega), up2_same, up2_off (k' := 73 + w) (j' := 11) (by omega), up2_off (k' := 73 + w) (j' := 11) (by omega), up2_off (k' := 73 + w) (j' := 11) (by omega), p0, up2_off (k' := 73 + w) (j' := 9) (by omega), up2_off (k' := 73 + w) (j' := 9) (by omega), up2_same]
    exact Int32.zero_add _
theorem EI.put {w : Nat} {s : Int32} (hw : w < W) (hW : W ≤ 14) (h7 : σ (73 + w) 7 = 1) (H : EI σ P B W) : EI (putF σ w s) P B W := by
  have h2 : ¬ σ (73 + w) 7 = 2 := fun z => by rw [h7] at z; exact absurd z (by decide)
  unfold putF
  split
  · refine H.wd hw hW (fun k j hk hn => ?_) h2 ?_ ?_
    · unfold paidF
      unfold eic at hk
      rw [up2_off (by omega), up2_off (by omega), up2_off (by omega)]
    · unfold paidF
      rw [up2_off (by omega), up2_off (by omega), up2_same]
      decide
    · unfold PdA paidF
      rw [up2_off (k' := 73 + w) (j' := 7) (by omega), up2_off (k' := 73 + w) (j' := 7) (by omega), up2_same]
      exact ⟨fun z => absurd z (by decide), fun z => absurd z (by decide)⟩
  · refine H.wd hw hW (fun k j hk hn => up2_off (by omega)) h2 (by rw [up2_off (by omega)]; exact h2) ?_
    have := H.2.2.1 w (by omega)
    unfold PdA at this ⊢
    rw [up2_off (by omega), up2_off (by omega), up2_off (by omega)]
    exact this
theorem EI.illL {p : Nat} {day : Int32} (hW : W ≤ 14) (H : EI σ P B W) : ∀ n, n ≤ W → EI (illS σ p day n) P B W
  | 0, _ => H
  | n + 1, hn => by
    have ih := EI.illL (p := p) (day := day) hW H n (by omega)
    unfold illS
    split
    · rename_i c
      refine ih.put (by omega) hW ?_
      have := c.2
      unfold fxw at this
      rw [Bool.and_eq_true] at this
      exact of_decide_eq_true this.1
    · exact ih
theorem EI.off {p d : Nat} (hp : p < P) (hP : P ≤ 10) (hW : W ≤ 14) (H : EI σ P B W) : EI (offS σ P W p d) P B W := by
  unfold offS
  have h0 := H.scr hW (Scr.sw σ P W p (nI d) W)
  generalize (swS σ P W p (nI d) W).1 = y at h0
  have h1 : EI y P B W ∧ ∀ e, e < 366 → ∀ q, P ≤ q → bt (up2 y 6 d (y 6 d ||| one p) 6 e) q = false := by
    refine ⟨h0, fun e he q hq => ?_⟩
    by_cases c : e = d
    · subst c
      rw [up2_same, b_or, h0.2.2.2.2.2.2.1 e he q hq, Bool.false_or]
      rcases Nat.lt_or_ge q 32 with g | g
      · rw [b_one (by omega) g, decide_eq_false (by omega)]
      · exact b_big g
    · rw [up2_off (by omega)]
      exact h0.2.2.2.2.2.2.1 e he q hq
  obtain ⟨⟨⟨s1, s2⟩, g, pd, pl, fp, ft, fo, fb⟩, fo2⟩ := h1
  have ne : ∀ k j, k ≠ 6 → up2 y 6 d (y 6 d ||| one p) k j = y k j := fun k j h => up2_off (by omega)
  generalize up2 y 6 d (y 6 d ||| one p) = τ at ne fo2
  have hpl : ∀ p v, plw τ p v = plw y p v := fun p v => by
    unfold plw
    rw [ne _ _ (by omega), ne _ _ (by omega)]
  refine ⟨⟨fun a b ha hb => ?_, fun a b ha hb => ?_⟩, fun v hv i hi => ?_, fun v hv => ?_, fun p hp => ⟨?_, ?_⟩, fun p h1 h2 => ?_, fun v h1 h2 => ?_, fo2, fun b h1 h2 => ?_⟩
  · rw [ne _ _ (by omega), ne _ _ (by omega)]; exact s1 a b ha hb
  · rw [ne _ _ (by omega), ne _ _ (by omega)]; exact s2 a b ha hb
  · rw [ne _ _ (by omega)]; exact g v hv i hi
  · unfold PdA
    rw [ne _ _ (by omega), ne _ _ (by omega), ne _ _ (by omega)]
    exact pd v hv
  · rw [ne _ _ (by omega), (pl p hp).1, fb_ct_cong (fun v hv => hpl p v)]
  · rw [ne _ _ (by omega), (pl p hp).2]
    exact (sumI_congr (fun v hv => by rw [hpl p v, ne _ _ (by omega)])).symm
  · rw [ne _ _ (by omega), ne _ _ (by omega), ne _ _ (by omega), ne _ _ (by omega)]
    exact fp p h1 h2
  · rw [ne _ _ (by omega)]; exact ft v h1 h2
  · rw [ne _ _ (by omega)]; exact fb b h1 h2
theorem EI.ill {p d : Nat} (hp : p < P) (hP : P ≤ 10) (hW : W ≤ 14) (H : EI σ P B W) : EI (illS (offS σ P W p d) p (nI d) W) P B W := (H.off hp hP hW).illL hW W (Nat.le_refl _)
theorem EI.feud {p q : Nat} {u v : Int32} (hp : p < P) (hq : q < P) (hP : P ≤ 10) (hW : W ≤ 14) (H : EI σ P B W) : EI (up2 (up2 σ (29 + p) 4 u) (29 + q) 4 v) P B W := by
  obtain ⟨⟨s1, s2⟩, g, pd, pl, fp, ft, fo, fb⟩ := H
  have ne : ∀ k j, ¬ (29 ≤ k ∧ k < 29 + P ∧ j = 4) → up2 (up2 σ (29 + p) 4 u) (29 + q) 4 v k j = σ k j := fun k j h => by rw [up2_off (by omega), up2_off (by omega)]
  generalize up2 (up2 σ (29 + p) 4 u) (29 + q) 4 v = τ at ne
  have hpl : ∀ p v, plw τ p v = plw σ p v := fun p v => by
    unfold plw
    rw [ne _ _ (by omega), ne _ _ (by omega)]
  refine ⟨⟨fun a b ha hb => ?_, fun a b ha hb => ?_⟩, fun v hv i hi => ?_, fun v hv => ?_, fun p hp => ⟨?_, ?_⟩, fun p h1 h2 => ?_, fun v h1 h2 => ?_, fun d hd p hp => ?_, fun b h1 h2 => ?_⟩
  · rw [ne _ _ (by omega), ne _ _ (by omega)]; exact s1 a b ha hb
  · rw [ne _ _ (by omega), ne _ _ (by omega)]; exact s2 a b ha hb
  · rw [ne _ _ (by omega)]; exact g v hv i hi
  · unfold PdA
    rw [ne _ _ (by omega), ne _ _ (by omega), ne _ _ (by omega)]
    exact pd v hv
  · rw [ne _ _ (by omega), (pl p hp).1, fb_ct_cong (fun v hv => hpl p v)]
  · rw [ne _ _ (by omega), (pl p hp).2]
    exact (sumI_congr (fun v hv => by rw [hpl p v, ne _ _ (by omega)])).symm
  · rw [ne _ _ (by omega), ne _ _ (by omega), ne _ _ (by omega), ne _ _ (by omega)]
    exact fp p h1 h2
  · rw [ne _ _ (by omega)]; exact ft v h1 h2
  · rw [ne _ _ (by omega)]; exact fo d hd p hp
  · rw [ne _ _ (by omega)]; exact fb b h1 h2
theorem EI.road {i j : Nat} {v : Int32} (hi : i < 6) (hj : j < 6) (hv : rg 0 9 v) (hW : W ≤ 14) (hr : Hr σ) (H : EI σ P B W) : EI (layS σ i j v) P B W := by
  obtain ⟨⟨s1, s2⟩, g, pd, pl, fp, ft, fo, fb⟩ := H
  have hs := lay_sy hi hj hv hr s1
  have ne : ∀ k j', (k < 17 ∨ 29 ≤ k) → layS σ i j v k j' = σ k j' := fun k j' h => by rw [lay_k hi hj h]
  generalize layS σ i j v = τ at hs ne
  have hpl : ∀ p v, plw τ p v = plw σ p v := fun p v => by
    unfold plw
    rw [ne _ _ (by omega), ne _ _ (by omega)]
  refine ⟨hs, fun v hv i hi => ?_, fun v hv => ?_, fun p hp => ⟨?_, ?_⟩, fun p h1 h2 => ?_, fun v h1 h2 => ?_, fun d hd p hp => ?_, fun b h1 h2 => ?_⟩
  · rw [ne _ _ (by omega)]; exact g v hv i hi
  · unfold PdA
    rw [ne _ _ (by omega), ne _ _ (by omega), ne _ _ (by omega)]
    exact pd v hv
  · rw [ne _ _ (by omega), (pl p hp).1, fb_ct_cong (fun v hv => hpl p v)]
  · rw [ne _ _ (by omega), (pl p hp).2]
    exact (sumI_congr (fun v hv => by rw [hpl p v, ne _ _ (by omega)])).symm
  · rw [ne _ _ (by omega), ne _ _ (by omega), ne _ _ (by omega), ne _ _ (by omega)]
    exact fp p h1 h2
  · rw [ne _ _ (by omega)]; exact ft v h1 h2
  · rw [ne _ _ (by omega)]; exact fo d hd p hp
  · rw [ne _ _ (by omega)]; exact fb b h1 h2
theorem EI.player {i s t f : Int32} (hP : P < 10) (hW : W ≤ 14) (H : EI σ P B W) : EI (telP σ P i s t f) (P + 1) B W := by
  have h1 : EI (telP σ P i s t f) P B W := by
    refine H.same hW (fun k j hk => ?_)
    unfold telP
    unfold eic at hk
    rw [up2_off (by omega), up2_off (by omega), up2_off (by omega), up2_off (by omega), up2_off (by omega)]
  obtain ⟨s1, g, pd, pl, fp, ft, fo, fb⟩ := h1
  exact ⟨s1, g, pd, pl, fun p h1 h2 => fp p (by omega) h2, ft, fun d hd p hp => fo d hd p (by omega), fb⟩
theorem EI.band {m : Nat} (hB : B < 6) (hW : W ≤ 14) (H : EI σ P B W) : EI (bandS σ B m) P (B + 1) W := by
  obtain ⟨⟨s1, s2⟩, g, pd, pl, fp, ft, fo, fb⟩ := H
  have ne : ∀ k j, ¬ ((k = 55 + B ∧ j = 2) ∨ k = 61 + B ∨ k = 67 + B) → ¬ (k = 0 ∧ j = 7) → bandS σ B m k j = σ k j := fun k j g1 g2 => bandS_k (by unfold bdPl; exact g1) g2
  generalize bandS σ B m = τ at ne
  have hpl : ∀ p v, plw τ p v = plw σ p v := fun p v => by
    unfold plw
    rw [ne _ _ (by omega) (by omega), ne _ _ (by omega) (by omega)]
  refine ⟨⟨fun a b ha hb => ?_, fun a b ha hb => ?_⟩, fun v hv i hi => ?_, fun v hv => ?_, fun p hp => ⟨?_, ?_⟩, fun p h1 h2 => ?_, fun v h1 h2 => ?_, fun d hd p hp => ?_, fun b h1 h2 => ?_⟩
  · rw [ne _ _ (by omega) (by omega), ne _ _ (by omega) (by omega)]; exact s1 a b ha hb
  · rw [ne _ _ (by omega) (by omega), ne _ _ (by omega) (by omega)]; exact s2 a b ha hb
  · rw [ne _ _ (by omega) (by omega)]; exact g v hv i hi
  · unfold PdA
    rw [ne _ _ (by omega) (by omega), ne _ _ (by omega) (by omega), ne _ _ (by omega) (by omega)]
    exact pd v hv
  · rw [ne _ _ (by omega) (by omega), (pl p hp).1, fb_ct_cong (fun v hv => hpl p v)]
  · rw [ne _ _ (by omega) (by omega), (pl p hp).2]
    exact (sumI_congr (fun v hv => by rw [hpl p v, ne _ _ (by omega) (by omega)])).symm
  · rw [ne _ _ (by omega) (by omega), ne _ _ (by omega) (by omega), ne _ _ (by omega) (by omega), ne _ _ (by omega) (by omega)]
    exact fp p h1 h2
  · rw [ne _ _ (by omega) (by omega)]; exact ft v h1 h2
  · rw [ne _ _ (by omega) (by omega)]; exact fo d hd p hp
  · rw [ne _ _ (by omega) (by omega)]; exact fb b (by omega) h2
theorem EI.ask {b d t s l g : Int32} (hW : W < 14) (hg : ∀ i, 16 ≤ i → bt g i = false) (D : D0 σ W) (H : EI σ P B W) : EI (askS σ W b d t s l g) P B (W + 1) := by
  obtain ⟨⟨s1, s2⟩, gg, pd, pl, fp, ft, fo, fb⟩ := H
  have ne : ∀ k j, (k ≠ 0 ∨ j ≠ 8) → (k ≠ 73 + W ∨ 7 ≤ j) → askS σ W b d t s l g k j = σ k j := fun k j h1 h2 => by
    unfold askS
    rw [up2_at h1, up2_at (by omega), up2_at (by omega), up2_at (by omega), up2_at (by omega), up2_at (by omega), up2_at (by omega), up2_at (by omega)]
  have e5 : askS σ W b d t s l g (73 + W) 5 = g := by
    unfold askS
    rw [up2_at (by omega), up2_at (by omega), up2_same]
  have z7 := (D W (Nat.le_refl W) hW).1
  generalize askS σ W b d t s l g = τ at ne e5
  have hpl : ∀ p v, plw τ p v = plw σ p v := fun p v => by
    unfold plw
    rw [ne _ _ (by omega) (by omega), ne _ _ (by omega) (by omega)]
  have hno : ∀ p, plw τ p W = false := fun p => by
    rw [hpl]
    unfold plw
    rw [z7]
    rfl
  refine ⟨⟨fun a b ha hb => ?_, fun a b ha hb => ?_⟩, fun v hv i hi => ?_, fun v hv => ?_, fun p hp => ⟨?_, ?_⟩, fun p h1 h2 => ?_, fun v h1 h2 => ?_, fun d hd p hp => ?_, fun b h1 h2 => ?_⟩
  · rw [ne _ _ (by omega) (by omega), ne _ _ (by omega) (by omega)]; exact s1 a b ha hb
  · rw [ne _ _ (by omega) (by omega), ne _ _ (by omega) (by omega)]; exact s2 a b ha hb
  · by_cases e : v = W
    · subst e
      rw [e5]; exact hg i hi
    · rw [ne _ _ (by omega) (by omega)]; exact gg v hv i hi
  · unfold PdA
    rw [ne _ _ (by omega) (by omega), ne _ _ (by omega) (by omega), ne _ _ (by omega) (by omega)]
    exact pd v hv
  · rw [ne _ _ (by omega) (by omega), (pl p hp).1, fb_ct_succ, hno p, fb_ct_cong (fun v hv => hpl p v)]
    rfl
  · rw [ne _ _ (by omega) (by omega), (pl p hp).2]
    show _ = sumI (fun w => if plw τ p w = true then τ (73 + w) 4 else 0) W + (if plw τ p W = true then τ (73 + W) 4 else 0)
    rw [hno p, if_neg Bool.false_ne_true, Int32.add_zero]
    exact (sumI_congr (fun v hv => by rw [hpl p v, ne _ _ (by omega) (by omega)])).symm
  · rw [ne _ _ (by omega) (by omega), ne _ _ (by omega) (by omega), ne _ _ (by omega) (by omega), ne _ _ (by omega) (by omega)]
    exact fp p h1 h2
  · rw [ne _ _ (by omega) (by omega)]; exact ft v (by omega) h2
  · rw [ne _ _ (by omega) (by omega)]; exact fo d hd p hp
  · rw [ne _ _ (by omega) (by omega)]; exact fb b h1 h2
end EINV
end
section
/-! ONE STATE ON BOTH SIDES: the class's books x, read as the reference's cells; what the reference finds is what the class finds -/
/-- the class's books, where the reference keeps them -/
def tR (x : MS) : MS := fun k j => if k = 0 then (if j = 1 then x 0 9 else x 0 10) else if k = 7 then x (39 + j) 0 else if k = 8 then x (39 + j) 1 else if k = 9 then x (39 + j) 2 else if k = 10 then x (39 + j) 3 else if k = 11 then x (17 + j / 6) (j % 6) else if k = 12 then x (23 + j / 6) (j % 6) else if k < 23 then x (29 + (k - 13)) j else if k < 33 then b01 (bt (x 6 j) (k - 23)) else x (73 + (k - 33)) j
/-- ways are as long there as back; none, or some hours -/
def Sy (x : MS) : Prop := ∀ a b, a < 6 → b < 6 → x (23 + a) b = x (23 + b) a ∧ (x (23 + a) b = -1 ∨ ∃ n, n ≤ 576 ∧ x (23 + a) b = nI n)
section ONE
variable {x y : MS} {Γ : RG} {σ τ : MS} {a a0 a1 a2 a3 a4 b s : Int32}
theorem tR_pl {p j : Nat} (hp : p < 10) : tR x (13 + p) j = x (29 + p) j := by
  unfold tR
  rw [if_neg (by omega), if_neg (by omega), if_neg (by omega), if_neg (by omega), if_neg (by omega), if_neg (by omega), if_neg (by omega), if_pos (by omega), show 13 + p - 13 = p by omega]
theorem tR_off {p j : Nat} (hp : p < 10) : tR x (23 + p) j = b01 (bt (x 6 j) p) := by
  unfold tR
  rw [if_neg (by omega), if_neg (by omega), if_neg (by omega), if_neg (by omega), if_neg (by omega), if_neg (by omega), if_neg (by omega), if_neg (by omega), if_pos (by omega), show 23 + p - 23 = p by omega]
theorem tR_wd {w j : Nat} : tR x (33 + w) j = x (73 + w) j := by
  unfold tR
  rw [if_neg (by omega), if_neg (by omega), if_neg (by omega), if_neg (by omega), if_neg (by omega), if_neg (by omega), if_neg (by omega), if_neg (by omega), if_neg (by omega), show 33 + w - 33 = w by omega]
theorem rOk.pl {p j : Nat} (O : rOk (tR x) Γ σ) (hp : p < Γ.1) (hj : j < 6) : σ (13 + p) j = x (29 + p) j := (O.tld (by unfold rTd; have := O.hP; omega)).trans (tR_pl (by have := O.hP; omega))
theorem rOk.off {p d : Nat} (O : rOk (tR x) Γ σ) (hp : p < Γ.1) (hd : d < 366) : σ (23 + p) d = b01 (bt (x 6 d) p) := (O.tld (by unfold rTd; have := O.hP; omega)).trans (tR_off (by have := O.hP; omega))
theorem rOk.wd {w j : Nat} (O : rOk (tR x) Γ σ) (hw : w < Γ.2.2.1) (hj : j < 12) : σ (33 + w) j = x (73 + w) j := (O.tld (by unfold rTd; have := O.hW; omega)).trans tR_wd
theorem rOk.tdy (O : rOk (tR x) Γ σ) : σ 0 1 = x 0 9 := O.tld (by unfold rTd; omega)
theorem rOk.csh (O : rOk (tR x) Γ σ) : σ 0 2 = x 0 10 := O.tld (by unfold rTd; omega)
theorem rOk.sg0 {i : Nat} (O : rOk (tR x) Γ σ) (hi : i < 16) : σ 7 i = x (39 + i) 0 := O.tld (by unfold rTd; omega)
theorem rOk.sg1 {i : Nat} (O : rOk (tR x) Γ σ) (hi : i < 16) : σ 8 i = x (39 + i) 1 := O.tld (by unfold rTd; omega)
theorem rOk.sg2 {i : Nat} (O : rOk (tR x) Γ σ) (hi : i < 16) : σ 9 i = x (39 + i) 2 := O.tld (by unfold rTd; omega)
theorem rOk.sg3 {i : Nat} (O : rOk (tR x) Γ σ) (hi : i < 16) : σ 10 i = x (39 + i) 3 := O.tld (by unfold rTd; omega)
theorem rOk.dr {i j : Nat} (O : rOk (tR x) Γ σ) (hi : i < 6) (hj : j < 6) : σ 12 (i * 6 + j) = x (23 + i) j := by
  rw [O.tld (k := 12) (j := i * 6 + j) (by unfold rTd; omega)]
  show x (23 + (i * 6 + j) / 6) ((i * 6 + j) % 6) = x (23 + i) j
  rw [show (i * 6 + j) / 6 = i by omega, show (i * 6 + j) % 6 = j by omega]
theorem rOk.rd {i j : Nat} (O : rOk (tR x) Γ σ) (hi : i < 6) (hj : j < 6) : σ 11 (i * 6 + j) = x (17 + i) j := by
  rw [O.tld (k := 11) (j := i * 6 + j) (by unfold rTd; omega)]
  show x (17 + (i * 6 + j) / 6) ((i * 6 + j) % 6) = x (17 + i) j
  rw [show (i * 6 + j) / 6 = i by omega, show (i * 6 + j) % 6 = j by omega]
theorem rOk.xhome {p : Nat} (O : rOk (tR x) Γ σ) (hp : p < Γ.1) : ∃ t, t < 6 ∧ x (29 + p) 2 = nI t := by
  rw [← O.pl (j := 2) hp (by decide)]; exact O.home hp
theorem rOk.xtown {w : Nat} (O : rOk (tR x) Γ σ) (hw : w < Γ.2.2.1) : ∃ t, t < 6 ∧ x (73 + w) 2 = nI t := by
  rw [← O.wd (j := 2) hw (by decide)]; exact O.town hw
theorem rOk.xday {w : Nat} (O : rOk (tR x) Γ σ) (hw : w < Γ.2.2.1) : ∃ t, t ≤ 365 ∧ x (73 + w) 1 = nI t := by
  rw [← O.wd (j := 1) hw (by decide)]; exact O.day hw
theorem rOk.xband {w : Nat} (O : rOk (tR x) Γ σ) (hw : w < Γ.2.2.1) : ∃ t, t < Γ.2.1 ∧ x (73 + w) 0 = nI t := by
  rw [← O.wd (j := 0) hw (by decide)]; exact O.band hw
theorem sy_driveOf {post : Int32 → MS → Prop} (O : rOk (tR x) Γ σ) (h1 : ∃ t, t < 6 ∧ a1 = nI t) (h2 : ∃ t, t < 6 ∧ a2 = nI t) (h : post (wayF x a1 a2) σ) : w_X11_driveOf Γ post σ a1 a2 := by
  obtain ⟨i, hi, rfl⟩ := h1
  obtain ⟨j, hj, rfl⟩ := h2
  refine ⟨ix36 hi hj, ?_⟩
  rw [x6 hi hj, O.dr hi hj]
  unfold wayF at h
  rw [nI_clamp (by omega), nI_clamp (by omega)] at h
  exact h
theorem way_sy (Y : Sy x) (h1 : ∃ t, t < 6 ∧ a = nI t) (h2 : ∃ t, t < 6 ∧ b = nI t) : wayF x a b = wayF x b a := by
  obtain ⟨i, hi, rfl⟩ := h1
  obtain ⟨j, hj, rfl⟩ := h2
  unfold wayF
  rw [nI_clamp (by omega), nI_clamp (by omega)]
  exact (Y i j hi hj).1
theorem way_rg (Y : Sy x) (h1 : ∃ t, t < 6 ∧ a = nI t) (h2 : ∃ t, t < 6 ∧ b = nI t) : wayF x a b = -1 ∨ ∃ n, n ≤ 576 ∧ wayF x a b = nI n := by
  obtain ⟨i, hi, rfl⟩ := h1
  obtain ⟨j, hj, rfl⟩ := h2
  unfold wayF
  rw [nI_clamp (by omega), nI_clamp (by omega)]
  exact (Y i j hi hj).2
theorem sy_place {post : Int32 → MS → Prop} {w : Nat} (O : rOk (tR x) Γ σ) (hw : w < Γ.2.2.1) (e : a1 = nI w) (h : post (pq x w) σ) : w_X11_place Γ post σ a1 := by
  have hW := O.hW
  subst e
  unfold w_X11_place
  unfold pq at h
  refine sf_wget O hw rfl ⟨⟨by omega, hw⟩, fun c => ?_, fun c => ?_⟩
  · rw [O.wd (j := 7) hw (by decide)] at c
    rw [if_pos c] at h
    refine up_loop (fun k (q : Int32 × Int32) => u_X11_place_26 Γ post (nI w) k σ w q.1 q.2) (fun i => (nI (fb_ct (fun v => inQ x v w) i), nI i)) w ?_ (fun i k hi hk => ?_)
    · show u_X11_place_26 Γ post (nI w) 1 σ w (nI (ahead x w)) (nI w)
      unfold u_X11_place_26
      exact ⟨fun _ => h, fun c => absurd (le_self _) c⟩
    · have hk : ∀ v, v = nI (fb_ct (fun v => inQ x v w) (i + 1)) → u_X11_place_26 Γ post (nI w) k σ w v (nI i + 1) := fun v e => by rw [e, nI_1]; exact hk
      rw [fb_ct_succ] at hk
      have hi' : i < Γ.2.2.1 := by omega
      have n0 : inQ x i w = false → u_X11_place_26 Γ post (nI w) k σ w (nI (fb_ct (fun v => inQ x v w) i) + 0) (nI i + 1) := fun e => hk _ (by
        rw [e]
        show nI _ + nI 0 = _
        rw [nI_add]
        rfl)
      show u_X11_place_26 Γ post (nI w) (k + 1) σ w (nI (fb_ct (fun v => inQ x v w) i)) (nI i)
      unfold u_X11_place_26
      refine ⟨fun c => absurd c (nI_ge hi (by omega)), fun _ => sf_wget O hi' rfl ⟨⟨by omega, hi'⟩, ?_⟩⟩
      rw [O.wd (j := 7) hi' (by decide), O.wd (j := 0) hi' (by decide), O.wd (j := 1) hi' (by decide), O.wd (j := 0) hw (by decide), O.wd (j := 1) hw (by decide)]
      refine ⟨fun c1 => ⟨fun c2 => ⟨fun c3 => hk _ ?_, fun c3 => n0 (decide_eq_false (fun q => c3 q.2.2.2))⟩, fun c2 => n0 (decide_eq_false (fun q => c2 q.2.2.1))⟩, fun c1 => n0 (decide_eq_false (fun q => c1 q.1))⟩
      rw [show inQ x i w = true from decide_eq_true ⟨c1, c, c2, c3⟩]
      show nI _ + nI 1 = _
      rw [nI_add]
      rfl
  · rw [O.wd (j := 7) hw (by decide)] at c
    rw [if_neg c] at h
    exact h
theorem i32_le {u v : Int32} : u ≤ v ↔ u < v ∨ u = v := by
  rw [Int32.le_iff_toInt_le, Int32.lt_iff_toInt_lt, ← Int32.toInt_inj]
  omega
theorem i32_nlt {u v : Int32} : ¬ v < u ↔ u < v ∨ u = v := by
  rw [Int32.lt_iff_toInt_lt, Int32.lt_iff_toInt_lt, ← Int32.toInt_inj]
  omega
/-- which of two comes first -/
theorem lv_ord {z : MS} {i w : Nat} (hne : i ≠ w) : leaveB z (if w < i then w else i) (if i < w then w else i) = if z (73 + i) 3 < z (73 + w) 3 ∨ (z (73 + i) 3 = z (73 + w) 3 ∧ i < w) then lv2 z i w else lv2 z w i := by
  by_cases c : i < w
  · rw [show (if w < i then w else i) = i from if_neg (by omega), show (if i < w then w else i) = w from if_pos c]
    unfold leaveB
    by_cases d : z (73 + i) 3 ≤ z (73 + w) 3
    · rw [if_pos d, if_pos ((i32_le.mp d).imp id (fun q => ⟨q, c⟩))]
    · rw [if_neg d, if_neg (fun q => d (i32_le.mpr (q.imp id (fun q => q.1))))]
  · rw [show (if w < i then w else i) = w from if_pos (by omega), show (if i < w then w else i) = i from if_neg c]
    unfold leaveB
    by_cases d : z (73 + w) 3 ≤ z (73 + i) 3
    · rw [if_pos d, if_neg (fun q => q.elim (fun q => absurd d (Int32.not_le.mpr q)) (fun q => c q.2))]
    · rw [if_neg d, if_pos (Or.inl (Int32.not_le.mp d))]
theorem sy_isFree {post : Int32 → MS → Prop} {p w : Nat} (O : rOk (tR x) Γ σ) (Y : Sy x) (hp : p < Γ.1) (e : a1 = nI p) (hw : w < Γ.2.2.1) (e2 : a2 = nI w) (h : post (b01 (freeB (stg x Γ.2.2.1) p w Γ.2.2.1)) σ) : w_X11_isFree Γ post σ a1 a2 := by
  have hW := O.hW
  have hP := O.hP
  subst e
  subst e2
  obtain ⟨z, hz⟩ : ∃ z, z = stg x Γ.2.2.1 := ⟨_, rfl⟩
  rw [← hz] at h
  have zk : ∀ k, k ≠ 7 → z k = x k := fun k hk => by rw [hz]; exact stg_k hk
  have z7 : ∀ i, i < Γ.2.2.1 → z 7 i = if x (73 + i) 7 = 1 then x (73 + i) 8 else 0 := fun i hi => by rw [hz]; exact if_pos ⟨rfl, hi⟩
  obtain ⟨d, hd, exd⟩ := O.xday hw
  have ed : σ (33 + w) 1 = nI d := (O.wd hw (by decide)).trans exd
  have hf : freeB z p w Γ.2.2.1 = (!bt (x 6 d) p && (!decide (wayF x (x (29 + p) 2) (x (73 + w) 2) = -1) && okUp z p w Γ.2.2.1)) := by
    unfold freeB wayF
    rw [zk 6 (by decide), zk (73 + w) (by omega), zk (29 + p) (by omega), exd, nI_clamp (by omega), zk (23 + (x (29 + p) 2).toNatClampNeg) (by omega)]
  rw [hf] at h
  clear hf hz
  have key : ∀ n i, i + n = Γ.2.2.1 → okUp z p w i = true → post (b01 (okUp z p w Γ.2.2.1)) σ → u_X11_isFree_60 Γ post (nI p) (nI w) (n + 1) σ w (nI i) := by
    intro n
    induction n with
    | zero =>
      intro i hi hf h
      obtain rfl : i = Γ.2.2.1 := by omega
      unfold u_X11_isFree_60 w_lw_Jx4a65c_size_8abf5
      rw [O.w]
      rw [hf] at h
      exact ⟨fun _ => h, fun c => absurd (le_self _) c⟩
    | succ n ih =>
      intro i hi hf h
      have hiW : i < Γ.2.2.1 := by omega
      have nx : okUp z p w (i + 1) = true → u_X11_isFree_60 Γ post (nI p) (nI w) (n + 1) σ w (nI i + 1) := fun g => by rw [nI_1]; exact ih (i + 1) (by omega) g h
      have no : okUp z p w (i + 1) = false → post 0 σ := fun g => by
        rw [okUp_le (n := Γ.2.2.1) (by omega) g] at h
        exact h
      have step : ¬ othB z p w i = true → u_X11_isFree_60 Γ post (nI p) (nI w) (n + 1) σ w (nI i + 1) := fun hx => nx (by
        unfold okUp
        rw [hf, Bool.eq_false_iff.mpr hx]
        rfl)
      have d189 : ∀ e l, (e = i ∧ l = w ∨ e = w ∧ l = i) → othB z p w i = true → leaveB z (if w < i then w else i) (if i < w then w else i) = lv2 z e l → u_X11_isFree_189 Γ post (nI p) (nI w) (fun σ w0 w1 => u_X11_isFree_60 Γ post (nI p) (nI w) (n + 1) σ w0 w1) σ w (nI i) i e l := by
        intro e l hel ho hl
        have hs : okUp z p w (i + 1) = lv2 z e l := by
          unfold okUp
          rw [hf, ho, hl]
          cases lv2 z e l <;> rfl
        have he : e < Γ.2.2.1 := by omega
        have hl' : l < Γ.2.2.1 := by omega
        have hv : lv2 z e l = decide (¬ wayF x (x (73 + w) 2) (x (73 + i) 2) = -1 ∧ ¬ x (73 + l) 3 < (x (73 + e) 3 + x (73 + e) 4) + wayF x (x (73 + w) 2) (x (73 + i) 2)) := by
          have hy : wayF z (x (73 + e) 2) (x (73 + l) 2) = wayF x (x (73 + w) 2) (x (73 + i) 2) := by
            have h0 : wayF z (x (73 + e) 2) (x (73 + l) 2) = wayF x (x (73 + e) 2) (x (73 + l) 2) := by
              unfold wayF
              rw [zk _ (by omega)]
            rw [h0]
            rcases hel with ⟨q1, q2⟩ | ⟨q1, q2⟩
            · rw [q1, q2]; exact way_sy Y (O.xtown hiW) (O.xtown hw)
            · rw [q1, q2]
          unfold lv2
          rw [zk (73 + e) (by omega), zk (73 + l) (by omega), hy]
        unfold u_X11_isFree_189
        refine sy_driveOf O (O.town hw) (O.town hiW) ?_
        rw [O.wd (j := 2) hw (by decide), O.wd (j := 2) hiW (by decide), O.wd (j := 3) he (by decide), O.wd (j := 4) he (by decide), O.wd (j := 3) hl' (by decide)]
        exact ⟨fun c => no (by rw [hs, hv]; exact decide_eq_false (fun q => q.1 c)), fun c => ⟨fun c2 => nx (by rw [hs, hv]; exact decide_eq_true ⟨c, Int32.not_lt.mpr c2⟩), fun c2 => no (by rw [hs, hv]; exact decide_eq_false (fun q => c2 (Int32.not_lt.mp q.2)))⟩⟩
      have d158 : othB z p w i = true → (x (73 + i) 3 < x (73 + w) 3 ∨ (x (73 + i) 3 = x (73 + w) 3 ∧ i < w)) → u_X11_isFree_158 Γ post (nI p) (nI w) (fun σ w0 w1 => u_X11_isFree_60 Γ post (nI p) (nI w) (n + 1) σ w0 w1) σ w (nI i) i := fun ho hc => by
        unfold u_X11_isFree_158 u_X11_isFree_163 u_X11_isFree_176
        refine ⟨fun q => absurd q (by decide), fun _ => ⟨fun q => absurd q (by decide), fun _ => d189 i w (Or.inl ⟨rfl, rfl⟩) ho ?_⟩⟩
        rw [lv_ord (of_decide_eq_true ho).1, zk (73 + i) (by omega), zk (73 + w) (by omega), if_pos hc]
      have d162 : othB z p w i = true → ¬ (x (73 + i) 3 < x (73 + w) 3 ∨ (x (73 + i) 3 = x (73 + w) 3 ∧ i < w)) → u_X11_isFree_162 Γ post (nI p) (nI w) (fun σ w0 w1 => u_X11_isFree_60 Γ post (nI p) (nI w) (n + 1) σ w0 w1) σ w (nI i) i := fun ho hc => by
        unfold u_X11_isFree_162 u_X11_isFree_163 u_X11_isFree_176
        refine ⟨fun _ => ⟨fun _ => d189 w i (Or.inr ⟨rfl, rfl⟩) ho ?_, fun q => absurd rfl q⟩, fun q => absurd rfl q⟩
        rw [lv_ord (of_decide_eq_true ho).1, zk (73 + i) (by omega), zk (73 + w) (by omega), if_neg hc]
      unfold u_X11_isFree_60 w_lw_Jx4a65c_size_8abf5
      rw [O.w]
      refine ⟨fun c => absurd c (nI_ge hiW (by omega)), fun _ => sf_wget O hiW rfl ⟨⟨by omega, hiW⟩, fun c => step (fun q => ?_), fun c => ?_⟩⟩
      · exact (of_decide_eq_true q).1 ((nI_eq (by omega) (by omega)).mp c)
      rw [O.wd (j := 7) hiW (by decide), O.wd (j := 1) hiW (by decide), O.wd (j := 1) hw (by decide), O.wd (j := 8) hiW (by decide)]
      have oth : othB z p w i = decide (i ≠ w ∧ x (73 + i) 1 = x (73 + w) 1 ∧ bt (if x (73 + i) 7 = 1 then x (73 + i) 8 else 0) p = true) := by
        unfold othB
        rw [zk (73 + i) (by omega), zk (73 + w) (by omega), z7 i hiW]
      refine ⟨fun c1 => ⟨fun c2 => sx_isIn (by omega) ⟨fun c3 => step (fun q => ?_), fun c3 => ?_⟩, fun c2 => step (fun q => ?_)⟩, fun c1 => step (fun q => ?_)⟩
      · rw [oth, if_pos c1] at q
        have := (of_decide_eq_true q).2.2
        rw [b01_0.mp c3] at this
        exact Bool.false_ne_true this
      · have ho : othB z p w i = true := by
          rw [oth, if_pos c1]
          exact decide_eq_true ⟨fun q => c (by rw [q]), c2, b01_1.mp c3⟩
        rw [O.wd (j := 3) hiW (by decide), O.wd (j := 3) hw (by decide)]
        refine ⟨fun s1 => d158 ho (Or.inl s1), fun s1 => ⟨fun s2 => ⟨fun s3 => d162 ho (fun q => ?_), fun s3 => d158 ho (Or.inr ⟨s2, ?_⟩)⟩, fun s2 => d162 ho (fun q => q.elim s1 (fun q => s2 q.1))⟩⟩
        · rcases q with q | q
          · exact s1 q
          · exact absurd s3 (nI_ge q.2 (by omega))
        · rcases Nat.lt_or_ge i w with g | g
          · exact g
          · exact absurd (nI_le0 g (by omega)) s3
      · rw [oth] at q
        exact c2 (of_decide_eq_true q).2.1
      · rw [oth, if_neg c1] at q
        have := (of_decide_eq_true q).2.2
        rw [b_0] at this
        exact Bool.false_ne_true this
  unfold w_X11_isFree
  refine sf_wget O hw rfl ⟨⟨by omega, hw⟩, sf_pget O hp rfl ⟨⟨by omega, hp⟩, ?_⟩⟩
  rw [ed, nI_clamp (by omega), O.off hp (show d < 366 by omega)]
  refine ⟨vp_in_nI (by omega) (by decide), fun c => sy_driveOf O (O.home hp) (O.town hw) ?_, fun c => ?_⟩
  · rw [O.pl (j := 2) hp (by decide), O.wd (j := 2) hw (by decide)]
    refine ⟨fun c2 => ?_, fun c2 => ⟨Γ.2.2.1 + 1, key Γ.2.2.1 0 (by omega) rfl ?_⟩⟩
    · rw [decide_eq_true c2, b01_0.mp c] at h
      exact h
    · rw [decide_eq_false c2, b01_0.mp c] at h
      exact h
  · rw [b01_1.mp c] at h
    exact h
theorem sy_freeFor {post : Int32 → MS → Prop} {w : Nat} (O : rOk (tR x) Γ σ) (Y : Sy x) (hw : w < Γ.2.2.1) (e : a1 = nI w) (h : post (freeF (stg x Γ.2.2.1) w Γ.2.2.1 Γ.1) σ) : w_X11_freeFor Γ post σ a1 := by
  have hP := O.hP
  subst e
  unfold w_X11_freeFor
  refine up_loop (fun k (q : Int32 × Int32) => u_X11_freeFor_4 Γ post (nI w) k σ q.1 q.2) (fun i => (freeF (stg x Γ.2.2.1) w Γ.2.2.1 i, nI i)) Γ.1 ?_ (fun i k hi hk => ?_)
  · show u_X11_freeFor_4 Γ post (nI w) 1 σ (freeF (stg x Γ.2.2.1) w Γ.2.2.1 Γ.1) (nI Γ.1)
    unfold u_X11_freeFor_4 w_lp_Jx4a65c_size_8abf5
    rw [O.p]
    exact ⟨fun _ => h, fun c => absurd (le_self _) c⟩
  · have hk : u_X11_freeFor_4 Γ post (nI w) k σ (freeF (stg x Γ.2.2.1) w Γ.2.2.1 i ||| (if freeB (stg x Γ.2.2.1) i w Γ.2.2.1 = true then one i else 0)) (nI (i + 1)) := hk
    show u_X11_freeFor_4 Γ post (nI w) (k + 1) σ (freeF (stg x Γ.2.2.1) w Γ.2.2.1 i) (nI i)
    unfold u_X11_freeFor_4 w_lp_Jx4a65c_size_8abf5
    rw [O.p, nI_1]
    refine ⟨fun c => absurd c (nI_ge hi (by omega)), fun _ => sy_isFree O Y hi rfl hw rfl ⟨fun c => ?_, fun c => ?_⟩⟩
    · rw [if_neg (by rw [b01_0.mp c]; exact Bool.false_ne_true)] at hk
      exact hk
    · rw [if_pos (b01_1.mp c)] at hk
      exact hk
theorem sy_isPeaceful {post : Int32 → MS → Prop} (O : rOk (tR x) Γ σ) (h : post (b01 (!feudB x a1 Γ.1)) σ) : w_X11_isPeaceful Γ post σ a1 := by
  have hP := O.hP
  have key : ∀ d i, i + d = Γ.1 → feudB x a1 i = false → u_X11_isPeaceful_2 Γ post a1 (d + 1) σ (nI i) := by
    intro d
    induction d with
    | zero =>
      intro i hi hf
      obtain rfl : i = Γ.1 := by omega
      unfold u_X11_isPeaceful_2 w_lp_Jx4a65c_size_8abf5
      rw [O.p]
      rw [hf] at h
      exact ⟨fun _ => h, fun c => absurd (le_self _) c⟩
    | succ d ih =>
      intro i hi hf
      have hiP : i < Γ.1 := by omega
      have step : ¬ (bt a1 i = true ∧ ¬ (x (29 + i) 4 &&& a1) = 0) → u_X11_isPeaceful_2 Γ post a1 (d + 1) σ (nI i + 1) := fun hx => by
        rw [nI_1]
        exact ih (i + 1) (by omega) (by unfold feudB; rw [hf, decide_eq_false hx]; rfl)
      unfold u_X11_isPeaceful_2 w_lp_Jx4a65c_size_8abf5
      rw [O.p]
      refine ⟨fun c => absurd c (nI_ge hiP (by omega)), fun _ => sx_isIn (by omega) ⟨fun c => step (fun q => ?_), fun c => sf_pget O hiP rfl ⟨⟨by omega, hiP⟩, ?_⟩⟩⟩
      · rw [b01_0.mp c] at q
        exact Bool.false_ne_true q.1
      · rw [O.pl (j := 4) hiP (by decide)]
        refine ⟨fun c2 => step (fun q => q.2 c2), fun c2 => ?_⟩
        have ht : feudB x a1 (i + 1) = true := by
          unfold feudB
          rw [decide_eq_true ⟨b01_1.mp c, c2⟩, Bool.or_true]
        rw [feudB_le (n := Γ.1) (by omega) ht] at h
        exact h
  exact ⟨Γ.1 + 1, key Γ.1 0 (by omega) rfl⟩
theorem g_and {g p : Int32} (hg : ∀ i, 16 ≤ i → bt g i = false) : g &&& (p ^^^ (-1)) = 0 ↔ ∀ s, s < 16 → bt g s = true → bt p s = true := by
  constructor
  · intro h s hs hb
    have := congrArg (fun y => bt y s) h
    simp only [b_and, b_cmp (show s < 32 by omega), b_0, hb] at this
    simpa using this
  · intro h
    refine b_ext fun i hi => ?_
    rw [b_and, b_cmp hi, b_0]
    rcases Nat.lt_or_ge i 16 with c | c
    · cases q : bt g i with
      | false => rfl
      | true => rw [h i c q]; rfl
    · rw [hg i c]; rfl
theorem bt_nI {n i : Nat} : bt (nI n) i = (decide (i < 32) && n.testBit i) := by
  unfold bt
  show (BitVec.ofNat 32 n).getLsbD i = _
  simp [BitVec.getLsbD_ofNat]
theorem sg_bits {g : Int32} (h : 0 ≤ g ∧ g < 65536) : ∀ i, 16 ≤ i → bt g i = false := fun i hi => by
  obtain ⟨n, hn, rfl⟩ := idx_in (n := 65536) (by decide) (Int32.not_lt.mpr h.1) h.2
  rw [bt_nI, Nat.testBit_lt_two_pow (Nat.lt_of_lt_of_le hn (Nat.pow_le_pow_right (n := 2) (by decide) hi)), Bool.and_false]
theorem kn_one {i : Nat} (O : rOk (tR x) Γ σ) : knP (fun p => σ (13 + p) 1) a Γ.1 i ↔ bt (playF x a Γ.1) i = true := by
  rw [playF_bt]
  unfold knP
  rw [knC_cg (K := fun p => σ (13 + p) 1) (L := fun p => x (29 + p) 1) _ (fun p hp => O.pl (j := 1) hp (by decide))]
theorem sy_areKnown {post : Int32 → MS → Prop} (O : rOk (tR x) Γ σ) (hg : ∀ i, 16 ≤ i → bt a2 i = false) (h : post (b01 (decide (a2 &&& (playF x a1 Γ.1 ^^^ (-1)) = 0))) σ) : w_X11_areKnown Γ post σ a1 a2 := by
  have key : ∀ d i, i + d = 16 → (∀ s, s < i → bt a2 s = true → bt (playF x a1 Γ.1) s = true) → u_X11_areKnown_2 Γ post a1 a2 (d + 1) σ (nI i) := by
    intro d
    induction d with
    | zero =>
      intro i hi hf
      obtain rfl : i = 16 := by omega
      unfold u_X11_areKnown_2
      rw [decide_eq_true ((g_and hg).mpr hf)] at h
      exact ⟨fun _ => h, fun c => absurd (le_self (nI 16)) c⟩
    | succ d ih =>
      intro i hi hf
      have nx : (bt a2 i = true → bt (playF x a1 Γ.1) i = true) → u_X11_areKnown_2 Γ post a1 a2 (d + 1) σ (nI i + 1) := fun g => by
        rw [nI_1]
        refine ih (i + 1) (by omega) (fun s hs => ?_)
        rcases Nat.eq_or_lt_of_le (Nat.le_of_lt_succ hs) with z | z
        · rw [z]; exact g
        · exact hf s z
      unfold u_X11_areKnown_2
      refine ⟨fun c => absurd (show nI 16 ≤ nI i from c) (nI_ge (by omega) (by decide)), fun _ => sx_isIn (by omega) ⟨fun c => nx (fun q => ?_), fun c => sx_isKnown O (by omega) (fun g => ⟨fun q => absurd q (by decide), fun _ => nx (fun _ => (kn_one O).mp g)⟩) (fun g => ⟨fun _ => ?_, fun q => absurd rfl q⟩)⟩⟩
      · rw [b01_0.mp c] at q
        exact absurd q Bool.false_ne_true
      · rw [decide_eq_false (fun q => g ((kn_one O).mpr ((g_and hg).mp q i (by omega) (b01_1.mp c))))] at h
        exact h
  exact ⟨17, key 16 0 (by omega) (fun s hs => absurd hs (by omega))⟩
theorem mx_way {r : Int32} (h : ∃ n, n ≤ 576 ∧ r = nI n) : (if 0 < r then r else 0) = r := by
  obtain ⟨n, hn, rfl⟩ := h
  rcases Nat.eq_zero_or_pos n with c | c
  · subst c; rfl
  · exact if_pos (show nI 0 < nI n from nI_lt c (by omega))
theorem sy_cost {post : Int32 → MS → Prop} {p w : Nat} (O : rOk (tR x) Γ σ) (Y : Sy x) (hp : p < Γ.1) (e : a1 = nI p) (hw : w < Γ.2.2.1) (h : post (costF x p w) σ) : w_X11_cost Γ post σ a1 w := by
  have hP := O.hP
  unfold w_X11_cost
  unfold costF at h
  refine sf_pget O hp e ⟨⟨by omega, hp⟩, sy_driveOf O (O.home hp) (O.town hw) ?_⟩
  rw [O.pl (j := 2) hp (by decide), O.wd (j := 2) hw (by decide), O.pl (j := 3) hp (by decide), O.wd (j := 4) hw (by decide)]
  refine ⟨fun c => ?_, fun c => ?_⟩
  · rw [c, show (10 * (if (0 : Int32) < -1 then -1 else 0) : Int32) = 0 by decide] at h
    exact h
  · rw [mx_way ((way_rg Y (O.xhome hp) (O.xtown hw)).resolve_left c)] at h
    exact h
theorem sy_costOf {post : Int32 → MS → Prop} {w : Nat} (O : rOk (tR x) Γ σ) (Y : Sy x) (hw : w < Γ.2.2.1) (h : post (costsF x a1 w Γ.1) σ) : w_X11_costOf Γ post σ a1 w := by
  have hP := O.hP
  unfold w_X11_costOf
  refine up_loop (fun k (q : Int32 × Int32) => u_X11_costOf_5 Γ post a1 w k σ q.1 q.2) (fun i => (costsF x a1 w i, nI i)) Γ.1 ?_ (fun i k hi hk => ?_)
  · show u_X11_costOf_5 Γ post a1 w 1 σ (costsF x a1 w Γ.1) (nI Γ.1)
    unfold u_X11_costOf_5 w_lp_Jx4a65c_size_8abf5
    rw [O.p]
    exact ⟨fun _ => h, fun c => absurd (le_self _) c⟩
  · have hk : u_X11_costOf_5 Γ post a1 w k σ (costsF x a1 w i + (if bt a1 i = true then costF x i w else 0)) (nI (i + 1)) := hk
    show u_X11_costOf_5 Γ post a1 w (k + 1) σ (costsF x a1 w i) (nI i)
    unfold u_X11_costOf_5 w_lp_Jx4a65c_size_8abf5
    rw [O.p, nI_1]
    refine ⟨fun c => absurd c (nI_ge hi (by omega)), fun _ => sx_isIn (by omega) ⟨fun c => ?_, fun c => sy_cost O Y hi rfl hw ?_⟩⟩
    · rw [if_neg (by rw [b01_0.mp c]; exact Bool.false_ne_true)] at hk
      exact hk
    · rw [if_pos (b01_1.mp c)] at hk
      exact hk
theorem sy_quarters {post : Int32 → MS → Prop} {w : Nat} (O : rOk (tR x) Γ σ) (hw : w < Γ.2.2.1) (h : post (quF x w) σ) : w_X10_quarters Γ post σ w := by
  unfold w_X10_quarters
  unfold quF at h
  rw [O.wd (j := 3) hw (by decide), O.wd (j := 4) hw (by decide), O.wd (j := 10) hw (by decide)]
  intro y hy
  rw [hy, Int32.mul_comm 60]
  exact h
theorem sy_owed {post : Int32 → MS → Prop} {w : Nat} (O : rOk (tR x) Γ σ) (hw : w < Γ.2.2.1) (h : post (owedF x w) σ) : w_X11_owed Γ post σ w := by
  unfold w_X11_owed
  unfold owedF at h
  rw [O.wd (j := 1) hw (by decide), O.wd (j := 9) hw (by decide), O.tdy]
  refine ⟨fun c => ⟨fun d => ⟨fun e => ?_, fun e => ?_⟩, fun d => ?_⟩, fun c => ?_⟩
  · rw [if_pos c, if_pos d, if_pos e] at h; exact h
  · rw [if_pos c, if_pos d, if_neg e] at h; exact h
  · rw [if_pos c, if_neg d] at h; exact h
  · rw [if_neg c] at h; exact h
theorem sy_fees {post : Int32 → MS → Prop} (O : rOk (tR x) Γ σ) (h : post (sumI (ifb a1 fun p => x (29 + p) 3) Γ.1) σ) : w_X11_fees Γ post σ a1 := by
  have hP := O.hP
  unfold w_X11_fees
  refine up_loop (fun k (q : Int32 × Int32) => u_X11_fees_4 Γ post a1 k σ q.1 q.2) (fun i => (sumI (ifb a1 fun p => x (29 + p) 3) i, nI i)) Γ.1 ?_ (fun i k hi hk => ?_)
  · show u_X11_fees_4 Γ post a1 1 σ (sumI (ifb a1 fun p => x (29 + p) 3) Γ.1) (nI Γ.1)
    unfold u_X11_fees_4 w_lp_Jx4a65c_size_8abf5
    rw [O.p]
    exact ⟨fun _ => h, fun c => absurd (le_self _) c⟩
  · have hk : u_X11_fees_4 Γ post a1 k σ (sumI (ifb a1 fun p => x (29 + p) 3) i + (if bt a1 i = true then x (29 + i) 3 else 0)) (nI (i + 1)) := hk
    show u_X11_fees_4 Γ post a1 (k + 1) σ (sumI (ifb a1 fun p => x (29 + p) 3) i) (nI i)
    unfold u_X11_fees_4 w_lp_Jx4a65c_size_8abf5
    rw [O.p, nI_1]
    refine ⟨fun c => absurd c (nI_ge hi (by omega)), fun _ => sx_isIn (by omega) ⟨fun c => ?_, fun c => sf_pget O hi rfl ⟨⟨by omega, hi⟩, ?_⟩⟩⟩
    · rw [if_neg (by rw [b01_0.mp c]; exact Bool.false_ne_true)] at hk
      exact hk
    · rw [if_pos (b01_1.mp c)] at hk
      rw [O.pl (j := 3) hi (by decide)]
      exact hk
theorem sy_earnedAt {post : Int32 → MS → Prop} {p w : Nat} (O : rOk (tR x) Γ σ) (Y : Sy x) (hp : p < Γ.1) (e : a1 = nI p) (hw : w < Γ.2.2.1) (h : post (wageF x p w) σ) : w_X11_earnedAt Γ post σ a1 w := by
  have hP := O.hP
  unfold w_X11_earnedAt
  refine sy_cost O Y hp e hw (sy_quarters O hw (sf_pget O hp e ⟨⟨by omega, hp⟩, ?_⟩))
  rw [O.pl (j := 3) hp (by decide)]
  exact h
/-- what comes in as it is played, less what goes to players -/
def gainF (x : MS) (w n : Nat) : Int32 := ((x (73 + w) 9 - x (73 + w) 11) + extraF x w n) - wagesF x w n
theorem sy_gain {post : Int32 → MS → Prop} {w : Nat} (O : rOk (tR x) Γ σ) (Y : Sy x) (hw : w < Γ.2.2.1) (h : post (gainF x w Γ.1) σ) : w_X11_gain Γ post σ w := by
  have hP := O.hP
  unfold w_X11_gain
  refine sy_quarters O hw ?_
  rw [O.wd (j := 8) hw (by decide)]
  refine sy_fees O ?_
  rw [O.wd (j := 9) hw (by decide), O.wd (j := 11) hw (by decide)]
  have key : ∃ k, u_X11_gain_28 Γ post w k σ (((x (73 + w) 9 - x (73 + w) 11) + extraF x w Γ.1) - wagesF x w 0) (nI 0) := by
    refine up_loop (fun k (q : Int32 × Int32) => u_X11_gain_28 Γ post w k σ q.1 q.2) (fun i => (((x (73 + w) 9 - x (73 + w) 11) + extraF x w Γ.1) - wagesF x w i, nI i)) Γ.1 ?_ (fun i k hi hk => ?_)
    · show u_X11_gain_28 Γ post w 1 σ (gainF x w Γ.1) (nI Γ.1)
      unfold u_X11_gain_28 w_lp_Jx4a65c_size_8abf5
      rw [O.p]
      exact ⟨fun _ => h, fun c => absurd (le_self _) c⟩
    · have hk : ∀ v, v = ((x (73 + w) 9 - x (73 + w) 11) + extraF x w Γ.1) - (wagesF x w i + (if bt (x (73 + w) 8) i = true then wageF x i w else 0)) → u_X11_gain_28 Γ post w k σ v (nI (i + 1)) := fun v e => by rw [e]; exact hk
      show u_X11_gain_28 Γ post w (k + 1) σ (((x (73 + w) 9 - x (73 + w) 11) + extraF x w Γ.1) - wagesF x w i) (nI i)
      unfold u_X11_gain_28 w_lp_Jx4a65c_size_8abf5
      rw [O.p, nI_1]
      dsimp only
      rw [O.wd (j := 8) hw (by decide)]
      refine ⟨fun c => absurd c (nI_ge hi (by omega)), fun _ => sx_isIn (by omega) ⟨fun c => hk _ ?_, fun c => sy_earnedAt O Y hi rfl hw (hk _ ?_)⟩⟩
      · rw [if_neg (by rw [b01_0.mp c]; exact Bool.false_ne_true)]
        grind
      · rw [if_pos (b01_1.mp c)]
        grind
  have e0 : ((x (73 + w) 9 - x (73 + w) 11) + extraF x w Γ.1) - wagesF x w 0 = (x (73 + w) 9 - x (73 + w) 11) + extraF x w Γ.1 := by
    show _ - (0 : Int32) = _
    grind
  rw [e0] at key
  exact key
theorem sy_share {post : Int32 → MS → Prop} {i : Nat} (O : rOk (tR x) Γ σ) (hi : i < 16) (h : post (shareF x i) σ) : w_X11_share Γ post σ (nI i) := by
  unfold w_X11_share
  have vi : vp_in (nI i) 16 := vp_in_nI hi (by decide)
  refine up_loop (fun k (q : Int32 × Int32) => u_X11_share_4 Γ post (nI i) k σ q.1 q.2) (fun j => (sumI (fun s => x (39 + s) 2 * x (39 + s) 3) j, nI j)) 16 ?_ (fun j k hj hk => ?_)
  · show u_X11_share_4 Γ post (nI i) 1 σ (shAll x) (nI 16)
    unfold u_X11_share_4
    unfold shareF at h
    refine ⟨fun _ => ⟨fun c => ?_, fun c => ⟨vi, vi, c, ?_⟩⟩, fun c => absurd (le_self (nI 16)) c⟩
    · rw [if_pos c] at h; exact h
    · rw [if_neg c] at h
      rw [nI_clamp (by omega), O.sg2 hi, O.sg3 hi, show (1000 * x (39 + i) 2 * x (39 + i) 3 : Int32) = x (39 + i) 2 * x (39 + i) 3 * 1000 by grind]
      exact h
  · have hk : u_X11_share_4 Γ post (nI i) k σ (sumI (fun s => x (39 + s) 2 * x (39 + s) 3) j + x (39 + j) 2 * x (39 + j) 3) (nI (j + 1)) := hk
    have vj : vp_in (nI j) 16 := vp_in_nI hj (by decide)
    show u_X11_share_4 Γ post (nI i) (k + 1) σ (sumI (fun s => x (39 + s) 2 * x (39 + s) 3) j) (nI j)
    unfold u_X11_share_4
    refine ⟨fun c => absurd (show nI 16 ≤ nI j from c) (nI_ge hj (by decide)), fun _ => ⟨vj, vj, ?_⟩⟩
    rw [nI_clamp (by omega), O.sg2 hj, O.sg3 hj, nI_1]
    exact hk
end ONE
end
section
/-! SEATS: the places of a band can be taken, place by place, by players of a set, each one at most -/
section SEATS
def can (inst : Nat → Nat → Prop) (n : Nat) : List Nat → (Nat → Prop) → Prop
  | [], _ => True
  | i :: L, S => ∃ p, p < n ∧ S p ∧ inst p i ∧ can inst n L (fun q => S q ∧ q ≠ p)
theorem can_cg {inst : Nat → Nat → Prop} {n : Nat} : ∀ (L : List Nat) {S S' : Nat → Prop}, (∀ q, q < n → (S q ↔ S' q)) → (can inst n L S ↔ can inst n L S')
  | [], _, _, _ => Iff.rfl
  | i :: L, S, S', h => by
    unfold can
    constructor
    · rintro ⟨p, hp, h1, h2, h3⟩
      exact ⟨p, hp, (h p hp).mp h1, h2, (can_cg L (fun q hq => and_congr_left' (h q hq))).mp h3⟩
    · rintro ⟨p, hp, h1, h2, h3⟩
      exact ⟨p, hp, (h p hp).mpr h1, h2, (can_cg L (fun q hq => and_congr_left' (h q hq))).mpr h3⟩
theorem can_swap {inst : Nat → Nat → Prop} {n i j : Nat} {L : List Nat} {S : Nat → Prop} (h : can inst n (i :: j :: L) S) : can inst n (j :: i :: L) S := by
  unfold can can at h
  obtain ⟨p, hp, h1, h2, q, hq, h3, h4, h5⟩ := h
  unfold can can
  exact ⟨q, hq, h3.1, h4, p, hp, ⟨h1, fun e => h3.2 e.symm⟩, h2, (can_cg L (fun r hr => by constructor <;> rintro ⟨⟨a, b⟩, c⟩ <;> exact ⟨⟨a, c⟩, b⟩)).mp h5⟩
theorem can_snoc {inst : Nat → Nat → Prop} {n i : Nat} : ∀ (L : List Nat) {S : Nat → Prop}, can inst n (L ++ [i]) S ↔ can inst n (i :: L) S
  | [], _ => Iff.rfl
  | j :: L, S => by
    have e : can inst n (j :: (L ++ [i])) S ↔ can inst n (j :: i :: L) S := by
      show (∃ p, p < n ∧ S p ∧ inst p j ∧ can inst n (L ++ [i]) (fun q => S q ∧ q ≠ p)) ↔ ∃ p, p < n ∧ S p ∧ inst p j ∧ can inst n (i :: L) (fun q => S q ∧ q ≠ p)
      constructor
      · rintro ⟨p, a, b, c, d⟩; exact ⟨p, a, b, c, (can_snoc L).mp d⟩
      · rintro ⟨p, a, b, c, d⟩; exact ⟨p, a, b, c, (can_snoc L).mpr d⟩
    exact e.trans ⟨can_swap, can_swap⟩
theorem clr_nI {s p : Nat} (hs : s < 1024) : nI (clr (nI s) p) = nI s &&& (one p ^^^ (-1)) ∧ clr (nI s) p ≤ s := by
  obtain ⟨j, hj, e⟩ := and_small hs (by decide) (one p ^^^ (-1))
  have : clr (nI s) p = j := by
    unfold clr
    rw [show (1 <<< (nI p &&& 31) ^^^ (-1) : Int32) = one p ^^^ (-1) from rfl, e, nI_clamp (by omega)]
  rw [this, e]
  exact ⟨rfl, hj⟩
theorem clr_bt {s p q : Nat} (hs : s < 1024) (hp : p < 32) (hq : q < 32) : bt (nI (clr (nI s) p)) q = (bt (nI s) q && !decide (q = p)) := by
  rw [(clr_nI hs).1, b_and, b_cmp hq, b_one hp hq]
theorem bc_tab : ∀ s, s < 1024 → ∃ m, m ≤ 10 ∧ bcI (nI s) = nI m := by
  have : ∀ s, s < 1024 → (bcI (nI s)).toNatClampNeg ≤ 10 ∧ bcI (nI s) = nI (bcI (nI s)).toNatClampNeg := by decide +kernel
  exact fun s hs => ⟨_, (this s hs).1, (this s hs).2⟩
set_option maxRecDepth 20000 in
theorem bc_clr : ∀ s, s < 1024 → ∀ p, p < 10 → bt (nI s) p = true → bcI (nI s) = bcI (nI (clr (nI s) p)) + 1 ∧ clr (nI s) p < s := by decide +kernel
theorem bc_pos : ∀ s, s < 1024 → 1 ≤ s → ¬ bcI (nI s) = 0 := by decide +kernel
theorem seatB_ex {x : MS} {b last : Nat} {s : Int32} : ∀ n, seatB x b last s n = true ↔ ∃ p, p < n ∧ bt s p = true ∧ bt (x (29 + p) 0) (pl x b last) = true ∧ ¬ x 8 (clr s p) = 0
  | 0 => by
    unfold seatB
    constructor
    · intro h; cases h
    · rintro ⟨p, hp, _⟩; omega
  | n + 1 => by
    unfold seatB
    rw [Bool.or_eq_true, seatB_ex n, decide_eq_true_iff]
    constructor
    · rintro (⟨p, hp, h⟩ | h)
      · exact ⟨p, by omega, h⟩
      · exact ⟨n, by omega, h⟩
    · rintro ⟨p, hp, h⟩
      by_cases e : p = n
      · subst e; exact Or.inr h
      · exact Or.inl ⟨p, by omega, h⟩
/-- the first m places of the band -/
def plcs (σ : MS) (b m : Nat) : List Nat := (List.range m).map (pl σ b)
/-- the class's marks: a set is marked where just so many of the first places can be taken by it -/
theorem sat_can {σ : MS} {P b sz : Nat} (hP : P ≤ 10) (hz : sz ≤ 5) (hs : σ (55 + b) 2 = nI sz) : ∀ n, n ≤ 2 ^ P - 1 → ∀ s, s ≤ n → ∀ m, m ≤ 10 → bcI (nI s) = nI m → (¬ sat σ b P n 8 s = 0 ↔ m ≤ sz ∧ can (fun p i => bt (σ (29 + p) 0) i = true) P (plcs σ b m) (fun q => bt (nI s) q = true))
  | 0, _, s, hsn, m, hm, hbc => by
    obtain rfl : s = 0 := by omega
    have e0 : bcI (nI 0) = 0 := by decide +kernel
    obtain rfl : m = 0 := (nI_eq (by omega) (by decide)).mp (hbc.symm.trans (e0.trans nI_0.symm))
    constructor
    · intro _; exact ⟨Nat.zero_le _, trivial⟩
    · intro _
      show ¬ up2 σ 8 0 1 8 0 = 0
      rw [up2_same]
      decide
  | n + 1, hn, s, hsn, m, hm, hbc => by
    have ih := sat_can hP hz hs n (by omega)
    obtain ⟨p1, p2⟩ := pw1024 hP
    by_cases e : s = n + 1
    · subst e
      show ¬ up2 (sat σ b P n) 8 (n + 1) (b01 (seatF (sat σ b P n) b (nI (n + 1)) P)) 8 (n + 1) = 0 ↔ _
      rw [up2_same, b01_1]
      have sc := Scr.sat σ b P n
      have k55 : sat σ b P n (55 + b) = σ (55 + b) := sc _ (by omega)
      have k29 : ∀ p, sat σ b P n (29 + p) = σ (29 + p) := fun p => sc _ (by omega)
      have kpl : ∀ j, pl (sat σ b P n) b j = pl σ b j := fun j => by
        unfold pl
        rw [sc (67 + b) (by omega)]
      generalize sat σ b P n = x at ih k55 k29 kpl
      have m1 : 1 ≤ m := by
        rcases Nat.eq_zero_or_pos m with z | z
        · subst z
          exact absurd (hbc.trans nI_0) (bc_pos (n + 1) (by omega) (by omega))
        · exact z
      unfold seatF
      rw [hbc, nI_prd m1, if_neg (nI_pos (by omega)), k55, hs, nI_clamp (by omega)]
      by_cases c : m ≤ sz
      · rw [if_pos (nI_lt (show m - 1 < sz by omega) (by omega)), seatB_ex]
        have ep : plcs σ b m = plcs σ b (m - 1) ++ [pl σ b (m - 1)] := by
          unfold plcs
          conv => lhs; rw [show m = (m - 1) + 1 by omega]
          rw [List.range_succ, List.map_append]
          rfl
        rw [ep, can_snoc]
        show _ ↔ m ≤ sz ∧ ∃ p, p < P ∧ bt (nI (n + 1)) p = true ∧ bt (σ (29 + p) 0) (pl σ b (m - 1)) = true ∧ can (fun p i => bt (σ (29 + p) 0) i = true) P (plcs σ b (m - 1)) (fun q => bt (nI (n + 1)) q = true ∧ q ≠ p)
        have key : ∀ p, p < P → bt (nI (n + 1)) p = true → (¬ x 8 (clr (nI (n + 1)) p) = 0 ↔ can (fun p i => bt (σ (29 + p) 0) i = true) P (plcs σ b (m - 1)) (fun q => bt (nI (n + 1)) q = true ∧ q ≠ p)) := fun p hp hb => by
          obtain ⟨b1, b2⟩ := bc_clr (n + 1) (by omega) p (by omega) hb
          have b3 : bcI (nI (clr (nI (n + 1)) p)) = nI (m - 1) := by
            rw [hbc] at b1
            obtain ⟨k, hk, ek⟩ := bc_tab (clr (nI (n + 1)) p) (by omega)
            rw [ek] at b1 ⊢
            have : nI m = nI (k + 1) := by rw [← nI_1]; exact b1
            have := (nI_eq (by omega) (by omega)).mp this
            congr 1
            omega
          rw [ih _ (by omega) (m - 1) (by omega) b3]
          have cg := can_cg (inst := fun p i => bt (σ (29 + p) 0) i = true) (n := P) (plcs σ b (m - 1)) (S := fun q => bt (nI (clr (nI (n + 1)) p)) q = true) (S' := fun q => bt (nI (n + 1)) q = true ∧ q ≠ p) (fun q hq => by
            rw [clr_bt (by omega) (by omega) (by omega), Bool.and_eq_true, Bool.not_eq_true', decide_eq_false_iff_not])
          rw [cg]
          exact ⟨fun h => h.2, fun h => ⟨by omega, h⟩⟩
        constructor
        · rintro ⟨p, hp, h1, h2, h3⟩
          rw [k29, kpl] at h2
          exact ⟨c, p, hp, h1, h2, (key p hp h1).mp h3⟩
        · rintro ⟨_, p, hp, h1, h2, h3⟩
          exact ⟨p, hp, h1, by rw [k29, kpl]; exact h2, (key p hp h1).mpr h3⟩
      · rw [if_neg (fun z => absurd z (Int32.not_lt.mpr (nI_le0 (show sz ≤ m - 1 by omega) (by omega))))]
        constructor
        · intro h; cases h
        · intro h; exact absurd h.1 c
    · show ¬ up2 (sat σ b P n) 8 (n + 1) _ 8 s = 0 ↔ _
      rw [up2_off (by omega)]
      exact ih s (by omega) m hm hbc
end SEATS
end
section
/-! SEATS: the reference's search, depth by depth -/
section SEATS3
variable {Tm : MS} {Γ : RG} {σ : MS} {a1 a2 a3 a4 : Int32}
/-- those of the set a who are not of the set t -/
def fS (a t : Int32) (q : Nat) : Prop := bt (a &&& (t ^^^ (-1))) q = true
theorem fS_with {a t : Int32} {p q : Nat} (hp : p < 32) (hq : q < 32) : fS a (t ||| one p) q ↔ fS a t q ∧ q ≠ p := by
  unfold fS
  rw [b_and, b_and, b_cmp hq, b_cmp hq, b_or, b_one hp hq]
  by_cases e : q = p
  · subst e
    rw [decide_eq_true rfl, Bool.or_true, Bool.not_true, Bool.and_false]
    constructor
    · intro h; cases h
    · rintro ⟨_, h⟩; exact absurd rfl h
  · rw [decide_eq_false e, Bool.or_false]
    exact ⟨fun h => ⟨h, e⟩, fun h => h.1⟩
def iR (σ : MS) (p i : Nat) : Prop := bt (σ (13 + p) 0) i = true
def seatsOf (r : Int32) (k : Nat) : List Nat := if r = 0 then [] else if r = 1 then [k] else [k, k]
/-- the places of the last d instruments of a shape -/
def rpl (a : Int32) : Nat → List Nat
  | 0 => []
  | d + 1 => seatsOf (rNeed a (5 - d)) (5 - d) ++ rpl a d
theorem rpl_s (a : Int32) (d : Nat) : rpl a (d + 1) = seatsOf (rNeed a (5 - d)) (5 - d) ++ rpl a d := rfl
theorem seatsOf_0 (k : Nat) : seatsOf 0 k = [] := if_pos rfl
theorem seatsOf_1 (k : Nat) : seatsOf 1 k = [k] := by
  unfold seatsOf
  rw [if_neg (by decide), if_pos rfl]
theorem seatsOf_2 (k : Nat) : seatsOf 2 k = [k, k] := by
  unfold seatsOf
  rw [if_neg (by decide), if_neg (by decide)]
def shp (a : Int32) : Prop := ∀ i, i < 6 → rNeed a i = 0 ∨ rNeed a i = 1 ∨ rNeed a i = 2
/-- one more can be seated by p: alone, or with another behind it -/
def gd1 (σ : MS) (n k : Nat) (L : List Nat) (S : Nat → Prop) (p : Nat) : Prop := S p ∧ iR σ p k ∧ can (iR σ) n L (fun q => S q ∧ q ≠ p)
def gd2 (σ : MS) (n k : Nat) (L : List Nat) (S : Nat → Prop) (p q : Nat) : Prop := S p ∧ iR σ p k ∧ (S q ∧ q ≠ p) ∧ iR σ q k ∧ can (iR σ) n L (fun r => (S r ∧ r ≠ p) ∧ r ≠ q)
theorem can_one {n k : Nat} {L : List Nat} {S : Nat → Prop} : can (iR σ) n ([k] ++ L) S ↔ ∃ p, p < n ∧ gd1 σ n k L S p := Iff.rfl
theorem can_two {n k : Nat} {L : List Nat} {S : Nat → Prop} : can (iR σ) n ([k, k] ++ L) S ↔ ∃ p q, p < q ∧ q < n ∧ gd2 σ n k L S p q := by
  show (∃ p, p < n ∧ S p ∧ iR σ p k ∧ ∃ q, q < n ∧ (S q ∧ q ≠ p) ∧ iR σ q k ∧ can (iR σ) n L (fun r => (S r ∧ r ≠ p) ∧ r ≠ q)) ↔ _
  constructor
  · rintro ⟨p, hp, h1, h2, q, hq, h3, h4, h5⟩
    rcases Nat.lt_or_ge p q with d | d
    · exact ⟨p, q, d, hq, h1, h2, h3, h4, h5⟩
    · exact ⟨q, p, by have := h3.2; omega, hp, h3.1, h4, ⟨h1, fun e => h3.2 e.symm⟩, h2, (can_cg L (fun r _ => by constructor <;> rintro ⟨⟨a, b⟩, c⟩ <;> exact ⟨⟨a, c⟩, b⟩)).mp h5⟩
  · rintro ⟨p, q, d, hq, h1, h2, h3, h4, h5⟩
    exact ⟨p, by omega, h1, h2, q, hq, h3, h4, h5⟩
theorem sx_cp6 {post : Int32 → MS → Prop} (e : a3 = nI 6) (h1 : can (iR σ) Γ.1 (rpl a2 0) (fS a1 a4) → post 1 σ) : w_K6_X11_canPlay Γ post σ a1 a2 a3 a4 := ⟨fun _ => h1 trivial, fun c => absurd e c⟩
theorem sx_cp5_in {post : Int32 → MS → Prop} {K35 : MS → Int32 → Int32 → Prop} {v5 v6 : Int32} {p : Nat} (O : rOk Tm Γ σ) (hs : shp a2) (e : a3 = nI 5) (e5 : v5 = 2) (hp : p < Γ.1) (hS : fS a1 a4 p) (hI : iR σ p 5) (h : (∃ q, p < q ∧ q < Γ.1 ∧ gd2 σ Γ.1 5 (rpl a2 0) (fS a1 a4) p q) → post 1 σ) (hK : (¬ ∃ q, p < q ∧ q < Γ.1 ∧ gd2 σ Γ.1 5 (rpl a2 0) (fS a1 a4) p q) → K35 σ v5 (v6 + 1)) : ∃ k, u_K5_X11_canPlay_123 Γ post a1 a2 a3 a4 K35 k σ v5 v6 (a4 ||| one p) (nI (p + 1)) := by
  have hP := O.hP
  subst e
  refine inv_loop (fun k (v : Int32) => u_K5_X11_canPlay_123 Γ post a1 a2 (nI 5) a4 K35 k σ v5 v6 (a4 ||| one p) v) (fun j v => v = nI j ∧ p < j ∧ ∀ q, p < q → q < j → ¬ gd2 σ Γ.1 5 (rpl a2 0) (fS a1 a4) p q) Γ.1 ?_ ?_ (p + 1) hp (nI (p + 1)) ⟨rfl, by omega, fun q h1 h2 => by omega⟩
  · rintro _ ⟨rfl, -, hno⟩
    show u_K5_X11_canPlay_123 Γ post a1 a2 (nI 5) a4 K35 1 σ v5 v6 (a4 ||| one p) (nI Γ.1)
    unfold u_K5_X11_canPlay_123 w_lp_Jx4a65c_size_8abf5
    rw [O.p]
    exact ⟨fun _ => hK (fun ⟨q, h1, h2, h3⟩ => hno q h1 h2 h3), fun c => absurd (le_self _) c⟩
  · rintro j k _ hj ⟨rfl, lt, hno⟩ ih
    have hgo : ¬ gd2 σ Γ.1 5 (rpl a2 0) (fS a1 a4) p j ∨ ¬ p < j → u_K5_X11_canPlay_123 Γ post a1 a2 (nI 5) a4 K35 k σ v5 v6 (a4 ||| one p) (nI j + 1) := fun g => ih _ ⟨nI_1 j, by omega, fun q h1 h2 => by
      rcases Nat.eq_or_lt_of_le (Nat.le_of_lt_succ h2) with z | z
      · subst z
        rcases g with g | g
        · exact g
        · exact absurd h1 g
      · exact hno q h1 z⟩
    show u_K5_X11_canPlay_123 Γ post a1 a2 (nI 5) a4 K35 (k + 1) σ v5 v6 (a4 ||| one p) (nI j)
    unfold u_K5_X11_canPlay_123 w_lp_Jx4a65c_size_8abf5
    rw [O.p]
    have w1 : bt (a1 &&& ((a4 ||| one p) ^^^ (-1))) j = true ↔ fS a1 a4 j ∧ j ≠ p := fS_with (by omega) (by omega)
    refine ⟨fun c => absurd c (nI_ge hj (by omega)), fun _ => ⟨fun _ => sx_isIn (by omega) ⟨fun c => hgo (Or.inl (fun g => ?_)), fun c => sf_pget O hj rfl ⟨⟨by omega, hj⟩, ?_⟩⟩, fun c => absurd e5 c⟩⟩
    · have := w1.mpr g.2.2.1
      rw [b01_0.mp c] at this
      cases this
    · have hSj := w1.mp (b01_1.mp c)
      refine sx_isIn (by omega) ⟨fun d => hgo (Or.inl (fun g => ?_)), fun d => ?_⟩
      · have := g.2.2.2.1
        unfold iR at this
        rw [b01_0.mp d] at this
        cases this
      · have hIj : iR σ j 5 := b01_1.mp d
        have cg : can (iR σ) Γ.1 (rpl a2 0) (fS a1 (a4 ||| one p ||| (1 <<< (nI j &&& 31)))) ↔ can (iR σ) Γ.1 (rpl a2 0) (fun r => (fS a1 a4 r ∧ r ≠ p) ∧ r ≠ j) := can_cg _ (fun r hr => by
          rw [show (a4 ||| one p ||| (1 <<< (nI j &&& 31)) : Int32) = (a4 ||| one p) ||| one j from rfl, fS_with (by omega) (by omega), fS_with (by omega) (by omega)])
        exact sx_cp6  (by decide) (fun g => ⟨fun z => absurd z (by decide), fun _ => h ⟨j, lt, hj, hS, hI, hSj, hIj, cg.mp g⟩⟩)
theorem sx_cp5 {post : Int32 → MS → Prop} (O : rOk Tm Γ σ) (hs : shp a2) (e : a3 = nI 5) (h1 : can (iR σ) Γ.1 (rpl a2 1) (fS a1 a4) → post 1 σ) (h0 : ¬ can (iR σ) Γ.1 (rpl a2 1) (fS a1 a4) → post 0 σ) : w_K5_X11_canPlay Γ post σ a1 a2 a3 a4 := by
  have hP := O.hP
  have ep : rpl a2 1 = seatsOf (rNeed a2 5) 5 ++ rpl a2 0 := rpl_s a2 0
  unfold w_K5_X11_canPlay
  subst e
  refine ⟨fun c => absurd c (by decide), fun _ => ?_⟩
  refine law_X11_needed (j := 5) (by decide) ⟨fun r0 => ?_, fun r0 => ?_⟩
  · rw [ep, r0, seatsOf_0, List.nil_append] at h1 h0
    exact sx_cp6  (by decide) (fun g => ⟨rfl, h1 g⟩)
  · have hr : rNeed a2 5 = 1 ∨ rNeed a2 5 = 2 := (hs 5 (by decide)).resolve_left r0
    -- none of the first i can begin
    have := inv_loop (fun k (v : Int32) => u_K5_X11_canPlay_35 Γ post a1 a2 (nI 5) a4 k σ (rNeed a2 5) v) (fun i v => v = nI i ∧ ∀ p, p < i → (rNeed a2 5 = 1 → ¬ gd1 σ Γ.1 5 (rpl a2 0) (fS a1 a4) p) ∧ (rNeed a2 5 = 2 → ¬ ∃ q, p < q ∧ q < Γ.1 ∧ gd2 σ Γ.1 5 (rpl a2 0) (fS a1 a4) p q)) Γ.1 (by
      rintro _ ⟨rfl, hno⟩
      show u_K5_X11_canPlay_35 Γ post a1 a2 (nI 5) a4 1 σ (rNeed a2 5) (nI Γ.1)
      unfold u_K5_X11_canPlay_35 w_lp_Jx4a65c_size_8abf5
      rw [O.p]
      refine ⟨fun _ => h0 (fun g => ?_), fun c => absurd (le_self _) c⟩
      rw [ep] at g
      rcases hr with r | r
      · rw [r, seatsOf_1] at g
        obtain ⟨p, hp, hg⟩ := can_one.mp g
        exact (hno p hp).1 r hg
      · rw [r, seatsOf_2] at g
        obtain ⟨p, q, hpq, hq, hg⟩ := can_two.mp g
        exact (hno p (by omega)).2 r ⟨q, hpq, hq, hg⟩) (by
      rintro i k _ hi ⟨rfl, hno⟩ ih
      have nx : ((rNeed a2 5 = 1 → ¬ gd1 σ Γ.1 5 (rpl a2 0) (fS a1 a4) i) ∧ (rNeed a2 5 = 2 → ¬ ∃ q, i < q ∧ q < Γ.1 ∧ gd2 σ Γ.1 5 (rpl a2 0) (fS a1 a4) i q)) → u_K5_X11_canPlay_35 Γ post a1 a2 (nI 5) a4 k σ (rNeed a2 5) (nI i + 1) := fun g => ih _ ⟨nI_1 i, fun p hp => by
        rcases Nat.eq_or_lt_of_le (Nat.le_of_lt_succ hp) with z | z
        · rw [z]; exact g
        · exact hno p z⟩
      show u_K5_X11_canPlay_35 Γ post a1 a2 (nI 5) a4 (k + 1) σ (rNeed a2 5) (nI i)
      unfold u_K5_X11_canPlay_35 w_lp_Jx4a65c_size_8abf5
      rw [O.p]
      refine ⟨fun c => absurd c (nI_ge hi (by omega)), fun _ => sx_isIn (by omega) ⟨fun c => nx ?_, fun c => sf_pget O hi rfl ⟨⟨by omega, hi⟩, sx_isIn (by omega) ⟨fun d => nx ?_, fun d => ?_⟩⟩⟩⟩
      · have no : ¬ fS a1 a4 i := fun z => by
          unfold fS at z
          rw [b01_0.mp c] at z
          cases z
        exact ⟨fun _ g => no g.1, fun _ ⟨q, _, _, g⟩ => no g.1⟩
      · have no : ¬ iR σ i 5 := fun z => by
          unfold iR at z
          rw [b01_0.mp d] at z
          cases z
        exact ⟨fun _ g => no g.2.1, fun _ ⟨q, _, _, g⟩ => no g.2.1⟩
      · have hS : fS a1 a4 i := b01_1.mp c
        have hI : iR σ i 5 := b01_1.mp d
        have cg : can (iR σ) Γ.1 (rpl a2 0) (fS a1 (a4 ||| (1 <<< (nI i &&& 31)))) ↔ can (iR σ) Γ.1 (rpl a2 0) (fun r => fS a1 a4 r ∧ r ≠ i) := can_cg _ (fun r hr => by
          rw [show (a4 ||| (1 <<< (nI i &&& 31)) : Int32) = a4 ||| one i from rfl, fS_with (by omega) (by omega)])
        refine ⟨fun r1 => ?_, fun r1 => ?_⟩
        · -- one place: this one takes it, or none with it; the inner loop finds none
          have r2 : ¬ rNeed a2 5 = 2 := fun z => by rw [r1] at z; exact absurd z (by decide)
          have skip : (¬ gd1 σ Γ.1 5 (rpl a2 0) (fS a1 a4) i) → ∃ n, u_K5_X11_canPlay_123 Γ post a1 a2 (nI 5) a4 (fun σ w0 w1 => u_K5_X11_canPlay_35 Γ post a1 a2 (nI 5) a4 k σ w0 w1) n σ (rNeed a2 5) (nI i) (a4 ||| (1 <<< (nI i &&& 31))) (nI i + 1) := fun g => by
            refine ⟨1, ?_⟩
            unfold u_K5_X11_canPlay_123 w_lp_Jx4a65c_size_8abf5
            have n1 := nx ⟨fun _ => g, fun z => absurd z r2⟩
            exact ⟨fun _ => n1, fun _ => ⟨fun z => absurd z r2, fun _ => n1⟩⟩
          exact sx_cp6 (by decide) (fun g => ⟨fun z => absurd z (by decide), fun _ => h1 (by rw [ep, r1, seatsOf_1]; exact can_one.mpr ⟨i, hi, hS, hI, cg.mp g⟩)⟩)
        · have r2 := hr.resolve_left r1
          have inn := sx_cp5_in (post := post) (K35 := fun σ w0 w1 => u_K5_X11_canPlay_35 Γ post a1 a2 (nI 5) a4 k σ w0 w1) (v6 := nI i) O hs (a3 := nI 5) rfl r2 hi hS hI (fun g => h1 (by
            rw [ep, r2, seatsOf_2]
            obtain ⟨q, g1, g2, g3⟩ := g
            exact can_two.mpr ⟨i, q, g1, g2, g3⟩)) (fun g => nx ⟨fun z => absurd z r1, fun _ => g⟩)
          rw [nI_1]
          exact inn) 0 (by omega) 0 ⟨nI_0.symm, fun p hp => absurd hp (Nat.not_lt_zero _)⟩
    exact this
end SEATS3
end
