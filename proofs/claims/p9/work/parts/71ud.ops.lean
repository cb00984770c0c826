/-! what each call does to what always holds: learn, late, road, cancel, ask; and what goes on and never back -/
/-- states go on, prices stay -/
def RA (σ τ : MS) (w : Nat) : Prop := (τ (73 + w) 7 = σ (73 + w) 7 ∨ (σ (73 + w) 7 = 0 ∧ τ (73 + w) 7 = 3) ∨ (σ (73 + w) 7 = 1 ∧ (τ (73 + w) 7 = 2 ∨ τ (73 + w) 7 = 3))) ∧ τ (73 + w) 9 = σ (73 + w) 9
def RF (σ τ : MS) (w : Nat) : Prop := RA σ τ w ∨ (σ (73 + w) 7 = 0 ∧ τ (73 + w) 7 = 1)
def Sm (σ τ : MS) : Prop := ∀ s, s < 16 → (σ (39 + s) 3).toNatClampNeg ≤ (τ (39 + s) 3).toNatClampNeg
def RlA (σ τ : MS) : Prop := (∀ w, w < 14 → RA σ τ w) ∧ Sm σ τ
def Rl (σ τ : MS) : Prop := (∀ w, w < 14 → RF σ τ w) ∧ Sm σ τ
theorem RlA.rl {σ τ : MS} (h : RlA σ τ) : Rl σ τ := ⟨fun w hw => Or.inl (h.1 w hw), h.2⟩
theorem RA.tr {a b c : MS} {w : Nat} (h : RA a b w) (g : RA b c w) : RA a c w := by
  refine ⟨?_, g.2.trans h.2⟩
  rcases h.1 with e | ⟨e, f⟩ | ⟨e, f⟩
  · have := g.1
    rw [e] at this
    exact this
  · rcases g.1 with e2 | ⟨e2, f2⟩ | ⟨e2, f2⟩
    · exact Or.inr (Or.inl ⟨e, e2.trans f⟩)
    · rw [f] at e2; exact absurd e2 (by decide)
    · rw [f] at e2; exact absurd e2 (by decide)
  · rcases g.1 with e2 | ⟨e2, f2⟩ | ⟨e2, f2⟩
    · rw [e2]; exact Or.inr (Or.inr ⟨e, f⟩)
    · rcases f with f | f <;> (rw [f] at e2; exact absurd e2 (by decide))
    · rcases f with f | f <;> (rw [f] at e2; exact absurd e2 (by decide))
theorem RlA.tr {a b c : MS} (h : RlA a b) (g : RlA b c) : RlA a c := ⟨fun w hw => (h.1 w hw).tr (g.1 w hw), fun s hs => Nat.le_trans (h.2 s hs) (g.2 s hs)⟩
theorem RlA.dy {σ τ : MS} (h : Dy σ τ) : RlA σ τ := ⟨fun w hw => ⟨Or.inl (h _ _ (by unfold dyn; omega)), h _ _ (by unfold dyn; omega)⟩, fun s hs => by rw [h (39 + s) 3 (by unfold dyn; omega)]; exact Nat.le_refl _⟩
theorem RlA.rf (σ : MS) : RlA σ σ := RlA.dy (fun _ _ _ => rfl)
theorem RlA.lo {W : Nat} {σ τ : MS} (h : Lo W σ τ) : RlA σ τ := by
  refine ⟨fun w hw => ⟨?_, h.1 _ _ (by omega)⟩, fun s hs => by rw [h.1 (39 + s) 3 (by omega)]; exact Nat.le_refl _⟩
  by_cases c : w < W
  · rcases h.2.2 w c with e | ⟨e, f | f⟩
    · exact Or.inl e
    · exact Or.inr (Or.inl ⟨f, e⟩)
    · exact Or.inr (Or.inr ⟨f, Or.inr e⟩)
  · exact Or.inl (h.2.1 w (by omega) hw)
theorem RlA.at {σ τ : MS} (h7 : ∀ w, w < 14 → τ (73 + w) 7 = σ (73 + w) 7) (h9 : ∀ w, w < 14 → τ (73 + w) 9 = σ (73 + w) 9) (h3 : ∀ s, s < 16 → τ (39 + s) 3 = σ (39 + s) 3) : RlA σ τ :=
  ⟨fun w hw => ⟨Or.inl (h7 w hw), h9 w hw⟩, fun s hs => by rw [h3 s hs]; exact Nat.le_refl _⟩
theorem RlA.paid (σ : MS) (w : Nat) (a : Int32) : RlA σ (paidF σ w a) := by
  unfold paidF
  exact RlA.at (fun v hv => by rw [up2_at (by omega), up2_at (by omega)]) (fun v hv => by rw [up2_at (by omega), up2_at (by omega)]) (fun s hs => by rw [up2_at (by omega), up2_at (by omega)])
/-- roads and how late it is stay -/
def Sp (σ τ : MS) : Prop := (∀ k, 17 ≤ k → k < 29 → τ k = σ k) ∧ ∀ w, w < 14 → τ (73 + w) 10 = σ (73 + w) 10
theorem Sp.rf (σ : MS) : Sp σ σ := ⟨fun _ _ _ => rfl, fun _ _ => rfl⟩
theorem Sp.tr {a b c : MS} (h : Sp a b) (g : Sp b c) : Sp a c := ⟨fun k h1 h2 => (g.1 k h1 h2).trans (h.1 k h1 h2), fun w hw => (g.2 w hw).trans (h.2 w hw)⟩
theorem Sp.up {σ : MS} {k j : Nat} {v : Int32} (h : ¬ ((17 ≤ k ∧ k < 29) ∨ (73 ≤ k ∧ j = 10))) : Sp σ (up2 σ k j v) := ⟨fun k' h1 h2 => up2_ne (by omega), fun w hw => up2_at (by omega)⟩
theorem Sp.scr {σ τ : MS} (h : Scr σ τ) : Sp σ τ := ⟨fun k h1 h2 => h k (by omega), fun w hw => by rw [h (73 + w) (by omega)]⟩
theorem Sp.lo {W : Nat} {σ τ : MS} (h : Lo W σ τ) : Sp σ τ := ⟨fun k h1 h2 => funext fun j => h.1 k j (by omega), fun w hw => h.1 _ _ (by omega)⟩
theorem Sp.paid (σ : MS) (w : Nat) (a : Int32) : Sp σ (paidF σ w a) := (Sp.up (by omega)).tr (Sp.up (by omega))
theorem Inv.of {σ τ : MS} {P B W T P' B' W' T' : Nat} (H : Inv σ P B W T) (s : Sp σ τ) (h : In0 τ P' B' W' T' T' T') : Inv τ P' B' W' T' := ⟨H.1.same s.1, H.2.1.same s.2, h⟩
theorem inv_learn {σ : MS} {P B W T p : Nat} {v : Int32} (hp : p < 10) (H : Inv σ P B W T) : Inv (up2 σ (29 + p) 1 v) P B W T ∧ RlA σ (up2 σ (29 + p) 1 v) :=
  ⟨H.of (Sp.up (by omega)) (H.2.2.same (St.up (by unfold stc; omega)) (Dy.up (by unfold dyn; omega)) (up2_at (by omega))), RlA.dy (Dy.up (by unfold dyn; omega))⟩
theorem inv_late {σ : MS} {P B W T w : Nat} {m : Int32} (hw : w < 14) (h1 : ¬ m < 0) (h2 : m ≤ 240) (H : Inv σ P B W T) : Inv (up2 σ (73 + w) 10 m) P B W T ∧ RlA σ (up2 σ (73 + w) 10 m) := by
  refine ⟨⟨H.1.same (fun k h1 h2 => up2_ne (by omega)), fun v hv => ?_, H.2.2.same (St.up (by unfold stc; omega)) (Dy.up (by unfold dyn; omega)) (up2_at (by omega))⟩, RlA.dy (Dy.up (by unfold dyn; omega))⟩
  by_cases e : v = w
  · subst e
    rw [up2_same]
    obtain ⟨j, hj, rfl⟩ := nI_of h1
    exact ⟨j, by omega, (nI_leI hj (by decide)).mp (show nI j ≤ nI 240 from h2), rfl⟩
  · rw [up2_at (by omega)]
    exact H.2.1 v hv
theorem inv_road {σ : MS} {P B W T i j : Nat} {v : Int32} (hi : i < 6) (hj : j < 6) (hv : rg 0 9 v) (H : Inv σ P B W T) : Inv (layS σ i j v) P B W T ∧ RlA σ (layS σ i j v) := by
  have hst : St σ (layS σ i j v) := fun k' j' hk => by rw [lay_k hi hj (by unfold stc at hk; omega)]
  have hdy : Dy σ (layS σ i j v) := fun k' j' hk => by rw [lay_k hi hj (by unfold dyn at hk; omega)]
  exact ⟨⟨lay_ok hi hj hv H.1.1, H.2.1.same (fun w hw => by rw [lay_k hi hj (by omega)]), H.2.2.same hst hdy (by rw [lay_k hi hj (by omega)])⟩, RlA.dy hdy⟩
theorem inv_can {σ : MS} {P B W T w : Nat} (hw : w < W) (hs : σ (73 + w) 7 = 0 ∨ σ (73 + w) 7 = 1) (H : Inv σ P B W T) : Inv (canS σ w) P B W T ∧ RlA σ (canS σ w) := by
  unfold canS
  split
  · generalize (if 0 < owedF σ w - σ (73 + w) 11 then owedF σ w - σ (73 + w) 11 else 0) = a
    have e7 : paidF σ w a (73 + w) 7 = σ (73 + w) 7 := by unfold paidF; rw [up2_at (by omega), up2_at (by omega)]
    have hl : Lo W (paidF σ w a) (up2 (paidF σ w a) (73 + w) 7 3) := Lo.up hw (by rw [e7]; exact hs)
    exact ⟨H.of ((Sp.paid σ w a).tr (Sp.lo hl)) ((H.2.2.paid hw).lo hl), (RlA.paid σ w a).tr (RlA.lo hl)⟩
  · have hl : Lo W σ (up2 σ (73 + w) 7 3) := Lo.up hw hs
    exact ⟨H.of (Sp.lo hl) (H.2.2.lo hl), RlA.lo hl⟩
/-! a wedding asked for -/
/-- what was told of all but weddings stays, and of the wedding w -/
def Sw (w : Nat) (σ τ : MS) : Prop := (∀ k j, 29 ≤ k → k < 73 → stc k j → τ k j = σ k j) ∧ ∀ j, j ≤ 4 → τ (73 + w) j = σ (73 + w) j
theorem FilS.sw {σ τ : MS} {P B W T w : Nat} {v : Int32} (O : Ok σ P B W T) (hw : w < 14) (h : Sw w σ τ) (H : FilS σ P w v) : FilS τ P w v := by
  have hP := O.hP
  obtain ⟨s, h1, h2, h3, h4, h5⟩ := H
  have hb := O.bd hw
  have eb : bdOf τ w = bdOf σ w := by unfold bdOf; rw [h.2 0 (by omega)]
  refine ⟨s, h1, h2, h3, ?_, fun p hp hbt => ?_⟩
  · rw [eb, h.1 (55 + bdOf σ w) 2 (by omega) (by omega) (by unfold stc; omega)]
    exact h4
  · obtain ⟨j, j1, j2, j3⟩ := h5 p hp hbt
    refine ⟨j, ?_, j2, ?_⟩
    · rw [eb, h.1 (55 + bdOf σ w) 2 (by omega) (by omega) (by unfold stc; omega)]
      exact j1
    · unfold pl at j3 ⊢
      rw [eb, h.1 (29 + p) 0 (by omega) (by omega) (by unfold stc; omega), h.1 (67 + bdOf σ w) j (by omega) (by omega) (by unfold stc; omega)]
      exact j3
theorem dayIn.sw {σ τ : MS} {lo hi w : Nat} (h : Sw w σ τ) (H : dayIn σ lo hi w) : dayIn τ lo hi w := by
  obtain ⟨d, h1, h2, h3⟩ := H
  exact ⟨d, h1, h2, (h.2 1 (by omega)).trans h3⟩
theorem Wd.sw {σ τ : MS} {P B W T Tl Tp w : Nat} (O : Ok σ P B W T) (hw : w < 14) (h : Sw w σ τ) (e7 : τ (73 + w) 7 = σ (73 + w) 7) (e8 : τ (73 + w) 8 = σ (73 + w) 8) (e9 : τ (73 + w) 9 = σ (73 + w) 9) (H : Wd σ P Tl Tp w) : Wd τ P Tl Tp w := by
  unfold Wd at H ⊢
  rw [e7, e8, e9]
  rcases H with ⟨a, b, c, d⟩ | ⟨a, b, c, d⟩ | ⟨a, b, c, d⟩ | a
  · exact Or.inl ⟨a, b, c, d.sw h⟩
  · exact Or.inr (Or.inl ⟨a, b.sw h, c.sw O hw h, d⟩)
  · exact Or.inr (Or.inr (Or.inl ⟨a, b.sw h, c.sw O hw h, d⟩))
  · exact Or.inr (Or.inr (Or.inr a))
theorem taken_no {σ : MS} {a b : Int32} : ∀ {n : Nat}, taken σ a b n = false → ∀ w, w < n → ¬ (σ (73 + w) 7 = 1 ∧ σ (73 + w) 0 = a ∧ σ (73 + w) 1 = b)
  | 0, _, w, hw => absurd hw (by omega)
  | n + 1, h, w, hw => by
    unfold taken at h
    have h2 := Bool.or_eq_false_iff.mp h
    by_cases e : w = n
    · subst e; exact of_decide_eq_false h2.2
    · exact taken_no h2.1 w (by omega)
theorem inv_ask {σ : MS} {P B W T : Nat} {b d t s l g : Int32} (hb : ∃ k, k < B ∧ b = nI k) (ht : ∃ k, k < 6 ∧ t = nI k) (ok : askOk σ d s l g) (hW : W < 14) (hn : taken σ b d W = false) (H : Inv σ P B W T) : Inv (askS σ W b d t s l g) P B (W + 1) T ∧ RlA σ (askS σ W b d t s l g) := by
  have O := H.2.2.1
  have hP := O.hP
  have hBB := O.hB
  have ne : ∀ k j, (k ≠ 0 ∨ j ≠ 8) → (k ≠ 73 + W ∨ 7 ≤ j) → askS σ W b d t s l g k j = σ k j := fun k j h1 h2 => by
    unfold askS
    rw [up2_at h1, up2_at (by omega), up2_at (by omega), up2_at (by omega), up2_at (by omega), up2_at (by omega), up2_at (by omega), up2_at (by omega)]
  have e0 : askS σ W b d t s l g (73 + W) 0 = b := by
    unfold askS
    rw [up2_at (by omega), up2_at (by omega), up2_at (by omega), up2_at (by omega), up2_at (by omega), up2_at (by omega), up2_at (by omega), up2_same]
  have e1 : askS σ W b d t s l g (73 + W) 1 = d := by
    unfold askS
    rw [up2_at (by omega), up2_at (by omega), up2_at (by omega), up2_at (by omega), up2_at (by omega), up2_at (by omega), up2_same]
  have e3 : askS σ W b d t s l g (73 + W) 3 = s := by
    unfold askS
    rw [up2_at (by omega), up2_at (by omega), up2_at (by omega), up2_at (by omega), up2_same]
  have e4 : askS σ W b d t s l g (73 + W) 4 = l := by
    unfold askS
    rw [up2_at (by omega), up2_at (by omega), up2_at (by omega), up2_same]
  have O2 : Ok (askS σ W b d t s l g) P B (W + 1) T := O.ask hb ht ok hW
  generalize askS σ W b d t s l g = τ at ne e0 e1 e3 e4 O2
  obtain ⟨HR, HL, _, HP, HS, H0, H1, H2, H3, H4, H5⟩ := H
  have hsw : ∀ w, w < W → Sw w σ τ := fun w hw => ⟨fun k j h1 h2 _ => ne _ _ (by omega) (by omega), fun j hj => ne _ _ (by omega) (by omega)⟩
  have z0 := H0 W (Nat.le_refl W) hW
  have f7 : ∀ w, w < 14 → τ (73 + w) 7 = σ (73 + w) 7 := fun w hw => ne _ _ (by omega) (by omega)
  have f8 : ∀ w, w < 14 → τ (73 + w) 8 = σ (73 + w) 8 := fun w hw => ne _ _ (by omega) (by omega)
  have f9 : ∀ w, w < 14 → τ (73 + w) 9 = σ (73 + w) 9 := fun w hw => ne _ _ (by omega) (by omega)
  have f11 : ∀ w, w < 14 → τ (73 + w) 11 = σ (73 + w) 11 := fun w hw => ne _ _ (by omega) (by omega)
  have hd : ∃ k, T ≤ k ∧ k < 366 ∧ d = nI k := by
    have hT := O.hT
    have h9 := O.h9
    have h0 : ¬ d < 0 := fun q => ok.1 (by rw [h9]; exact Int32.lt_of_lt_of_le q (nI_pos' (by omega)))
    obtain ⟨k, hk, rfl⟩ := nI_of h0
    have k2 := (nI_leI hk (by decide)).mp (show nI k ≤ nI 365 from Int32.not_lt.mp ok.2.1)
    have k1 : T ≤ k := Nat.le_of_not_lt fun q => ok.1 (by rw [h9]; exact nI_lt q (by omega))
    exact ⟨k, k1, by omega, rfl⟩
  have hh : ∃ x y, 10 ≤ x ∧ x ≤ 22 ∧ 1 ≤ y ∧ y ≤ 6 ∧ x + y ≤ 24 ∧ s = nI x ∧ l = nI y := by
    obtain ⟨q1, q2, q3, q4, q5⟩ := of_decide_eq_true ok.2.2.1
    have s0 : ¬ s < 0 := fun q => q1 (Int32.lt_trans q (by decide))
    have l0 : ¬ l < 0 := fun q => q3 (Int32.lt_trans q (by decide))
    obtain ⟨x, hx, rfl⟩ := nI_of s0
    obtain ⟨y, hy, rfl⟩ := nI_of l0
    have x1 : 10 ≤ x := Nat.le_of_not_lt fun q => q1 (show nI x < nI 10 from nI_lt q (by decide))
    have x2 : x ≤ 22 := Nat.le_of_not_lt fun q => q2 (show nI 22 < nI x from nI_lt q (by omega))
    have y1 : 1 ≤ y := Nat.le_of_not_lt fun q => q3 (show nI y < nI 1 from nI_lt q (by decide))
    have y2 : y ≤ 6 := Nat.le_of_not_lt fun q => q4 (show nI 6 < nI y from nI_lt q (by omega))
    have xy : x + y ≤ 24 := Nat.le_of_not_lt fun q => q5 (by rw [nI_add]; exact (show nI 24 < nI (x + y) from nI_lt q (by omega)))
    exact ⟨x, y, x1, x2, y1, y2, xy, rfl, rfl⟩
  have en : nPl τ (W + 1) = nPl σ W := by
    have e : nPl τ W = nPl σ W := nPl_congr (fun w hw => f7 w (by omega))
    show nPl τ W + (if decide (τ (73 + W) 7 = 2) then 1 else 0) = _
    rw [e, f7 W hW, z0.1]
    rfl
  refine ⟨⟨HR.same (fun k h1 h2 => funext fun j => ne _ _ (by omega) (by omega)), HL.same (fun w hw => ne _ _ (by omega) (by omega)), O2, fun w hw => by rw [f8 w hw]; exact HP w hw, ⟨fun p hp => ?_, fun x hx => ?_, fun c hc => ?_, fun w hw => ?_⟩, fun w h1 h2 => ?_, fun w hw => ?_, fun x y hx hy hne a1 a2 a3 => ?_, ?_, ?_, fun p hp => ?_, fun x hx => ?_⟩, RlA.at f7 f9 (fun x hx => ne _ _ (by omega) (by omega))⟩
  · rw [ne (29 + p) 3 (by omega) (by omega)]
    exact HS.1 p hp
  · exact hx
  · exact (HS.2.2.1 c hc).same (ne _ _ (by omega) (by omega)) (funext fun j => ne _ _ (by omega) (by omega)) (funext fun j => ne _ _ (by omega) (by omega))
  · by_cases e : w = W
    · subst e
      obtain ⟨k, hk, hk2⟩ := hb
      obtain ⟨x, y, r⟩ := hh
      unfold Ws
      rw [e0, e3, e4]
      exact ⟨⟨k, hk, hk2⟩, x, y, r⟩
    · unfold Ws
      rw [ne (73 + w) 0 (by omega) (by omega), ne (73 + w) 3 (by omega) (by omega), ne (73 + w) 4 (by omega) (by omega)]
      exact HS.2.2.2 w (by omega)
  · rw [f7 w h2, f8 w h2, f9 w h2, f11 w h2]
    exact H0 w (by omega) h2
  · by_cases e : w = W
    · subst e
      refine Or.inl ⟨(f7 w hW).trans z0.1, (f8 w hW).trans z0.2.1, (f9 w hW).trans z0.2.2.1, ?_⟩
      obtain ⟨k, k1, k2, k3⟩ := hd
      exact ⟨k, k1, k2, e1.trans k3⟩
    · exact (H1 w (by omega)).sw O (by omega) (hsw w (by omega)) (f7 w (by omega)) (f8 w (by omega)) (f9 w (by omega))
  · rw [f7 x (by omega)] at a1
    rw [f7 y (by omega)]
    by_cases ex : x = W
    · subst ex
      rw [z0.1] at a1
      exact absurd a1 (by decide)
    · rw [ne (73 + x) 0 (by omega) (by omega)] at a2
      rw [ne (73 + x) 1 (by omega) (by omega)] at a3
      by_cases ey : y = W
      · subst ey
        rw [e0] at a2
        rw [e1] at a3
        exact absurd ⟨a1, a2, a3⟩ (taken_no hn x (by omega))
      · rw [ne (73 + y) 0 (by omega) (by omega)] at a2
        rw [ne (73 + y) 1 (by omega) (by omega)] at a3
        exact H2 x y (by omega) (by omega) hne a1 a2 a3
  · show τ 0 10 = sumI (fun w => τ (73 + w) 11) W + τ (73 + W) 11 - sumI (fun p => τ (29 + p) 5) P
    rw [sumI_congr (f := fun w => σ (73 + w) 11) (n := W) (fun w hw => f11 w (by omega)), sumI_congr (f := fun p => σ (29 + p) 5) (n := P) (fun p hp => ne _ _ (by omega) (by omega)), f11 W hW, z0.2.2.2, Int32.add_zero, ne 0 10 (by omega) (by omega)]
    exact H3
  · show sumI (fun p => τ (29 + p) 7) P = sumI (hoW τ) W + hoW τ W
    have e : hoW τ W = 0 := by
      unfold hoW
      rw [if_neg]
      rw [f7 W hW, z0.1]
      decide
    rw [e, Int32.add_zero, sumI_congr (f := fun p => σ (29 + p) 7) (n := P) (fun p hp => ne _ _ (by omega) (by omega)), sumI_congr (f := hoW σ) (g := hoW τ) (n := W) (fun w hw => hw_at (by rw [f7 w (by omega)]) (fun _ => f8 w (by omega)) (ne _ _ (by omega) (by omega)))]
    exact H4
  · rw [en, ne (29 + p) 6 (by omega) (by omega), ne (29 + p) 7 (by omega) (by omega)]
    exact H5.1 p hp
  · rw [en, ne (39 + x) 3 (by omega) (by omega)]
    exact H5.2 x hx
