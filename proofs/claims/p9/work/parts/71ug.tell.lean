/-! WHAT ALWAYS HOLDS: players, bands, songs, feuds told -/
section INVT
variable {σ τ : MS} {P B W T : Nat}
theorem inv_song {s : Nat} {k e m : Int32} (hs : s < 16) (H : Inv σ P B W T) : Inv (songS σ s k e m) P B W T := by
  have hst : St σ (songS σ s k e m) := fun k' j' hk => by
    unfold songS
    unfold stc at hk
    rw [up2_at (by omega), up2_at (by omega), up2_at (by omega)]
  have hdy : Dy σ (songS σ s k e m) := fun k' j' hk => by
    unfold songS
    unfold dyn at hk
    rw [up2_at (by omega), up2_at (by omega), up2_at (by omega)]
  have e9 : songS σ s k e m 0 9 = σ 0 9 := by
    unfold songS
    rw [up2_at (by omega), up2_at (by omega), up2_at (by omega)]
  exact ⟨H.1.same (fun k' h1 h2 => by unfold songS; rw [up2_ne (by omega), up2_ne (by omega), up2_ne (by omega)]), H.2.1.same (fun w hw => by unfold songS; rw [up2_at (by omega), up2_at (by omega), up2_at (by omega)]), H.2.2.same hst hdy e9⟩
theorem inv_feud {p q : Nat} {u v : Int32} (hp : p < 10) (hq : q < 10) (H : Inv σ P B W T) : Inv (up2 (up2 σ (29 + p) 4 u) (29 + q) 4 v) P B W T := by
  have h1 : Inv (up2 σ (29 + p) 4 u) P B W T := H.of (Sp.up (by omega)) (H.2.2.same (St.up (by unfold stc; omega)) (Dy.up (by unfold dyn; omega)) (up2_at (by omega)))
  exact h1.of (Sp.up (by omega)) (h1.2.2.same (St.up (by unfold stc; omega)) (Dy.up (by unfold dyn; omega)) (up2_at (by omega)))
theorem dayIn.at {lo hi w : Nat} (e : τ (73 + w) 1 = σ (73 + w) 1) (h : dayIn σ lo hi w) : dayIn τ lo hi w := by
  obtain ⟨d, h1, h2, h3⟩ := h
  exact ⟨d, h1, h2, e.trans h3⟩
theorem Wd.re {P' Tl Tp w : Nat} (h : ∀ j, τ (73 + w) j = σ (73 + w) j) (hf : ∀ v, FilS σ P w v → FilS τ P' w v) (H : Wd σ P Tl Tp w) : Wd τ P' Tl Tp w := by
  unfold Wd at H ⊢
  rw [h 7, h 8, h 9]
  rcases H with ⟨a, b, c, d⟩ | ⟨a, b, c, d⟩ | ⟨a, b, c, d⟩ | a
  · exact Or.inl ⟨a, b, c, d.at (h 1)⟩
  · exact Or.inr (Or.inl ⟨a, b.at (h 1), hf _ c, d⟩)
  · exact Or.inr (Or.inr (Or.inl ⟨a, b.at (h 1), hf _ c, d⟩))
  · exact Or.inr (Or.inr (Or.inr a))
/-- those to come have nothing yet -/
def Fp (σ : MS) (P : Nat) : Prop := ∀ p, P ≤ p → p < 10 → σ (29 + p) 4 = 0 ∧ σ (29 + p) 5 = 0 ∧ σ (29 + p) 6 = 0 ∧ σ (29 + p) 7 = 0
theorem inv_player {i s t f : Int32} (ht : 0 ≤ t ∧ t < 6) (ok : plOk i s f) (hP : P < 10) (Z : Fp σ P) (H : Inv σ P B W T) : Inv (telP σ P i s t f) (P + 1) B W T := by
  have O := H.2.2.1
  have hW := O.hW
  have hB := O.hB
  have ne : ∀ k j, (k ≠ 0 ∨ j ≠ 6) → (k ≠ 29 + P ∨ 4 ≤ j) → telP σ P i s t f k j = σ k j := fun k j h1 h2 => by
    unfold telP
    rw [up2_at h1, up2_at (by omega), up2_at (by omega), up2_at (by omega), up2_at (by omega)]
  have e3 : telP σ P i s t f (29 + P) 3 = f := by
    unfold telP
    rw [up2_at (by omega), up2_same]
  have O2 : Ok (telP σ P i s t f) (P + 1) B W T := O.tel ht hP
  generalize telP σ P i s t f = τ at ne e3 O2
  obtain ⟨HR, HL, _, HP, HS, H0, H1, H2, H3, H4, H5⟩ := H
  have z := Z P (Nat.le_refl P) hP
  have fw : ∀ w j, τ (73 + w) j = σ (73 + w) j := fun w j => ne _ _ (by omega) (by omega)
  have en : nPl τ W = nPl σ W := nPl_congr (fun w hw => fw w 7)
  have hf : ∀ w v, w < W → FilS σ P w v → FilS τ (P + 1) w v := fun w v hw h => by
    obtain ⟨x, h1, h2, h3, h4, h5⟩ := h
    have eb : bdOf τ w = bdOf σ w := by unfold bdOf; rw [fw]
    refine ⟨x, h1, by rw [Nat.pow_succ]; omega, h3, ?_, fun p hp hbt => ?_⟩
    · rw [eb, ne _ _ (by omega) (by omega)]; exact h4
    · rcases Nat.lt_or_ge p P with c | c
      · obtain ⟨j, j1, j2, j3⟩ := h5 p c hbt
        refine ⟨j, ?_, j2, ?_⟩
        · rw [eb, ne _ _ (by omega) (by omega)]; exact j1
        · have ep : pl τ (bdOf τ w) j = pl σ (bdOf σ w) j := by
            unfold pl
            rw [eb, ne _ _ (by omega) (by omega)]
          rw [ep, ne _ _ (by omega) (by omega)]
          exact j3
      · have : p = P := by omega
        rw [this, bt_hi (P := P) (p := P) (by omega) h2 (Nat.le_refl _) (by omega)] at hbt
        exact absurd hbt Bool.false_ne_true
  have hfee : rg 1 99 f := by
    obtain ⟨-, -, -, q1, q2⟩ := ok
    have q0 : ¬ f < 0 := fun q => q1 (Int32.lt_trans q (by decide))
    obtain ⟨n, hn, rfl⟩ := nI_of q0
    exact ⟨n, Nat.le_of_not_lt fun q => q1 (show nI n < nI 1 from nI_lt q (by decide)), (nI_leI hn (by decide)).mp (show nI n ≤ nI 99 from q2), rfl⟩
  refine ⟨HR.same (fun k h1 h2 => funext fun j => ne _ _ (by omega) (by omega)), HL.same (fun w hw => fw w 10), O2, fun w hw => by rw [fw w 8]; exact inP_up hP (HP w hw), ⟨fun p hp => ?_, HS.2.1, fun c hc => ?_, fun w hw => ?_⟩, fun w h1 h2 => ?_, fun w hw => (H1 w hw).re (fw w) (fun v => hf w v hw), fun x y hx hy hne a1 a2 a3 => ?_, ?_, ?_, fun p hp => ?_, fun x hx => ?_⟩
  · by_cases e : p = P
    · subst e
      rw [e3]
      exact ⟨hfee, by omega⟩
    · rw [ne (29 + p) 3 (by omega) (by omega)]
      exact ⟨(HS.1 p (by omega)).1, by omega⟩
  · exact (HS.2.2.1 c hc).same (ne _ _ (by omega) (by omega)) (funext fun j => ne _ _ (by omega) (by omega)) (funext fun j => ne _ _ (by omega) (by omega))
  · unfold Ws
    rw [fw w 0, fw w 3, fw w 4]
    exact HS.2.2.2 w hw
  · rw [fw w 7, fw w 8, fw w 9, fw w 11]
    exact H0 w h1 h2
  · rw [fw x 0, fw y 0] at a2
    rw [fw x 1, fw y 1] at a3
    rw [fw x 7] at a1
    rw [fw y 7]
    exact H2 x y hx hy hne a1 a2 a3
  · show τ 0 10 = sumI (fun w => τ (73 + w) 11) W - (sumI (fun p => τ (29 + p) 5) P + τ (29 + P) 5)
    rw [sumI_congr (f := fun w => σ (73 + w) 11) (n := W) (fun w hw => fw w 11), sumI_congr (f := fun p => σ (29 + p) 5) (n := P) (fun p hp => ne _ _ (by omega) (by omega)), ne (29 + P) 5 (by omega) (by omega), z.2.1, Int32.add_zero, ne 0 10 (by omega) (by omega)]
    exact H3
  · show sumI (fun p => τ (29 + p) 7) P + τ (29 + P) 7 = sumI (hoW τ) W
    rw [sumI_congr (f := fun p => σ (29 + p) 7) (n := P) (fun p hp => ne _ _ (by omega) (by omega)), ne (29 + P) 7 (by omega) (by omega), z.2.2.2, Int32.add_zero, sumI_congr (f := hoW σ) (g := hoW τ) (n := W) (fun w hw => hw_at (by rw [fw w 7]) (fun _ => fw w 8) (fw w 4))]
    exact H4
  · rw [en, ne (29 + p) 6 (by omega) (by omega), ne (29 + p) 7 (by omega) (by omega)]
    by_cases e : p = P
    · subst e
      exact ⟨0, 0, z.2.2.1.trans nI_0.symm, z.2.2.2.trans nI_0.symm, Nat.le_refl _, Nat.zero_le _, Nat.zero_le _⟩
    · exact H5.1 p (by omega)
  · rw [en, ne (39 + x) 3 (by omega) (by omega)]
    exact H5.2 x hx
/-- bands to come have no size yet -/
def Fb (σ : MS) (B : Nat) : Prop := ∀ b, B ≤ b → b < 6 → σ (55 + b) 2 = 0
theorem bandS_k {m : Nat} {k j : Nat} (h : ¬ bdPl B k j) (h2 : ¬ (k = 0 ∧ j = 7)) : bandS σ B m k j = σ k j := by
  unfold bandS
  rw [up2_off h2, tkO_k h]
theorem inv_band {m : Nat} (hB : B < 6) (h1 : 1 ≤ m) (hm : m ≤ 728) (O2 : Ok (bandS σ B m) P (B + 1) W T) (Z : Fb σ B) (H : Inv σ P B W T) : Inv (bandS σ B m) P (B + 1) W T := by
  have O := H.2.2.1
  have hW := O.hW
  have hP := O.hP
  have ne : ∀ k j, ¬ ((k = 55 + B ∧ j = 2) ∨ k = 61 + B ∨ k = 67 + B) → ¬ (k = 0 ∧ j = 7) → bandS σ B m k j = σ k j := fun k j g1 g2 => bandS_k (by unfold bdPl; exact g1) g2
  have hbd : Bd (bandS σ B m) B := (bd_new (x := σ) hB hm h1 (Z B (Nat.le_refl B) hB)).same (up2_off (by omega)) (funext fun j => up2_off (by omega)) (funext fun j => up2_off (by omega))
  generalize bandS σ B m = τ at ne hbd O2
  obtain ⟨HR, HL, _, HP, HS, H0, H1, H2, H3, H4, H5⟩ := H
  have fw : ∀ w j, τ (73 + w) j = σ (73 + w) j := fun w j => ne _ _ (by omega) (by omega)
  have en : nPl τ W = nPl σ W := nPl_congr (fun w hw => fw w 7)
  have hf : ∀ w v, w < W → FilS σ P w v → FilS τ P w v := fun w v hw h => by
    obtain ⟨x, g1, g2, g3, g4, g5⟩ := h
    have eb : bdOf τ w = bdOf σ w := by unfold bdOf; rw [fw]
    obtain ⟨⟨b, hb, hb2⟩, -⟩ := HS.2.2.2 w hw
    have hlt : bdOf σ w < B := by
      unfold bdOf
      rw [hb2, nI_clamp (by omega)]
      exact hb
    refine ⟨x, g1, g2, g3, ?_, fun p hp hbt => ?_⟩
    · rw [eb, ne _ _ (by omega) (by omega)]; exact g4
    · obtain ⟨j, j1, j2, j3⟩ := g5 p hp hbt
      refine ⟨j, ?_, j2, ?_⟩
      · rw [eb, ne _ _ (by omega) (by omega)]; exact j1
      · have ep : pl τ (bdOf τ w) j = pl σ (bdOf σ w) j := by
          unfold pl
          rw [eb, ne _ _ (by omega) (by omega)]
        rw [ep, ne _ _ (by omega) (by omega)]
        exact j3
  refine ⟨HR.same (fun k h1 h2 => funext fun j => ne _ _ (by omega) (by omega)), HL.same (fun w hw => fw w 10), O2, fun w hw => by rw [fw w 8]; exact HP w hw, ⟨fun p hp => ?_, HS.2.1, fun c hc => ?_, fun w hw => ?_⟩, fun w h1 h2 => ?_, fun w hw => (H1 w hw).re (fw w) (fun v => hf w v hw), fun x y hx hy hne a1 a2 a3 => ?_, ?_, ?_, fun p hp => ?_, fun x hx => ?_⟩
  · rw [ne (29 + p) 3 (by omega) (by omega)]
    exact HS.1 p hp
  · by_cases e : c = B
    · subst e; exact hbd
    · exact (HS.2.2.1 c (by omega)).same (ne _ _ (by omega) (by omega)) (funext fun j => ne _ _ (by omega) (by omega)) (funext fun j => ne _ _ (by omega) (by omega))
  · unfold Ws
    rw [fw w 0, fw w 3, fw w 4]
    obtain ⟨⟨b, hb, hb2⟩, r⟩ := HS.2.2.2 w hw
    exact ⟨⟨b, by omega, hb2⟩, r⟩
  · rw [fw w 7, fw w 8, fw w 9, fw w 11]
    exact H0 w h1 h2
  · rw [fw x 0, fw y 0] at a2
    rw [fw x 1, fw y 1] at a3
    rw [fw x 7] at a1
    rw [fw y 7]
    exact H2 x y hx hy hne a1 a2 a3
  · show τ 0 10 = sumI (fun w => τ (73 + w) 11) W - sumI (fun p => τ (29 + p) 5) P
    rw [sumI_congr (f := fun w => σ (73 + w) 11) (n := W) (fun w hw => fw w 11), sumI_congr (f := fun p => σ (29 + p) 5) (n := P) (fun p hp => ne _ _ (by omega) (by omega)), ne 0 10 (by omega) (by omega)]
    exact H3
  · show sumI (fun p => τ (29 + p) 7) P = sumI (hoW τ) W
    rw [sumI_congr (f := fun p => σ (29 + p) 7) (n := P) (fun p hp => ne _ _ (by omega) (by omega)), sumI_congr (f := hoW σ) (g := hoW τ) (n := W) (fun w hw => hw_at (by rw [fw w 7]) (fun _ => fw w 8) (fw w 4))]
    exact H4
  · rw [en, ne (29 + p) 6 (by omega) (by omega), ne (29 + p) 7 (by omega) (by omega)]
    exact H5.1 p hp
  · rw [en, ne (39 + x) 3 (by omega) (by omega)]
    exact H5.2 x hx
end INVT
