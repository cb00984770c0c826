/-! agency: whatever the script says, what always holds holds of the new agency -/
/-- nothing was asked yet -/
def Zr (σ : MS) (P B : Nat) : Prop := (∀ p, p < 10 → σ (29 + p) 5 = 0 ∧ σ (29 + p) 6 = 0 ∧ σ (29 + p) 7 = 0) ∧ (∀ p, P ≤ p → p < 10 → σ (29 + p) 4 = 0) ∧ (∀ b, B ≤ b → b < 6 → σ (55 + b) 2 = 0) ∧ (∀ s, s < 16 → σ (39 + s) 3 = 0) ∧ (∀ w, w < 14 → ∀ j, 7 ≤ j → j ≤ 11 → σ (73 + w) j = 0) ∧ σ 0 10 = 0
def J (σ : MS) (P B : Nat) : Prop := Ok σ P B 0 0 ∧ RdI σ ∧ SI σ P B 0 ∧ Zr σ P B
theorem sum_0 {f : Nat → Int32} : ∀ {n : Nat}, (∀ p, p < n → f p = 0) → sumI f n = 0
  | 0, _ => rfl
  | n + 1, h => by
    show sumI f n + f n = 0
    rw [sum_0 (fun p hp => h p (by omega)), h n (by omega), Int32.add_zero]
theorem J.inv {σ : MS} {P B : Nat} (H : J σ P B) : Inv σ P B 0 0 := by
  obtain ⟨O, R, S, z1, z2, z3, z4, z5, z6⟩ := H
  have hP := O.hP
  refine ⟨R, fun w hw => ⟨0, by omega, by omega, by rw [z5 w hw 10 (by omega) (by omega), nI_0]⟩, O, fun w hw => by rw [z5 w hw 8 (by omega) (by omega)]; exact inP_0 P hP, S, fun w _ hw => ⟨z5 w hw 7 (by omega) (by omega), z5 w hw 8 (by omega) (by omega), z5 w hw 9 (by omega) (by omega), z5 w hw 11 (by omega) (by omega)⟩, fun w hw => absurd hw (by omega), fun a b ha => absurd ha (by omega), ?_, ?_, fun p hp => ⟨0, 0, by rw [(z1 p (by omega)).2.1, nI_0], by rw [(z1 p (by omega)).2.2, nI_0], by omega, by omega, by omega⟩, fun s hs => ⟨0, by rw [z4 s hs, nI_0], by omega⟩⟩
  · unfold D3 paidI earnI
    rw [z6, sum_0 (fun p hp => (z1 p (by omega)).1)]
    show (0 : Int32) = 0 - 0
    decide
  · unfold D4 hrsI
    rw [sum_0 (fun p hp => (z1 p (by omega)).2.2)]
    rfl
theorem σ0_lo {k j : Nat} (h : k ≠ 9) (h2 : k < 23 ∨ 29 ≤ k) (h3 : k < 39 ∨ 55 ≤ k) : σ0 k j = 0 := by
  unfold σ0
  rw [if_neg h, if_neg (by omega), if_neg (by omega)]
theorem J.new : J σ0 0 0 := by
  have hz : ∀ k j, k ≠ 9 → (k < 23 ∨ 29 ≤ k) → (k < 39 ∨ 55 ≤ k) → σ0 k j = 0 := fun k j => σ0_lo
  have v0 : ∀ n, 0 < n → vp_in (0 : Int32) n := fun n hn => by rw [← nI_0]; exact fun q => q.elim (nI_pos (by decide)) (fun z => by rw [nI_clamp (by decide)] at z; omega)
  refine ⟨⟨by rw [hz _ _ (by omega) (by omega) (by omega), nI_0], by omega, by rw [hz _ _ (by omega) (by omega) (by omega), nI_0], by omega, by rw [hz _ _ (by omega) (by omega) (by omega), nI_0], by omega, by rw [hz _ _ (by omega) (by omega) (by omega), nI_0], by omega, fun p hp => ?_, fun w hw => ?_, fun w hw => ?_, fun w hw => ?_, fun b hb => ⟨0, by omega, ?_⟩, fun b j hb hj => ⟨0, by omega, ?_⟩⟩, ⟨fun a b ha hb => ⟨0, by omega, by omega, ?_⟩, fun a b ha hb => ?_⟩, ⟨fun p hp => absurd hp (by omega), fun s hs => ⟨3, by omega, by omega, ?_⟩, fun b hb => absurd hb (by omega), fun w hw => absurd hw (by omega)⟩, fun p hp => ⟨?_, ?_, ?_⟩, fun p _ hp => ?_, fun b _ hb => ?_, fun s hs => ?_, fun w hw j _ _ => ?_, ?_⟩
  · rw [hz _ _ (by omega) (by omega) (by omega)]; exact v0 6 (by decide)
  · rw [hz _ _ (by omega) (by omega) (by omega)]; exact v0 6 (by decide)
  · rw [hz _ _ (by omega) (by omega) (by omega)]; exact v0 366 (by decide)
  · rw [hz _ _ (by omega) (by omega) (by omega)]; exact v0 6 (by decide)
  · rw [hz _ _ (by omega) (by omega) (by omega), nI_0]
  · rw [hz _ _ (by omega) (by omega) (by omega), nI_0]
  · rw [hz _ _ (by omega) (by omega) (by omega), nI_0]
  · unfold σ0
    rw [if_neg (by omega), if_pos (by omega), if_pos hb]
    unfold wy0
    split
    · exact Or.inr ⟨0, by omega, by omega, nI_0.symm⟩
    · exact Or.inl rfl
  · unfold σ0
    rw [if_neg (by omega), if_neg (by omega), if_pos (by omega), if_neg (by decide), if_neg (by decide), if_pos rfl]
    rfl
  · exact hz _ _ (by omega) (by omega) (by omega)
  · exact hz _ _ (by omega) (by omega) (by omega)
  · exact hz _ _ (by omega) (by omega) (by omega)
  · exact hz _ _ (by omega) (by omega) (by omega)
  · exact hz _ _ (by omega) (by omega) (by omega)
  · unfold σ0
    rw [if_neg (by omega), if_neg (by omega), if_pos (by omega), if_neg (by decide), if_neg (by decide), if_neg (by decide)]
  · exact hz _ _ (by omega) (by omega) (by omega)
  · exact hz _ _ (by omega) (by omega) (by omega)
/-- the zeros, where nothing of theirs changes -/
theorem Zr.same {σ τ : MS} {P B : Nat} (h : ∀ k j, (29 ≤ k ∧ k < 39 ∧ 4 ≤ j ∧ j ≤ 7) ∨ (55 ≤ k ∧ k < 61 ∧ j = 2) ∨ (39 ≤ k ∧ k < 55 ∧ j = 3) ∨ (73 ≤ k ∧ 7 ≤ j) ∨ (k = 0 ∧ j = 10) → τ k j = σ k j) (H : Zr σ P B) : Zr τ P B := by
  obtain ⟨z1, z2, z3, z4, z5, z6⟩ := H
  refine ⟨fun p hp => ⟨?_, ?_, ?_⟩, fun p h1 h2 => ?_, fun b h1 h2 => ?_, fun s hs => ?_, fun w hw j h1 h2 => ?_, ?_⟩
  · rw [h _ _ (by omega)]; exact (z1 p hp).1
  · rw [h _ _ (by omega)]; exact (z1 p hp).2.1
  · rw [h _ _ (by omega)]; exact (z1 p hp).2.2
  · rw [h _ _ (by omega)]; exact z2 p h1 h2
  · rw [h _ _ (by omega)]; exact z3 b h1 h2
  · rw [h _ _ (by omega)]; exact z4 s hs
  · rw [h _ _ (by omega)]; exact z5 w hw j h1 h2
  · rw [h _ _ (by omega)]; exact z6
theorem J.road {σ : MS} {P B i j : Nat} {v : Int32} (H : J σ P B) (hi : i < 6) (hj : j < 6) (hv : rg 0 9 v) : J (layS σ i j v) P B := by
  obtain ⟨O, R, S, Z⟩ := H
  have hst : St σ (layS σ i j v) := fun k' j' hk => by rw [lay_k hi hj (by unfold stc at hk; omega)]
  exact ⟨O.st hst (by rw [lay_k hi hj (by omega)]), lay_ok hi hj hv R.1, S.st O hst, Z.same (fun k j' hk => by rw [lay_k hi hj (by omega)])⟩
theorem J.play {σ : MS} {P B : Nat} {i s t f : Int32} (H : J σ P B) (ht : 0 ≤ t ∧ t < 6) (hp : plOk i s f) (hP : P < 10) : J (telP σ P i s t f) (P + 1) B := by
  obtain ⟨O, R, S, z1, z2, z3, z4, z5, z6⟩ := H
  have O2 := O.tel (i := i) (s := s) (f := f) ht hP
  have ne : ∀ k j, (k ≠ 29 + P ∨ 4 ≤ j) → (k ≠ 0 ∨ j ≠ 6) → telP σ P i s t f k j = σ k j := fun k j h1 h2 => by
    unfold telP
    rw [up2_at h2, up2_at (by omega), up2_at (by omega), up2_at (by omega), up2_at (by omega)]
  have e3 : telP σ P i s t f (29 + P) 3 = f := by
    unfold telP
    rw [up2_at (by omega), up2_same]
  generalize telP σ P i s t f = τ at O2 ne e3
  refine ⟨O2, R.same (fun k h1 h2 => funext fun j => ne _ _ (by omega) (by omega)), ⟨fun p hp2 => ?_, fun x hx => ?_, fun b hb => ?_, fun w hw => absurd hw (by omega)⟩, fun p hp2 => ⟨?_, ?_, ?_⟩, fun p h1 h2 => ?_, fun b h1 h2 => ?_, fun x hx => ?_, fun w hw j h1 h2 => ?_, ?_⟩
  · by_cases e : p = P
    · subst e
      rw [e3, ne (29 + p) 4 (by omega) (by omega), z2 p (by omega) hP]
      refine ⟨?_, b_0 _⟩
      have f0 : ¬ f < 0 := fun q => hp.2.2.2.1 (Int32.lt_trans q (by decide))
      obtain ⟨n, hn, rfl⟩ := nI_of f0
      exact ⟨n, Nat.le_of_not_lt fun q => hp.2.2.2.1 (show nI n < nI 1 from nI_lt q (by decide)), (nI_leI hn (by decide)).mp (show nI n ≤ nI 99 from hp.2.2.2.2), rfl⟩
    · rw [ne (29 + p) 3 (by omega) (by omega), ne (29 + p) 4 (by omega) (by omega)]
      exact S.1 p (by omega)
  · rw [ne _ _ (by omega) (by omega)]
    exact S.2.1 x hx
  · exact (S.2.2.1 b hb).same (ne _ _ (by omega) (by omega)) (funext fun j => ne _ _ (by omega) (by omega)) (funext fun j => ne _ _ (by omega) (by omega))
  · rw [ne _ _ (by omega) (by omega)]; exact (z1 p hp2).1
  · rw [ne _ _ (by omega) (by omega)]; exact (z1 p hp2).2.1
  · rw [ne _ _ (by omega) (by omega)]; exact (z1 p hp2).2.2
  · rw [ne _ _ (by omega) (by omega)]; exact z2 p (by omega) h2
  · rw [ne _ _ (by omega) (by omega)]; exact z3 b h1 h2
  · rw [ne _ _ (by omega) (by omega)]; exact z4 x hx
  · rw [ne _ _ (by omega) (by omega)]; exact z5 w hw j h1 h2
  · rw [ne _ _ (by omega) (by omega)]; exact z6
theorem J.feud {σ : MS} {P B p q : Nat} {x y : Int32} (H : J σ P B) (hp : p < P) (hq : q < P) (hne : p ≠ q) : J (feudS σ p q x y) P B := by
  obtain ⟨O, R, S, z1, z2, z3, z4, z5, z6⟩ := H
  have hP := O.hP
  have O2 := O.feud (x := x) (y := y) (p := p) (q := q) (by omega) (by omega)
  unfold feudS at O2 ⊢
  split at O2
  · rename_i c
    rw [if_pos c]
    exact ⟨O, R, S, z1, z2, z3, z4, z5, z6⟩
  · rename_i c
    rw [if_neg c]
    have ne : ∀ k j, ((k ≠ 29 + p ∧ k ≠ 29 + q) ∨ j ≠ 4) → up2 (up2 σ (29 + p) 4 (σ (29 + p) 4 ^^^ one q)) (29 + q) 4 (σ (29 + q) 4 ^^^ one p) k j = σ k j := fun k j h => by rw [up2_at (by omega), up2_at (by omega)]
    have ep : up2 (up2 σ (29 + p) 4 (σ (29 + p) 4 ^^^ one q)) (29 + q) 4 (σ (29 + q) 4 ^^^ one p) (29 + p) 4 = σ (29 + p) 4 ^^^ one q := by rw [up2_at (by omega), up2_same]
    have eq : up2 (up2 σ (29 + p) 4 (σ (29 + p) 4 ^^^ one q)) (29 + q) 4 (σ (29 + q) 4 ^^^ one p) (29 + q) 4 = σ (29 + q) 4 ^^^ one p := up2_same
    generalize up2 (up2 σ (29 + p) 4 (σ (29 + p) 4 ^^^ one q)) (29 + q) 4 (σ (29 + q) 4 ^^^ one p) = τ at O2 ne ep eq
    refine ⟨O2, R.same (fun k h1 h2 => funext fun j => ne _ _ (by omega)), ⟨fun r hr => ⟨?_, ?_⟩, fun x hx => ?_, fun b hb => ?_, fun w hw => absurd hw (by omega)⟩, fun p hp2 => ⟨?_, ?_, ?_⟩, fun r h1 h2 => ?_, fun b h1 h2 => ?_, fun x hx => ?_, fun w hw j h1 h2 => ?_, ?_⟩
    · rw [ne _ _ (by omega)]; exact (S.1 r hr).1
    · by_cases e1 : r = p
      · subst e1
        rw [ep, b_xor, (S.1 r hr).2, bt_one q (by omega) r (by omega), decide_eq_false hne]
        rfl
      · by_cases e2 : r = q
        · subst e2
          rw [eq, b_xor, (S.1 r hr).2, bt_one p (by omega) r (by omega), decide_eq_false e1]
          rfl
        · rw [ne _ _ (by omega)]; exact (S.1 r hr).2
    · rw [ne _ _ (by omega)]; exact S.2.1 x hx
    · exact (S.2.2.1 b hb).same (ne _ _ (by omega)) (funext fun j => ne _ _ (by have := O.hB; omega)) (funext fun j => ne _ _ (by have := O.hB; omega))
    · rw [ne _ _ (by omega)]; exact (z1 p hp2).1
    · rw [ne _ _ (by omega)]; exact (z1 p hp2).2.1
    · rw [ne _ _ (by omega)]; exact (z1 p hp2).2.2
    · rw [ne _ _ (by omega)]; exact z2 r h1 h2
    · rw [ne _ _ (by omega)]; exact z3 b h1 h2
    · rw [ne _ _ (by omega)]; exact z4 x hx
    · rw [ne _ _ (by omega)]; exact z5 w hw j h1 h2
    · rw [ne _ _ (by omega)]; exact z6
theorem J.song {σ : MS} {P B a : Nat} {k e m : Int32} (H : J σ P B) (ha : a < 16) (hs : sgOk k e m) : J (songS σ a k e m) P B := by
  obtain ⟨O, R, S, Z⟩ := H
  have O2 := O.song (k := k) (e := e) (m := m) ha
  have ne : ∀ k' j', (k' ≠ 39 + a ∨ 3 ≤ j') → songS σ a k e m k' j' = σ k' j' := fun k' j' h => by
    unfold songS
    rw [up2_at (by omega), up2_at (by omega), up2_at (by omega)]
  have e2 : songS σ a k e m (39 + a) 2 = m := by unfold songS; rw [up2_same]
  generalize songS σ a k e m = τ at O2 ne e2
  refine ⟨O2, R.same (fun k h1 h2 => funext fun j => ne _ _ (by omega)), ⟨fun p hp => ?_, fun x hx => ?_, fun b hb => ?_, fun w hw => absurd hw (by omega)⟩, Z.same (fun k j hk => ne _ _ (by omega))⟩
  · have hP := O.hP
    rw [ne _ 3 (by omega), ne _ 4 (by omega)]
    exact S.1 p hp
  · by_cases e : x = a
    · subst e
      rw [e2]
      have m0 : ¬ m < 0 := fun q => hs.2.2.2.2.1 (Int32.lt_trans q (by decide))
      obtain ⟨n, hn, rfl⟩ := nI_of m0
      exact ⟨n, Nat.le_of_not_lt fun q => hs.2.2.2.2.1 (show nI n < nI 2 from nI_lt q (by decide)), (nI_leI hn (by decide)).mp (show nI n ≤ nI 9 from hs.2.2.2.2.2), rfl⟩
    · rw [ne _ _ (by omega)]; exact S.2.1 x hx
  · exact (S.2.2.1 b hb).same (ne _ _ (by omega)) (funext fun j => ne _ _ (by omega)) (funext fun j => ne _ _ (by omega))
theorem J.band {σ : MS} {P B m : Nat} (H : J σ P B) (hm : m ≤ 728) (h1 : 1 ≤ m) (hB : B < 6) : J (bandS σ B m) P (B + 1) := by
  obtain ⟨O, R, S, z1, z2, z3, z4, z5, z6⟩ := H
  have hP := O.hP
  have O2 := O.band1 (m := m) hB
  have hb := bd_new (x := σ) hB hm h1 (z3 B (Nat.le_refl B) hB)
  have ne : ∀ k j, (k ≠ 0 ∨ j ≠ 7) → ¬ bdPl B k j → bandS σ B m k j = σ k j := fun k j h1 h2 => by
    unfold bandS
    rw [up2_at h1, tkO_k h2]
  have hB2 : Bd (bandS σ B m) B := hb.same (by unfold bandS; rw [up2_at (by omega)]) (by unfold bandS; rw [up2_ne (by omega)]) (by unfold bandS; rw [up2_ne (by omega)])
  generalize bandS σ B m = τ at O2 ne hB2
  refine ⟨O2, R.same (fun k h1 h2 => funext fun j => ne _ _ (by omega) (by unfold bdPl; omega)), ⟨fun p hp => ?_, fun x hx => ?_, fun b hb2 => ?_, fun w hw => absurd hw (by omega)⟩, fun p hp2 => ⟨?_, ?_, ?_⟩, fun p h1 h2 => ?_, fun b h1 h2 => ?_, fun x hx => ?_, fun w hw j h1 h2 => ?_, ?_⟩
  · rw [ne _ 3 (by omega) (by unfold bdPl; omega), ne _ 4 (by omega) (by unfold bdPl; omega)]
    exact S.1 p hp
  · rw [ne _ _ (by omega) (by unfold bdPl; omega)]; exact S.2.1 x hx
  · by_cases e : b = B
    · subst e; exact hB2
    · exact (S.2.2.1 b (by omega)).same (ne _ _ (by omega) (by unfold bdPl; omega)) (funext fun j => ne _ _ (by omega) (by unfold bdPl; omega)) (funext fun j => ne _ _ (by omega) (by unfold bdPl; omega))
  · rw [ne _ _ (by omega) (by unfold bdPl; omega)]; exact (z1 p hp2).1
  · rw [ne _ _ (by omega) (by unfold bdPl; omega)]; exact (z1 p hp2).2.1
  · rw [ne _ _ (by omega) (by unfold bdPl; omega)]; exact (z1 p hp2).2.2
  · rw [ne _ _ (by omega) (by unfold bdPl; omega)]; exact z2 p h1 h2
  · rw [ne _ _ (by omega) (by unfold bdPl; omega)]; exact z3 b (by omega) h2
  · rw [ne _ _ (by omega) (by unfold bdPl; omega)]; exact z4 x hx
  · rw [ne _ _ (by omega) (by unfold bdPl; omega)]; exact z5 w hw j h1 h2
  · rw [ne _ _ (by omega) (by unfold bdPl; omega)]; exact z6
/-! the loops of agency -/
theorem ag407 {post : MS → Prop} {ρ : MS} {P : Nat} (h : ∀ τ W, 1 ≤ W → W ≤ 14 → Inv τ P 3 W 0 → RlA ρ τ → post τ) : ∀ n v, v + n = 4 → ∀ σ W, Inv σ P 3 W 0 → (v = 0 ∨ 1 ≤ W) → W ≤ 14 → RlA ρ σ → u_L_agency_407 post (n + 1) σ (nI v) := by
  intro n
  induction n with
  | zero =>
    intro v hv σ W H h1 h2 h3
    obtain rfl : v = 4 := by omega
    rw [u_L_agency_407]
    exact ⟨fun _ => h σ W (by omega) h2 H h3, fun c => absurd (le_self _) c⟩
  | succ n ih =>
    intro v hv σ W H h1 h2 h3
    rw [u_L_agency_407]
    refine ⟨fun c => absurd (show nI 4 ≤ nI v from c) (nI_ge (by omega) (by decide)), fun _ => ⟨by rw [show (11 : Int32) + nI v = nI (11 + v) from nI_add 11 v]; exact nI_pos (by omega), fun r => law_asked H (by decide) (fun τ W' hW' hW14 i1 i2 => ?_)⟩⟩
    rw [nI_1]
    exact ih (v + 1) (by omega) τ W' i1 (by omega) hW14 (h3.tr i2)
theorem ag321 {post : MS → Prop} {P : Nat} (h : ∀ ρ τ W, J ρ P 3 → 1 ≤ W → W ≤ 14 → Inv τ P 3 W 0 → RlA ρ τ → post τ) : ∀ n v, v + n = 4 → ∀ σ, J σ P 3 → u_L_agency_321 post (n + 1) σ (nI v) := by
  intro n
  induction n with
  | zero =>
    intro v hv σ H
    obtain rfl : v = 4 := by omega
    rw [u_L_agency_321]
    exact ⟨fun _ => ⟨5, by decide, ag407 (h σ · · H) 4 0 (by omega) σ 0 H.inv (Or.inl rfl) (by omega) (RlA.rf σ)⟩, fun c => absurd (le_self _) c⟩
  | succ n ih =>
    intro v hv σ H
    rw [u_L_agency_321]
    refine ⟨fun c => absurd (show nI 4 ≤ nI v from c) (nI_ge (by omega) (by decide)), fun _ => ⟨by decide, fun r => law_below (k := 16) (by decide) (by decide) ⟨by decide, fun r2 => law_below (k := 12) (by decide) (by decide) ⟨by decide, fun r3 => law_below (k := 10) (by decide) (by decide) ⟨by decide, fun r4 => law_below (k := 8) (by decide) (by decide) ?_⟩⟩⟩⟩⟩
    have a1 : bl (r >>> ((4 * nI v) &&& 31)) 16 < 16 := bl_lt (by decide)
    have a2 : bl (r2 >>> ((3 * nI v) &&& 31)) 12 < 12 := bl_lt (by decide)
    have a3 : bl (r3 >>> ((5 * nI v) &&& 31)) 10 < 10 := bl_lt (by decide)
    have a4 : bl (r4 >>> ((2 * nI v) &&& 31)) 8 < 8 := bl_lt (by decide)
    generalize bl (r >>> ((4 * nI v) &&& 31)) 16 = a at a1
    generalize bl (r2 >>> ((3 * nI v) &&& 31)) 12 = k at a2
    generalize bl (r3 >>> ((5 * nI v) &&& 31)) 10 = e at a3
    generalize bl (r4 >>> ((2 * nI v) &&& 31)) 8 = m at a4
    rw [show (2 : Int32) + nI m = nI (2 + m) from nI_add 2 m, nI_1]
    have ok : sgOk (nI k) (nI e) (nI (2 + m)) := ⟨nI_pos (by omega), nI_ge (b := 12) a2 (by decide), nI_pos (by omega), nI_ge (b := 10) a3 (by decide), nI_nlt (b := 2) (by omega) (by omega), nI_le (b := 9) (by omega) (by decide)⟩
    exact law_N_song a1 ok (fun _ => ih (v + 1) (by omega) _ (H.song a1 ok))
def shp (r : Nat) : Nat := if r = 0 then 1 else if r = 1 then 2 else if r = 2 then 4 else if r = 3 then 5 else if r = 4 then 3 else if r = 5 then 10 else if r = 6 then 13 else 12
theorem shp_ok : ∀ r, r < 8 → 1 ≤ shp r ∧ shp r ≤ 728 ∧ (szI (nI (shp r)) 6).1 ≤ 5 := by decide +kernel
theorem ag283 {post : MS → Prop} {P : Nat} {τ : Nat → Int32} (hτ : ∀ r, r < 8 → τ r = nI (shp r)) (h : ∀ ρ τ W, J ρ P 3 → 1 ≤ W → W ≤ 14 → Inv τ P 3 W 0 → RlA ρ τ → post τ) : ∀ n v, v + n = 3 → ∀ σ, J σ P v → u_L_agency_283 post (n + 1) σ τ (nI v) := by
  intro n
  induction n with
  | zero =>
    intro v hv σ H
    obtain rfl : v = 3 := by omega
    rw [u_L_agency_283]
    exact ⟨fun _ => ⟨5, ag321 h 4 0 (by omega) σ H⟩, fun c => absurd (le_self _) c⟩
  | succ n ih =>
    intro v hv σ H
    rw [u_L_agency_283]
    refine ⟨fun c => absurd (show nI 3 ≤ nI v from c) (nI_ge (by omega) (by decide)), fun _ => ⟨by decide, fun r => law_below (k := 8) (by decide) (by decide) ?_⟩⟩
    have a1 : bl (r >>> ((3 * nI v) &&& 31)) 8 < 8 := bl_lt (by decide)
    generalize bl (r >>> ((3 * nI v) &&& 31)) 8 = a at a1
    obtain ⟨s1, s2, s3⟩ := shp_ok a a1
    refine ⟨vp_in_nI a1 (by decide), ?_⟩
    rw [nI_clamp (by omega), hτ a a1, nI_1]
    exact law_N_band H.1 s1 s2 s3 (by omega) (fun _ => ih (v + 1) (by omega) _ (H.band s2 s1 (by omega)))
theorem shp_is : ∀ r, r < 8 → (upd (upd (upd (upd (upd (upd (upd (upd (fun _ => (0 : Int32)) (Int32.toNatClampNeg 0) 1) (Int32.toNatClampNeg 1) 2) (Int32.toNatClampNeg 2) 4) (Int32.toNatClampNeg 3) 5) (Int32.toNatClampNeg 4) 3) (Int32.toNatClampNeg 5) 10) (Int32.toNatClampNeg 6) 13) (Int32.toNatClampNeg 7) 12) r = nI (shp r) := by decide +kernel
theorem ag170 {post : MS → Prop} {P : Nat} (hP0 : 2 ≤ P) (h : ∀ ρ τ W, J ρ P 3 → 1 ≤ W → W ≤ 14 → Inv τ P 3 W 0 → RlA ρ τ → post τ) : ∀ n v, v + n = 3 → ∀ σ, J σ P 0 → u_L_agency_170 post (n + 1) σ (nI P) (nI v) := by
  intro n
  induction n with
  | zero =>
    intro v hv σ H
    obtain rfl : v = 3 := by omega
    rw [u_L_agency_170]
    exact ⟨fun _ => ⟨4, ag283 shp_is h 3 0 (by omega) σ H⟩, fun c => absurd (le_self _) c⟩
  | succ n ih =>
    intro v hv σ H
    have hP := H.1.hP
    rw [u_L_agency_170, nI_1]
    refine ⟨fun c => absurd (show nI 3 ≤ nI v from c) (nI_ge (by omega) (by decide)), fun _ => ⟨by decide, fun r => law_below (by omega) (by omega) ⟨by decide, fun r2 => law_below (by omega) (by omega) ?_⟩⟩⟩
    have a1 : bl (r >>> ((3 * nI v) &&& 31)) P < P := bl_lt (by omega)
    have a2 : bl (r2 >>> (((3 * nI v) + 9) &&& 31)) P < P := bl_lt (by omega)
    generalize bl (r >>> ((3 * nI v) &&& 31)) P = p at a1
    generalize bl (r2 >>> (((3 * nI v) + 9) &&& 31)) P = q at a2
    exact ⟨fun _ => ih (v + 1) (by omega) σ H, fun hne => ⟨fun _ => ih (v + 1) (by omega) σ H, fun _ => law_N_feud H.1 a1 a2 (fun e => hne (by rw [e])) (fun _ x => ih (v + 1) (by omega) _ (H.feud a1 a2 (fun e => hne (by rw [e]))))⟩⟩
theorem and65 (x : Int32) : 0 ≤ x &&& 65535 ∧ x &&& 65535 < 65536 := by
  have e : x &&& 65535 = nI (x.toBitVec.toNat &&& 65535) := by
    have h1 := nx_and x.toBitVec.toNat 65535
    rw [← nI_bv x] at h1
    exact h1
  have hx : (x.toBitVec.toNat &&& 65535) ≤ 65535 := Nat.and_le_right
  rw [e]
  exact ⟨nI_pos' (by omega), nI_lt (b := 65536) (by omega) (by decide)⟩
theorem ag95 {post : MS → Prop} {P : Nat} (hP0 : 2 ≤ P) (hP1 : P ≤ 6) (h : ∀ ρ τ W, J ρ P 3 → 1 ≤ W → W ≤ 14 → Inv τ P 3 W 0 → RlA ρ τ → post τ) : ∀ n v, v + n = P → ∀ σ, J σ v 0 → u_L_agency_95 post (n + 1) σ (nI P) (nI v) := by
  intro n
  induction n with
  | zero =>
    intro v hv σ H
    obtain rfl : v = P := by omega
    rw [u_L_agency_95]
    exact ⟨fun _ => ⟨4, ag170 hP0 h 3 0 (by omega) σ H⟩, fun c => absurd (le_self _) c⟩
  | succ n ih =>
    intro v hv σ H
    rw [u_L_agency_95, nI_1]
    refine ⟨fun c => absurd c (nI_ge (by omega) (by omega)), fun _ => ⟨by decide, fun r => law_below (k := 7) (by decide) (by decide) ⟨by decide, fun r2 => ⟨by decide, fun r3 => law_below (k := 3) (by decide) (by decide) ⟨by decide, fun r4 => law_below (k := 60) (by decide) (by decide) ?_⟩⟩⟩⟩⟩
    have a1 : bl (r >>> ((3 * nI v) &&& 31)) 7 < 7 := bl_lt (by decide)
    have a2 : bl (r3 >>> ((2 * nI v) &&& 31)) 3 < 3 := bl_lt (by decide)
    have a3 : bl (r4 >>> ((3 * nI v) &&& 31)) 60 < 60 := bl_lt (by decide)
    generalize bl (r >>> ((3 * nI v) &&& 31)) 7 = i at a1
    generalize bl (r3 >>> ((2 * nI v) &&& 31)) 3 = t at a2
    generalize bl (r4 >>> ((3 * nI v) &&& 31)) 60 = f at a3
    rw [show (1 : Int32) + nI i = nI (1 + i) from nI_add 1 i, show (1 : Int32) + nI f = nI (1 + f) from nI_add 1 f]
    have ht : 0 ≤ nI t ∧ nI t < 6 := ⟨nI_pos' (by omega), nI_lt (b := 6) (by omega) (by decide)⟩
    have ok : plOk (nI (1 + i)) ((r2 >>> (nI v &&& 31)) &&& 65535) (nI (1 + f)) := ⟨nI_nlt (b := 1) (by omega) (by omega), nI_ge (b := 64) (by omega) (by decide), and65 _, nI_nlt (b := 1) (by omega) (by omega), nI_le (b := 99) (by omega) (by decide)⟩
    exact law_N_player H.1 ht ok (by omega) (fun _ => ih (v + 1) (by omega) _ (H.play ht ok (by omega)))
theorem ag10 {post : MS → Prop} (h : ∀ P ρ τ W, 2 ≤ P → P ≤ 6 → J ρ P 3 → 1 ≤ W → W ≤ 14 → Inv τ P 3 W 0 → RlA ρ τ → post τ) : ∀ n v, v + n = 7 → ∀ σ, J σ 0 0 → u_L_agency_10 post (n + 1) σ (nI v) := by
  intro n
  induction n with
  | zero =>
    intro v hv σ H
    obtain rfl : v = 7 := by omega
    rw [u_L_agency_10]
    refine ⟨fun _ => ⟨by decide, fun r => law_below (k := 5) (by decide) (by decide) ?_⟩, fun c => absurd (le_self _) c⟩
    have a1 : bl r 5 < 5 := bl_lt (by decide)
    rw [show (2 : Int32) + nI (bl r 5) = nI (2 + bl r 5) from nI_add 2 _]
    exact ⟨2 + bl r 5 + 1, ag95 (by omega) (by omega) (fun ρ τ W => h (2 + bl r 5) ρ τ W (by omega) (by omega)) (2 + bl r 5) 0 (by omega) σ H⟩
  | succ n ih =>
    intro v hv σ H
    rw [u_L_agency_10, nI_1]
    refine ⟨fun c => absurd (show nI 7 ≤ nI v from c) (nI_ge (by omega) (by decide)), fun _ => ⟨by decide, fun r => law_below (k := 6) (by decide) (by decide) ⟨by decide, fun r2 => law_below (k := 6) (by decide) (by decide) ⟨fun _ => ih (v + 1) (by omega) σ H, fun hne => ⟨by decide, fun r3 => law_below (k := 7) (by decide) (by decide) ?_⟩⟩⟩⟩⟩
    have a1 : bl (r >>> ((2 * nI v) &&& 31)) 6 < 6 := bl_lt (by decide)
    have a2 : bl (r2 >>> ((2 * nI v) &&& 31)) 6 < 6 := bl_lt (by decide)
    have a3 : bl (r3 >>> ((2 * nI v) &&& 31)) 7 < 7 := bl_lt (by decide)
    generalize bl (r >>> ((2 * nI v) &&& 31)) 6 = i at a1 hne
    generalize bl (r2 >>> ((2 * nI v) &&& 31)) 6 = j at a2 hne
    generalize bl (r3 >>> ((2 * nI v) &&& 31)) 7 = x at a3
    exact law_N_road a1 a2 (fun e => hne (by rw [e])) (by omega) (fun _ => ih (v + 1) (by omega) _ (H.road a1 a2 ⟨x, by omega, by omega, rfl⟩))
theorem law_agency8 {post : MS → Prop} (h : ∀ P ρ τ W, 2 ≤ P → P ≤ 6 → J ρ P 3 → 1 ≤ W → W ≤ 14 → Inv τ P 3 W 0 → RlA ρ τ → post τ) : u_L_agency_8 post σ0 := ⟨8, ag10 h 7 0 (by omega) σ0 J.new⟩
