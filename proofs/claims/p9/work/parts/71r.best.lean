/-! THE BEST SET, EXACTLY: the reference's, from the songs on -/
section BEST2
variable {Tm : MS} {Γ : RG} {σ τ ρ : MS} {a a0 a1 a2 a3 a4 b c : Int32}
theorem cnt_full {P : Nat → Prop} {n : Nat} (h : cnt P n = n) : ∀ i, i < n → P i := fun i hi => Classical.byContradiction fun z => by
  have h1 := cnt_lt (P := P) (Q := fun _ => True) n (fun _ _ _ => trivial) ⟨i, hi, z, trivial⟩
  have h2 := cnt_le (P := fun _ => True) n
  omega
theorem bx_max {PL : Nat → Prop} {G : Nat → Nat} {post : Nat → (Nat → Int32) → MS → Prop} (hG : gOk ρ PL G) (h : ∀ len f τ R, (∀ k, k < 64 → τ k = ρ k) → rOk Tm Γ τ → len ≤ 16 → rwOk ρ PL G len R → (∀ i, i < len → R i < 16 ∧ f i = nI (R i)) → post len f τ)
    (O : rOk Tm Γ τ) (hlo : ∀ k, k < 64 → τ k = ρ k) (hF : ∀ s, s < 16 → τ 64 s = nI (G s)) : ∃ k, u_X11_bestSet_186 Γ post a1 k τ 0 0 := by
  have := inv_loop (fun k (q : Int32 × Int32) => u_X11_bestSet_186 Γ post a1 k τ q.1 q.2) (fun j q => q.2 = nI j ∧ ∃ L, q.1 = nI L ∧ L ≤ 144 ∧ (∀ i, i < j → G i ≤ L) ∧ (L = 0 ∨ ∃ s, s < 16 ∧ G s = L)) 16 (by
    rintro ⟨x, v⟩ ⟨rfl, L, rfl, hL144, hmax, hL⟩
    show u_X11_bestSet_186 Γ post a1 1 τ (nI L) (nI 16)
    unfold u_X11_bestSet_186
    refine ⟨fun _ => ⟨L + 1, ?_⟩, fun c => absurd (le_self (nI 16)) c⟩
    have ne : ∀ k, k ≠ 66 → rw0 τ 66 (fun _ => 0) k = τ k := fun k hk => rw0_ne hk
    have l0 : lastO (fun _ => 0) 0 = none := rfl
    refine bx_out hG h L L (Nat.le_refl _) (rw0 τ 66 (fun _ => 0)) 0 (-1) (fun _ => 0) (O.rw0 (by decide)) (fun k hk => by rw [ne k (by omega)]; exact hlo k hk) (fun s hs => by rw [ne 64 (by decide)]; exact hF s hs) (fun i hi => absurd hi (by omega)) (fun i hi => absurd hi (by omega)) (if_pos rfl).symm ?_ (fun k hk _ _ => hmax k hk) ?_
    · rw [l0]
      have := cnt_le (P := fun _ => True) 16
      show 0 + cnt (fun _ => True) 16 ≤ 16
      omega
    · rw [l0]
      rcases hL with e | ⟨s, hs, e⟩
      · exact Or.inl e
      · exact Or.inr ⟨s, hs, e, trivial⟩) (by
    rintro j k ⟨x, v⟩ hj ⟨rfl, L, rfl, hL144, hmax, hL⟩ ih
    have cj : (nI j).toNatClampNeg = j := nI_clamp (by omega)
    have g144 := (hG j hj).1
    show u_X11_bestSet_186 Γ post a1 (k + 1) τ (nI L) (nI j)
    unfold u_X11_bestSet_186
    rw [cj, hF j hj, nI_1 j]
    refine ⟨fun c => absurd (show nI 16 ≤ nI j from c) (nI_ge hj (by decide)), fun _ => ⟨vp_in_nI hj (by decide), ?_⟩⟩
    by_cases c : nI L < nI (G j)
    · rw [if_pos c]
      have lt : L < G j := by
        rcases Nat.lt_or_ge L (G j) with d | d
        · exact d
        · exact absurd c (Int32.not_lt.mpr (nI_le' d (by omega)))
      refine ih (nI (G j), nI (j + 1)) ⟨rfl, G j, rfl, g144, fun i hi => ?_, Or.inr ⟨j, hj, rfl⟩⟩
      rcases Nat.eq_or_lt_of_le (Nat.le_of_lt_succ hi) with z | z
      · rw [z]; exact Nat.le_refl _
      · have := hmax i z; omega
    · rw [if_neg c]
      refine ih (nI L, nI (j + 1)) ⟨rfl, L, rfl, hL144, fun i hi => ?_, hL⟩
      rcases Nat.eq_or_lt_of_le (Nat.le_of_lt_succ hi) with z | z
      · rw [z]
        rcases Nat.lt_or_ge L (G j) with d | d
        · exact absurd (nI_lt d (by omega)) c
        · exact d
      · exact hmax i z) 0 (by omega) (0, 0) ⟨nI_0.symm, 0, nI_0.symm, by omega, fun i hi => absurd hi (Nat.not_lt_zero _), Or.inl rfl⟩
  exact this
/-- j songs are done, the latest first; those that are not have nothing -/
def bxJ (Tm : MS) (Γ : RG) (ρ : MS) (PL : Nat → Prop) (j : Nat) (τ : MS) : Prop := rOk Tm Γ τ ∧ (∀ k, k < 64 → τ k = ρ k) ∧ cnt (fun i => ¬ τ 65 i = 0) 16 = j ∧ (∀ s i, s < 16 → i < 16 → ¬ τ 65 s = 0 → lat ρ s i → ¬ τ 65 i = 0) ∧ ∃ G : Nat → Nat, ∀ s, s < 16 → τ 64 s = nI (G s) ∧ G s ≤ 9 * j ∧ (τ 65 s = 0 → G s = 0) ∧ (¬ τ 65 s = 0 → (¬ PL s → G s = 0) ∧ (PL s → ∃ m r, ρ 9 s = nI m ∧ 2 ≤ m ∧ G s = m + r ∧ (∀ n, n < 16 → bhP ρ s n → G n ≤ r) ∧ (r = 0 ∨ ∃ n, n < 16 ∧ bhP ρ s n ∧ G n = r)))
theorem sx_bestSet {PL : Nat → Prop} {post : Nat → (Nat → Int32) → MS → Prop} (O : rOk Tm Γ σ)
    (hkn : ∀ (τ : MS) (s : Nat) (post' : Int32 → MS → Prop), s < 16 → (∀ k, k < 64 → τ k = σ k) → rOk Tm Γ τ → (PL s → post' 1 τ) → (¬ PL s → post' 0 τ) → w_X11_isKnown Γ post' τ a1 (nI s))
    (h : ∀ len f τ R G, (∀ k, k < 64 → τ k = σ k) → rOk Tm Γ τ → len ≤ 16 → gOk σ PL G → rwOk σ PL G len R → (∀ i, i < len → R i < 16 ∧ f i = nI (R i)) → post len f τ) : w_X11_bestSet Γ post σ a1 := by
  unfold w_X11_bestSet
  have one : ¬ vp_nar .boolean 1 = 0 := by decide
  have J0 : bxJ Tm Γ σ PL 0 (rw0 (rw0 σ 64 (fun _ => 0)) 65 (fun _ => 0)) := by
    have ne : ∀ k, k ≠ 64 → k ≠ 65 → rw0 (rw0 σ 64 (fun _ => 0)) 65 (fun _ => 0) k = σ k := fun k h1 h2 => by rw [rw0_ne h2, rw0_ne h1]
    have z65 : ∀ i, rw0 (rw0 σ 64 (fun _ => 0)) 65 (fun _ => 0) 65 i = 0 := fun i => by rw [rw0_eq]
    refine ⟨(O.rw0 (by decide)).rw0 (by decide), fun k hk => ne k (by omega) (by omega), ?_, fun s i _ _ hd _ => absurd (z65 s) hd, fun _ => 0, fun s hs => ⟨by rw [rw0_ne (by decide), rw0_eq, nI_0], Nat.zero_le _, fun _ => rfl, fun hd => absurd (z65 s) hd⟩⟩
    have e : cnt (fun i => ¬ rw0 (rw0 σ 64 (fun _ => 0)) 65 (fun _ => 0) 65 i = 0) 16 ≤ cnt (fun _ => False) 16 := cnt_mono 16 (fun i _ hi => hi (z65 i))
    have e2 : ∀ n, cnt (fun _ => False) n = 0 := fun n => by
      induction n with
      | zero => rfl
      | succ n ih => unfold cnt; rw [ih, if_neg (fun h => h)]
    rw [e2] at e
    omega
  have := inv_loop (fun k (q : MS × Int32) => u_X11_bestSet_13 Γ post a1 k q.1 q.2) (fun j q => bxJ Tm Γ σ PL j q.1 ∧ q.2 = nI j) 16 (by
    rintro ⟨τ, v⟩ ⟨J, rfl⟩
    obtain ⟨O', hlo, hc, _, G, hF⟩ := (show bxJ Tm Γ σ PL 16 τ from J)
    have all := cnt_full hc
    have hG : gOk σ PL G := fun s hs => ⟨by have := (hF s hs).2.1; omega, ((hF s hs).2.2.2 (all s hs)).1, ((hF s hs).2.2.2 (all s hs)).2⟩
    show u_X11_bestSet_13 Γ post a1 1 τ (nI 16)
    unfold u_X11_bestSet_13
    exact ⟨fun _ => bx_max hG (fun len f τ R h1 h2 h3 h4 h5 => h len f τ R G h1 h2 h3 hG h4 h5) O' hlo (fun s hs => (hF s hs).1), fun c => absurd (le_self (nI 16)) c⟩) (by
    rintro j k ⟨τ, v⟩ hj ⟨J, rfl⟩ ih
    obtain ⟨O', hlo, hc, hup, G, hF⟩ := (show bxJ Tm Γ σ PL j τ from J)
    have h7 := hlo 7 (by decide)
    have h8 := hlo 8 (by decide)
    have h9 := hlo 9 (by decide)
    have nx : ∀ τ', bxJ Tm Γ σ PL (j + 1) τ' → u_X11_bestSet_13 Γ post a1 k τ' (nI (j + 1)) := fun τ' J' => ih (τ', nI (j + 1)) ⟨J', rfl⟩
    show u_X11_bestSet_13 Γ post a1 (k + 1) τ (nI j)
    unfold u_X11_bestSet_13
    refine ⟨fun c => absurd (show nI 16 ≤ nI j from c) (nI_ge hj (by decide)), fun _ => bx_pick (by omega) (fun s hs h65 hlate => ?_)⟩
    have lats : ∀ i, i < 16 → lat σ s i → ¬ τ 65 i = 0 := fun i hi hl h0 => hlate i hi h0 (by unfold lat at *; rw [h8]; exact hl)
    have ne : ∀ k, k ≠ 65 → up2 τ 65 s (vp_nar .boolean 1) k = τ k := fun k hk => funext (fun i => up2_at (Or.inl hk))
    have d1 : ∀ i, ¬ τ 65 i = 0 → ¬ up2 τ 65 s (vp_nar .boolean 1) 65 i = 0 := fun i hi => by
      by_cases z : i = s
      · rw [z, up2_same]; exact one
      · rw [up2_at (Or.inr z)]; exact hi
    have d2 : ∀ i, i ≠ s → up2 τ 65 s (vp_nar .boolean 1) 65 i = τ 65 i := fun i hi => up2_at (Or.inr hi)
    have ds : ¬ up2 τ 65 s (vp_nar .boolean 1) 65 s = 0 := by rw [up2_same]; exact one
    have hc1 : cnt (fun i => ¬ up2 τ 65 s (vp_nar .boolean 1) 65 i = 0) 16 = j + 1 := by
      have a1 := cnt_add (P := fun i => ¬ τ 65 i = 0) (Q := fun i => ¬ up2 τ 65 s (vp_nar .boolean 1) 65 i = 0) (m := s) 16 (fun i _ hi => by
        by_cases z : i = s
        · exact Or.inr z
        · rw [up2_at (Or.inr z)] at hi; exact Or.inl hi)
      have a2 := cnt_lt (P := fun i => ¬ τ 65 i = 0) (Q := fun i => ¬ up2 τ 65 s (vp_nar .boolean 1) 65 i = 0) 16 (fun i _ hi => d1 i hi) ⟨s, hs, fun z => z h65, ds⟩
      omega
    have hup1 : ∀ u i, u < 16 → i < 16 → ¬ up2 τ 65 s (vp_nar .boolean 1) 65 u = 0 → lat σ u i → ¬ up2 τ 65 s (vp_nar .boolean 1) 65 i = 0 := fun u i hu hi hd hl => by
      by_cases z : u = s
      · subst z; exact d1 i (lats i hi hl)
      · rw [d2 u z] at hd; exact d1 i (hup u i hu hi hd hl)
    have Fs : G s = 0 := (hF s hs).2.2.1 h65
    -- no done one has s behind it
    have nos : ∀ u, u < 16 → ¬ τ 65 u = 0 → ¬ bhP σ u s := fun u hu hd hb => hup u s hu hs hd hb.1 h65
    have O1 : rOk Tm Γ (up2 τ 65 s (vp_nar .boolean 1)) := O'.up (by unfold rPr; omega)
    refine hkn _ s _ hs (fun k hk => by rw [ne k (by omega)]; exact hlo k hk) O1 (fun hp => ?_) (fun hp => ?_)
    · rw [mrg_self, nI_1]
      refine ⟨fun z => absurd z (by decide), fun _ => bx_in (F := G) hs (fun n hn => ?_) (fun r hmx hr => ?_)⟩
      · rw [ne 64 (by decide)]
        exact ⟨(hF n hn).1, by have := (hF n hn).2.1; omega⟩
      · rw [nI_1]
        have sb : ∀ n, bhP (up2 τ 65 s (vp_nar .boolean 1)) s n = bhP σ s n := fun n => bhP_same (by rw [ne 7 (by decide)]; exact h7) (by rw [ne 8 (by decide)]; exact h8)
        obtain ⟨m, hm2, hm9, em⟩ := O.min hs
        have em1 : up2 τ 65 s (vp_nar .boolean 1) 9 s = nI m := by rw [ne 9 (by decide), h9]; exact em
        rw [em1, nI_add]
        have hrB : r ≤ 9 * j := by
          rcases hr with e | ⟨n, hn, _, e, _⟩
          · omega
          · rw [← e]; exact (hF n hn).2.1
        have ne2 : ∀ k, k ≠ 64 → up2 (up2 τ 65 s (vp_nar .boolean 1)) 64 s (nI (m + r)) k = up2 τ 65 s (vp_nar .boolean 1) k := fun k hk => funext (fun i => up2_at (Or.inl hk))
        obtain ⟨G', hG'⟩ : ∃ G' : Nat → Nat, G' = fun i => if i = s then m + r else G i := ⟨_, rfl⟩
        have gs : G' s = m + r := by rw [hG']; exact if_pos rfl
        have gn : ∀ i, i ≠ s → G' i = G i := fun i hi => by rw [hG']; exact if_neg hi
        refine nx (up2 (up2 τ 65 s (vp_nar .boolean 1)) 64 s (nI (m + r))) ⟨O1.up (by unfold rPr; omega), fun k hk => by rw [ne2 k (by omega), ne k (by omega)]; exact hlo k hk, by rw [ne2 65 (by decide)]; exact hc1, by rw [ne2 65 (by decide)]; exact hup1, G', fun u hu => ?_⟩
        rw [ne2 65 (by decide)]
        by_cases z : u = s
        · subst z
          rw [gs, up2_same]
          refine ⟨rfl, by omega, fun z => absurd z ds, fun _ => ⟨fun z => absurd hp z, fun _ => ⟨m, r, em, hm2, rfl, fun n hn hb => ?_, ?_⟩⟩⟩
          · have hnu : n ≠ u := fun e => lat_irrefl (e ▸ hb.1)
            rw [gn n hnu]
            exact hmx n hn (by rw [sb]; exact hb)
          · rcases hr with e | ⟨n, hn, hb, e, _⟩
            · exact Or.inl e
            · rw [sb] at hb
              have hnu : n ≠ u := fun e => lat_irrefl (e ▸ hb.1)
              exact Or.inr ⟨n, hn, hb, by rw [gn n hnu]; exact e⟩
        · rw [gn u z, up2_at (Or.inr z), ne 64 (by decide), d2 u z]
          refine ⟨(hF u hu).1, by have := (hF u hu).2.1; omega, (hF u hu).2.2.1, fun hd => ⟨((hF u hu).2.2.2 hd).1, fun hpu => ?_⟩⟩
          obtain ⟨m', r', e1, e2, e3, e4, e5⟩ := ((hF u hu).2.2.2 hd).2 hpu
          refine ⟨m', r', e1, e2, e3, fun n hn hb => ?_, ?_⟩
          · rw [gn n (fun e => nos u hu hd (e ▸ hb))]; exact e4 n hn hb
          · rcases e5 with e | ⟨n, hn, hb, e⟩
            · exact Or.inl e
            · exact Or.inr ⟨n, hn, hb, by rw [gn n (fun e => nos u hu hd (e ▸ hb))]; exact e⟩
    · rw [mrg_self, nI_1]
      refine ⟨fun _ => nx (up2 τ 65 s (vp_nar .boolean 1)) ⟨O1, fun k hk => by rw [ne k (by omega)]; exact hlo k hk, hc1, hup1, G, fun u hu => ?_⟩, fun z => absurd rfl z⟩
      rw [ne 64 (by decide)]
      refine ⟨(hF u hu).1, by have := (hF u hu).2.1; omega, fun h0 => ?_, fun hd => ?_⟩
      · by_cases z : u = s
        · subst z; exact Fs
        · rw [d2 u z] at h0; exact (hF u hu).2.2.1 h0
      · by_cases z : u = s
        · subst z; exact ⟨fun _ => Fs, fun hpu => absurd hpu hp⟩
        · rw [d2 u z] at hd; exact (hF u hu).2.2.2 hd) 0 (by omega) (_, 0) ⟨J0, nI_0.symm⟩
  exact this
end BEST2
