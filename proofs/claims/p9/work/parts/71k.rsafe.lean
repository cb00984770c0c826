/-! THE REFERENCE IS SAFE: the best set -/
section RSAFE11
variable {Tm : MS} {Γ : RG} {σ τ ρ : MS} {a a0 a1 a2 a3 a4 b c : Int32}
theorem bs_max {post : Nat → (Nat → Int32) → MS → Prop} {F : Nat → Nat} (h : ∀ len f τ, (∀ k, k < 64 → τ k = ρ k) → rOk Tm Γ τ → len ≤ 16 → (∀ i, i < len → ∃ s, s < 16 ∧ f i = nI s) → post len f τ)
    (O : rOk Tm Γ τ) (hlo : ∀ k, k < 64 → τ k = ρ k) (hF : bestF ρ τ F) : ∃ k, u_X11_bestSet_186 Γ post a1 k τ 0 0 := by
  have := inv_loop (fun k (q : Int32 × Int32) => u_X11_bestSet_186 Γ post a1 k τ q.1 q.2) (fun j q => q.2 = nI j ∧ ∃ L, q.1 = nI L ∧ (L = 0 ∨ ∃ s, s < 16 ∧ F s = L)) 16 (by
    rintro ⟨x, v⟩ ⟨rfl, L, rfl, hL⟩
    show u_X11_bestSet_186 Γ post a1 1 τ (nI L) (nI 16)
    unfold u_X11_bestSet_186
    refine ⟨fun _ => ⟨L + 1, ?_⟩, fun c => absurd (le_self (nI 16)) c⟩
    have ne : ∀ k, k ≠ 66 → rw0 τ 66 (fun _ => 0) k = τ k := fun k hk => rw0_ne hk
    refine bs_out (ρ := ρ) (F := F) h L L (Nat.le_refl _) (rw0 τ 66 (fun _ => 0)) 0 (-1) (fun _ => True) (O.rw0 (by decide)) (fun k hk => by rw [ne k (by omega)]; exact hlo k hk) (fun s hs => by rw [ne 64 (by decide)]; exact hF s hs) (fun i hi => absurd hi (by omega)) (Or.inl ⟨rfl, fun _ => trivial⟩) (by have := cnt_le (P := fun _ => True) 16; omega) ?_
    rcases hL with e | ⟨s, hs, e⟩
    · exact Or.inl e
    · exact Or.inr ⟨s, hs, e, Or.inl rfl⟩) (by
    rintro j k ⟨x, v⟩ hj ⟨rfl, L, rfl, hL⟩ ih
    have cj : (nI j).toNatClampNeg = j := nI_clamp (by omega)
    show u_X11_bestSet_186 Γ post a1 (k + 1) τ (nI L) (nI j)
    unfold u_X11_bestSet_186
    rw [cj, (hF j hj).1, nI_1 j]
    refine ⟨fun c => absurd (show nI 16 ≤ nI j from c) (nI_ge hj (by decide)), fun _ => ⟨vp_in_nI hj (by decide), ?_⟩⟩
    by_cases c : nI L < nI (F j)
    · rw [if_pos c]; exact ih (nI (F j), nI (j + 1)) ⟨rfl, F j, rfl, Or.inr ⟨j, hj, rfl⟩⟩
    · rw [if_neg c]; exact ih (nI L, nI (j + 1)) ⟨rfl, L, rfl, hL⟩) 0 (by omega) (0, 0) ⟨nI_0.symm, 0, nI_0.symm, Or.inl rfl⟩
  exact this
/-- j songs are done; those that are not have nothing -/
def bsJ (Tm : MS) (Γ : RG) (ρ : MS) (j : Nat) (τ : MS) : Prop := rOk Tm Γ τ ∧ (∀ k, k < 64 → τ k = ρ k) ∧ cnt (fun i => ¬ τ 65 i = 0) 16 ≤ j ∧ ∃ F : Nat → Nat, ∀ s, s < 16 → τ 64 s = nI (F s) ∧ F s ≤ 9 * j ∧ (F s = 0 ∨ (¬ τ 65 s = 0 ∧ ∃ m r, ρ 9 s = nI m ∧ 2 ≤ m ∧ F s = m + r ∧ (r = 0 ∨ ∃ n, n < 16 ∧ bhP ρ s n ∧ ¬ τ 65 n = 0 ∧ F n = r)))
theorem sf_bestSetF {post : Nat → (Nat → Int32) → MS → Prop} (O : rOk Tm Γ σ) (h : ∀ len f τ, (∀ k, k < 64 → τ k = σ k) → rOk Tm Γ τ → len ≤ 16 → (∀ i, i < len → ∃ s, s < 16 ∧ f i = nI s) → post len f τ) : w_X11_bestSet Γ post σ a1 := by
  unfold w_X11_bestSet
  have one : ¬ vp_nar .boolean 1 = 0 := by decide
  have J0 : bsJ Tm Γ σ 0 (rw0 (rw0 σ 64 (fun _ => 0)) 65 (fun _ => 0)) := by
    have ne : ∀ k, k ≠ 64 → k ≠ 65 → rw0 (rw0 σ 64 (fun _ => 0)) 65 (fun _ => 0) k = σ k := fun k h1 h2 => by rw [rw0_ne h2, rw0_ne h1]
    refine ⟨(O.rw0 (by decide)).rw0 (by decide), fun k hk => ne k (by omega) (by omega), ?_, fun _ => 0, fun s hs => ⟨by rw [rw0_ne (by decide), rw0_eq, nI_0], Nat.zero_le _, Or.inl rfl⟩⟩
    have e : cnt (fun i => ¬ rw0 (rw0 σ 64 (fun _ => 0)) 65 (fun _ => 0) 65 i = 0) 16 ≤ cnt (fun _ => False) 16 := cnt_mono 16 (fun i _ hi => hi (by rw [rw0_eq]))
    have e2 : ∀ n, cnt (fun _ => False) n = 0 := fun n => by
      induction n with
      | zero => rfl
      | succ n ih => unfold cnt; rw [ih, if_neg (fun h => h)]
    rw [e2] at e
    exact e
  have := inv_loop (fun k (q : MS × Int32) => u_X11_bestSet_13 Γ post a1 k q.1 q.2) (fun j q => bsJ Tm Γ σ j q.1 ∧ q.2 = nI j) 16 (by
    rintro ⟨τ, v⟩ ⟨J, rfl⟩
    obtain ⟨O', hlo, _, F, hF⟩ := (show bsJ Tm Γ σ 16 τ from J)
    show u_X11_bestSet_13 Γ post a1 1 τ (nI 16)
    unfold u_X11_bestSet_13
    refine ⟨fun _ => bs_max (ρ := σ) (F := F) h O' hlo (fun s hs => ⟨(hF s hs).1, by have := (hF s hs).2.1; omega, ?_⟩), fun c => absurd (le_self (nI 16)) c⟩
    rcases (hF s hs).2.2 with e | ⟨_, m, r, h1, h2, h3, h4⟩
    · exact Or.inl e
    · refine Or.inr ⟨m, r, h1, h2, h3, ?_⟩
      rcases h4 with e | ⟨n, hn, hb, _, e⟩
      · exact Or.inl e
      · exact Or.inr ⟨n, hn, hb, e⟩) (by
    rintro j k ⟨τ, v⟩ hj ⟨J, rfl⟩ ih
    obtain ⟨O', hlo, hc, F, hF⟩ := (show bsJ Tm Γ σ j τ from J)
    have h7 := hlo 7 (by decide)
    have h8 := hlo 8 (by decide)
    have h9 := hlo 9 (by decide)
    have nx : ∀ τ', bsJ Tm Γ σ (j + 1) τ' → u_X11_bestSet_13 Γ post a1 k τ' (nI (j + 1)) := fun τ' J' => ih (τ', nI (j + 1)) ⟨J', rfl⟩
    show u_X11_bestSet_13 Γ post a1 (k + 1) τ (nI j)
    unfold u_X11_bestSet_13
    refine ⟨fun c => absurd (show nI 16 ≤ nI j from c) (nI_ge hj (by decide)), fun _ => bs_pick (by omega) (fun s hs h65 => ?_)⟩
    have ne : ∀ k, k ≠ 65 → up2 τ 65 s (vp_nar .boolean 1) k = τ k := fun k hk => funext (fun i => up2_at (Or.inl hk))
    have d1 : ∀ i, ¬ τ 65 i = 0 → ¬ up2 τ 65 s (vp_nar .boolean 1) 65 i = 0 := fun i hi => by
      by_cases z : i = s
      · rw [z, up2_same]; exact one
      · rw [up2_at (Or.inr z)]; exact hi
    have ds : ¬ up2 τ 65 s (vp_nar .boolean 1) 65 s = 0 := by rw [up2_same]; exact one
    have hc1 : cnt (fun i => ¬ up2 τ 65 s (vp_nar .boolean 1) 65 i = 0) 16 ≤ j + 1 := by
      have := cnt_add (P := fun i => ¬ τ 65 i = 0) (Q := fun i => ¬ up2 τ 65 s (vp_nar .boolean 1) 65 i = 0) (m := s) 16 (fun i _ hi => by
        by_cases z : i = s
        · exact Or.inr z
        · rw [up2_at (Or.inr z)] at hi; exact Or.inl hi)
      omega
    have Fs : F s = 0 := by
      rcases (hF s hs).2.2 with e | ⟨e, _⟩
      · exact e
      · exact absurd h65 e
    have O1 : rOk Tm Γ (up2 τ 65 s (vp_nar .boolean 1)) := O'.up (by unfold rPr; omega)
    refine sf_isKnown O1 (fun r => ?_)
    rw [mrg_self, nI_1]
    refine ⟨fun _ => nx (up2 τ 65 s (vp_nar .boolean 1)) ⟨O1, fun k hk => by rw [ne k (by omega)]; exact hlo k hk, hc1, F, fun s' hs' => ?_⟩, fun _ => bs_in (F := F) hs (fun n hn => ?_) (fun r hr => ?_)⟩
    · show up2 τ 65 s (vp_nar .boolean 1) 64 s' = nI (F s') ∧ _
      rw [ne 64 (by decide)]
      refine ⟨(hF s' hs').1, by have := (hF s' hs').2.1; omega, ?_⟩
      rcases (hF s' hs').2.2 with e | ⟨hd, m, r, h1, h2, h3, h4⟩
      · exact Or.inl e
      · refine Or.inr ⟨d1 _ hd, m, r, h1, h2, h3, ?_⟩
        rcases h4 with e | ⟨n, hn, hb, hd2, e⟩
        · exact Or.inl e
        · exact Or.inr ⟨n, hn, hb, d1 _ hd2, e⟩
    · rw [ne 64 (by decide)]
      exact ⟨(hF n hn).1, by have := (hF n hn).2.1; omega⟩
    · rw [nI_1]
      obtain ⟨m, hm2, hm9, em⟩ := O.min hs
      have em1 : up2 τ 65 s (vp_nar .boolean 1) 9 s = nI m := by rw [ne 9 (by decide), h9]; exact em
      rw [em1, nI_add]
      have hrB : r ≤ 9 * j := by
        rcases hr with e | ⟨n, hn, _, e, _⟩
        · omega
        · rw [← e]; exact (hF n hn).2.1
      have ne2 : ∀ k, k ≠ 64 → up2 (up2 τ 65 s (vp_nar .boolean 1)) 64 s (nI (m + r)) k = up2 τ 65 s (vp_nar .boolean 1) k := fun k hk => funext (fun i => up2_at (Or.inl hk))
      refine nx (up2 (up2 τ 65 s (vp_nar .boolean 1)) 64 s (nI (m + r))) ⟨O1.up (by unfold rPr; omega), fun k hk => by rw [ne2 k (by omega), ne k (by omega)]; exact hlo k hk, by rw [ne2 65 (by decide)]; exact hc1, fun i => if i = s then m + r else F i, fun s' hs' => ?_⟩
      show up2 (up2 τ 65 s (vp_nar .boolean 1)) 64 s (nI (m + r)) 64 s' = nI (if s' = s then m + r else F s') ∧ (if s' = s then m + r else F s') ≤ _ ∧ ((if s' = s then m + r else F s') = 0 ∨ (¬ up2 (up2 τ 65 s (vp_nar .boolean 1)) 64 s (nI (m + r)) 65 s' = 0 ∧ _))
      rw [ne2 65 (by decide)]
      by_cases z : s' = s
      · subst z
        rw [if_pos rfl, up2_same]
        refine ⟨rfl, by omega, Or.inr ⟨ds, m, r, em, hm2, if_pos rfl, ?_⟩⟩
        rcases hr with e | ⟨n, hn, hb, e, hr0⟩
        · exact Or.inl e
        · refine Or.inr ⟨n, hn, by rw [← bhP_same (σ := up2 τ 65 s' (vp_nar .boolean 1)) (by rw [ne 7 (by decide)]; exact h7) (by rw [ne 8 (by decide)]; exact h8)]; exact hb, d1 n ?_, ?_⟩
          · rcases (hF n hn).2.2 with e2 | ⟨e2, _⟩
            · exact absurd (e ▸ e2) hr0
            · exact e2
          · exact (if_neg (fun q => hr0 (by rw [← e, q]; exact Fs))).trans e
      · rw [if_neg z, up2_at (Or.inr z), ne 64 (by decide)]
        refine ⟨(hF s' hs').1, by have := (hF s' hs').2.1; omega, ?_⟩
        rcases (hF s' hs').2.2 with e | ⟨hd, m', r', h1, h2, h3, h4⟩
        · exact Or.inl e
        · refine Or.inr ⟨d1 _ hd, m', r', h1, h2, (if_neg z).trans h3, ?_⟩
          rcases h4 with e | ⟨n, hn, hb, hd2, e⟩
          · exact Or.inl e
          · exact Or.inr ⟨n, hn, hb, d1 _ hd2, (if_neg (fun q => hd2 (by rw [q]; exact h65))).trans e⟩) 0 (by omega) (_, 0) ⟨J0, nI_0.symm⟩
  exact this
theorem sf_bestSet {post : Nat → (Nat → Int32) → MS → Prop} (O : rOk Tm Γ σ) (h : ∀ len f τ, rOk Tm Γ τ → len ≤ 16 → (∀ i, i < len → ∃ s, s < 16 ∧ f i = nI s) → post len f τ) : w_X11_bestSet Γ post σ a1 := sf_bestSetF O (fun len f τ _ => h len f τ)
end RSAFE11
