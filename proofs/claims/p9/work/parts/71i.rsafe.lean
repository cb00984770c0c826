/-! THE REFERENCE IS SAFE: the best set's inner loops -/
section RSAFE9
variable {Tm : MS} {Γ : RG} {σ τ ρ : MS} {a a0 a1 a2 a3 a4 b c : Int32}
theorem bs_in {post : Nat → (Nat → Int32) → MS → Prop} {K13 : MS → Int32 → Prop} {v4 : Int32} {s : Nat} {F : Nat → Nat} (hs : s < 16) (hF : ∀ n, n < 16 → τ 64 n = nI (F n) ∧ F n ≤ 144)
    (hK : ∀ r, (r = 0 ∨ ∃ n, n < 16 ∧ bhP τ s n ∧ F n = r ∧ ¬ r = 0) → K13 (up2 τ 64 s (τ 9 s + nI r)) (v4 + 1)) : ∃ k, u_X11_bestSet_121 Γ post a1 K13 k τ v4 (nI s) 0 0 := by
  have cs : (nI s).toNatClampNeg = s := nI_clamp (by omega)
  have vs : vp_in (nI s) 16 := vp_in_nI hs (by decide)
  have := inv_loop (fun k (q : Int32 × Int32) => u_X11_bestSet_121 Γ post a1 K13 k τ v4 (nI s) q.1 q.2) (fun j q => q.2 = nI j ∧ ∃ r, q.1 = nI r ∧ (r = 0 ∨ ∃ n, n < 16 ∧ bhP τ s n ∧ F n = r ∧ ¬ r = 0)) 16 (by
    rintro ⟨x, v⟩ ⟨rfl, r, rfl, hr⟩
    show u_X11_bestSet_121 Γ post a1 K13 1 τ v4 (nI s) (nI r) (nI 16)
    unfold u_X11_bestSet_121
    rw [cs]
    exact ⟨fun _ => ⟨vs, vs, hK r hr⟩, fun c => absurd (le_self (nI 16)) c⟩) (by
    rintro j k ⟨x, v⟩ hj ⟨rfl, r, rfl, hr⟩ ih
    have cj : (nI j).toNatClampNeg = j := nI_clamp (by omega)
    have vj : vp_in (nI j) 16 := vp_in_nI hj (by decide)
    have nx : u_X11_bestSet_121 Γ post a1 K13 k τ v4 (nI s) (nI r) (nI j + 1) := by rw [nI_1]; exact ih (nI r, nI (j + 1)) ⟨rfl, r, rfl, hr⟩
    show u_X11_bestSet_121 Γ post a1 K13 (k + 1) τ v4 (nI s) (nI r) (nI j)
    unfold u_X11_bestSet_121
    refine ⟨fun c => absurd (show nI 16 ≤ nI j from c) (nI_ge hj (by decide)), fun _ => ⟨vj, fun _ => nx, fun c => sf_bh hs hj rfl rfl (fun hb => ?_) (fun hb => ?_)⟩⟩
    · rw [mrg_self, cj]
      refine ⟨fun z => absurd z (by decide), fun _ => ⟨vj, ?_⟩⟩
      rw [(hF j hj).1, nI_1 j]
      refine ih (nI (F j), nI (j + 1)) ⟨rfl, F j, rfl, Or.inr ⟨j, hj, hb, rfl, fun z => ?_⟩⟩
      rw [cj, (hF j hj).1, z] at c
      refine c (nI_le' (Nat.zero_le r) ?_)
      rcases hr with hr | ⟨n, hn, _, e, _⟩
      · rw [hr]; decide
      · rw [← e]; have := (hF n hn).2; omega
    · rw [mrg_self]
      exact ⟨fun _ => nx, fun z => absurd rfl z⟩) 0 (by omega) (0, 0) ⟨nI_0.symm, 0, nI_0.symm, Or.inl rfl⟩
  exact this
theorem bs_pick {post : Nat → (Nat → Int32) → MS → Prop} {K13 : MS → Int32 → Prop} {v4 : Int32} (hd : cnt (fun i => ¬ τ 65 i = 0) 16 < 16)
    (hK : ∀ s, s < 16 → τ 65 s = 0 → w_X11_isKnown Γ (fun r19 σ18 => ((r19 = 0 → K13 (mrg σ18 (up2 τ 65 s (vp_nar .boolean 1))) (v4 + 1)) ∧ (¬ r19 = 0 → (∃ k, u_X11_bestSet_121 Γ post a1 K13 k (mrg σ18 (up2 τ 65 s (vp_nar .boolean 1))) v4 (nI s) 0 0)))) (up2 τ 65 s (vp_nar .boolean 1)) a1 (nI s)) : ∃ k, u_X11_bestSet_26 Γ post a1 K13 k τ v4 (-1) 0 := by
  have := inv_loop (fun k (q : Int32 × Int32) => u_X11_bestSet_26 Γ post a1 K13 k τ v4 q.1 q.2) (fun j q => q.2 = nI j ∧ ((q.1 = -1 ∧ ∀ i, i < j → ¬ τ 65 i = 0) ∨ ∃ s, s < 16 ∧ q.1 = nI s ∧ τ 65 s = 0)) 16 (by
    rintro ⟨x, v⟩ ⟨rfl, hx⟩
    rcases hx with ⟨_, hx⟩ | ⟨s, hs, rfl, h65⟩
    · exact absurd (cnt_all 16 hx) (by omega)
    · have cs : (nI s).toNatClampNeg = s := nI_clamp (by omega)
      show u_X11_bestSet_26 Γ post a1 K13 1 τ v4 (nI s) (nI 16)
      unfold u_X11_bestSet_26
      rw [cs]
      exact ⟨fun _ => ⟨vp_in_nI hs (by decide), hK s hs h65⟩, fun c => absurd (le_self (nI 16)) c⟩) (by
    rintro j k ⟨x, v⟩ hj ⟨rfl, hx⟩ ih
    have hx : (x = -1 ∧ ∀ i, i < j → ¬ τ 65 i = 0) ∨ ∃ s, s < 16 ∧ x = nI s ∧ τ 65 s = 0 := hx
    have cj : (nI j).toNatClampNeg = j := nI_clamp (by omega)
    have vj : vp_in (nI j) 16 := vp_in_nI hj (by decide)
    have nj : τ 65 j = 0 → u_X11_bestSet_26 Γ post a1 K13 k τ v4 (nI j) (nI j + 1) := fun h => by rw [nI_1]; exact ih (nI j, nI (j + 1)) ⟨rfl, Or.inr ⟨j, hj, rfl, h⟩⟩
    have no : (¬ x = -1 ∨ ¬ τ 65 j = 0) → u_X11_bestSet_26 Γ post a1 K13 k τ v4 x (nI j + 1) := fun h => by
      rw [nI_1]
      refine ih (x, nI (j + 1)) ⟨rfl, ?_⟩
      rcases hx with ⟨e, hx⟩ | hx
      · refine Or.inl ⟨e, fun i hi => ?_⟩
        rcases Nat.eq_or_lt_of_le (Nat.le_of_lt_succ hi) with z | z
        · rw [z]
          rcases h with h | h
          · exact absurd e h
          · exact h
        · exact hx i z
      · exact Or.inr hx
    show u_X11_bestSet_26 Γ post a1 K13 (k + 1) τ v4 x (nI j)
    unfold u_X11_bestSet_26
    rw [cj]
    refine ⟨fun c => absurd (show nI 16 ≤ nI j from c) (nI_ge hj (by decide)), fun _ => ⟨vj, fun h => ⟨fun _ => nj h, fun c => ?_⟩, fun h => no (Or.inr h)⟩⟩
    have vx : vp_in x 16 := by
      rcases hx with ⟨e, _⟩ | ⟨s, hs, e, _⟩
      · exact absurd e c
      · rw [e]; exact vp_in_nI hs (by decide)
    exact ⟨vj, vx, fun _ => nj h, fun _ => ⟨vj, vx, fun _ => ⟨fun _ => no (Or.inl c), fun _ => nj h⟩, fun _ => no (Or.inl c)⟩⟩) 0 (by omega) (-1, 0) ⟨nI_0.symm, Or.inl ⟨rfl, fun i hi => absurd hi (by omega)⟩⟩
  exact this
end RSAFE9
