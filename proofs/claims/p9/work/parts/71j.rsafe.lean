/-! THE REFERENCE IS SAFE: the best set made from the songs' numbers -/
section RSAFE10
variable {Tm : MS} {Γ : RG} {σ τ ρ : MS} {a a0 a1 a2 a3 a4 b c : Int32}
/-- each song's number is nothing, or its minutes and a number of one that is behind it -/
def bestF (ρ τ : MS) (F : Nat → Nat) : Prop := ∀ s, s < 16 → τ 64 s = nI (F s) ∧ F s ≤ 144 ∧ (F s = 0 ∨ ∃ m r, ρ 9 s = nI m ∧ 2 ≤ m ∧ F s = m + r ∧ (r = 0 ∨ ∃ n, n < 16 ∧ bhP ρ s n ∧ F n = r))
theorem bs_out {post : Nat → (Nat → Int32) → MS → Prop} {F : Nat → Nat} (h : ∀ len f τ, (∀ k, k < 64 → τ k = ρ k) → rOk Tm Γ τ → len ≤ 16 → (∀ i, i < len → ∃ s, s < 16 ∧ f i = nI s) → post len f τ) :
    ∀ d L : Nat, L ≤ d → ∀ (τ : MS) (many : Nat) (v7 : Int32) (LL : Nat → Prop), rOk Tm Γ τ → (∀ k, k < 64 → τ k = ρ k) → bestF ρ τ F → (∀ i, i < many → ∃ s, s < 16 ∧ τ 66 i = nI s) →
      ((v7 = -1 ∧ ∀ i, LL i) ∨ ∃ l, l < 16 ∧ v7 = nI l ∧ ∀ i, LL i ↔ lat ρ l i) → many + cnt LL 16 ≤ 16 → (L = 0 ∨ ∃ s, s < 16 ∧ F s = L ∧ (v7 = -1 ∨ ∃ l, l < 16 ∧ v7 = nI l ∧ bhP ρ l s)) → u_X11_bestSet_222 Γ post a1 (d + 1) τ (nI L) (nI many) v7 := by
  intro d
  induction d with
  | zero =>
    intro L hL τ many v7 LL O hlo hF hm hv hc hx
    have h7 := hlo 7 (by decide)
    have h8 := hlo 8 (by decide)
    have h9 := hlo 9 (by decide)
    obtain rfl : L = 0 := by omega
    have cm : (nI many).toNatClampNeg = many := nI_clamp (by omega)
    unfold u_X11_bestSet_222
    rw [cm]
    refine ⟨fun _ => ⟨many, rfl, by omega, ⟨nI_pos (by omega), by omega, by omega⟩, h _ _ _ (fun k hk => by rw [rw0_ne (by omega), rw0_ne (by omega)]; exact hlo k hk) ((O.rw0 (by decide)).rw0 (by decide)) (by omega) (fun i hi => ?_)⟩, fun c => absurd (le_self (nI 0)) c⟩
    rw [rw0_eq, rw0_ne (by decide)]
    obtain ⟨s, hs, e⟩ := hm i hi
    refine ⟨s, hs, ?_⟩
    unfold va_cpy
    rw [if_pos (by omega)]
    simpa using e
  | succ d ih =>
    intro L hL τ many v7 LL O hlo hF hm hv hc hx
    have h7 := hlo 7 (by decide)
    have h8 := hlo 8 (by decide)
    have h9 := hlo 9 (by decide)
    have cm : (nI many).toNatClampNeg = many := nI_clamp (by omega)
    unfold u_X11_bestSet_222
    rw [cm]
    refine ⟨fun _ => ⟨many, rfl, by omega, ⟨nI_pos (by omega), by omega, by omega⟩, h _ _ _ (fun k hk => by rw [rw0_ne (by omega), rw0_ne (by omega)]; exact hlo k hk) ((O.rw0 (by decide)).rw0 (by decide)) (by omega) (fun i hi => ?_)⟩, fun hL0 => ?_⟩
    · rw [rw0_eq, rw0_ne (by decide)]
      obtain ⟨s, hs, e⟩ := hm i hi
      refine ⟨s, hs, ?_⟩
      unfold va_cpy
      rw [if_pos (by omega)]
      simpa using e
    have hLp : ¬ L = 0 := fun e => hL0 (by rw [e]; exact le_self _)
    have hLs : L < 2 ^ 31 := by
      rcases hx with e | ⟨s, hs, e, _⟩
      · omega
      · have := (hF s hs).2.1; omega
    have d262 : ∀ j, j < 16 → F j = L → (v7 = -1 ∨ ∃ l, l < 16 ∧ v7 = nI l ∧ bhP ρ l j) → u_X11_bestSet_262 Γ post a1 (fun σ w0 w1 w2 => u_X11_bestSet_222 Γ post a1 (d + 1) σ w0 w1 w2) τ (nI L) (nI many) (nI j) := by
      intro j hj hFj hl
      have cj : (nI j).toNatClampNeg = j := nI_clamp (by omega)
      obtain ⟨m, r, em, hm2, er, hr⟩ := (hF j hj).2.2.resolve_left (by omega)
      have hLj : LL j := by
        rcases hv with ⟨_, hv⟩ | ⟨l, hl16, e, hv⟩
        · exact hv j
        · rcases hl with e2 | ⟨l2, hl2, e2, hb⟩
          · have := nI_pos (n := l) (by omega)
            rw [← e, e2] at this
            exact absurd (by decide) this
          · obtain rfl : l = l2 := (nI_eq (by omega) (by omega)).mp (e.symm.trans e2)
            exact (hv j).mpr hb.1
      have hcn : cnt (fun i => lat ρ j i) 16 + 1 ≤ cnt LL 16 := by
        refine cnt_lt 16 (fun i _ hi => ?_) ⟨j, hj, lat_irrefl, hLj⟩
        rcases hv with ⟨_, hv⟩ | ⟨l, hl16, e, hv⟩
        · exact hv i
        · exact (hv i).mpr (lat_trans ((hv j).mp hLj) hi)
      have hmn : many < 16 := by omega
      unfold u_X11_bestSet_262
      rw [cm, cj]
      refine ⟨vp_in_nI hmn (by decide), vp_in_nI hj (by decide), ?_⟩
      have e9 : up2 τ 66 many (nI j) 9 j = nI m := by rw [up2_at (Or.inl (by decide)), h9]; exact em
      have eL : nI L - nI m = nI r := by
        rw [← hFj, er, ← nI_add]
        grind
      show u_X11_bestSet_222 Γ post a1 (d + 1) (up2 τ 66 many (nI j)) (nI L - up2 τ 66 many (nI j) 9 j) (nI many + 1) (nI j)
      rw [e9, eL, nI_1]
      have ne : ∀ k, k ≠ 66 → up2 τ 66 many (nI j) k = τ k := fun k hk => funext (fun i => up2_at (Or.inl hk))
      refine ih r (by omega) _ (many + 1) (nI j) (fun i => lat ρ j i) (O.up (by unfold rPr; omega)) (fun k hk => by rw [ne k (by omega)]; exact hlo k hk) (fun s hs => by rw [ne 64 (by decide)]; exact hF s hs) (fun i hi => ?_) (Or.inr ⟨j, hj, rfl, fun i => Iff.rfl⟩) (by omega) ?_
      · rcases Nat.eq_or_lt_of_le (Nat.le_of_lt_succ hi) with z | z
        · rw [z, up2_same]; exact ⟨j, hj, rfl⟩
        · rw [up2_at (Or.inr (by omega))]; exact hm i z
      · rcases hr with hr | ⟨n, hn, hb, e⟩
        · exact Or.inl hr
        · exact Or.inr ⟨n, hn, e, Or.inr ⟨j, hj, rfl, hb⟩⟩
    obtain ⟨s, hs, es, hsv⟩ := hx.resolve_left hLp
    have := inv_loop (fun k (v : Int32) => u_X11_bestSet_230 Γ post a1 (fun σ w0 w1 w2 => u_X11_bestSet_222 Γ post a1 (d + 1) σ w0 w1 w2) k τ (nI L) (nI many) v7 v) (fun j v => v = nI j) s (by
      rintro _ rfl
      show u_X11_bestSet_230 Γ post a1 _ 1 τ (nI L) (nI many) v7 (nI s)
      unfold u_X11_bestSet_230
      have cs : (nI s).toNatClampNeg = s := nI_clamp (by omega)
      rw [cs]
      refine ⟨vp_in_nI hs (by decide), fun _ => ⟨fun e => d262 s hs es (Or.inl e), fun c => ?_⟩, fun c => absurd (by rw [(hF s hs).1, es]) c⟩
      obtain ⟨l, hl, el, hb⟩ := hsv.resolve_left c
      refine sf_bh hl hs el rfl (fun _ => ?_) (fun z => absurd (by rw [bhP_same h7 h8]; exact hb) z)
      rw [mrg_self]
      exact ⟨fun z => absurd z (by decide), fun _ => d262 s hs es (Or.inr ⟨l, hl, el, hb⟩)⟩) (by
      rintro j k _ hj rfl ih2
      have nx : u_X11_bestSet_230 Γ post a1 (fun σ w0 w1 w2 => u_X11_bestSet_222 Γ post a1 (d + 1) σ w0 w1 w2) k τ (nI L) (nI many) v7 (nI j + 1) := ih2 _ (nI_1 j)
      show u_X11_bestSet_230 Γ post a1 _ (k + 1) τ (nI L) (nI many) v7 (nI j)
      unfold u_X11_bestSet_230
      have cj : (nI j).toNatClampNeg = j := nI_clamp (by omega)
      rw [cj]
      refine ⟨vp_in_nI (by omega) (by decide), fun e => ?_, fun _ => nx⟩
      have eF : F j = L := (nI_eq (by have := (hF j (by omega)).2.1; omega) hLs).mp ((hF j (by omega)).1.symm.trans e)
      refine ⟨fun e2 => d262 j (by omega) eF (Or.inl e2), fun c => ?_⟩
      obtain ⟨l, hl, el⟩ : ∃ l, l < 16 ∧ v7 = nI l := by
        rcases hsv with e2 | ⟨l, hl, el, _⟩
        · exact absurd e2 c
        · exact ⟨l, hl, el⟩
      refine sf_bh hl (show j < 16 by omega) el rfl (fun hb => ?_) (fun _ => ?_)
      · rw [mrg_self]
        exact ⟨fun z => absurd z (by decide), fun _ => d262 j (by omega) eF (Or.inr ⟨l, hl, el, by rw [← bhP_same h7 h8]; exact hb⟩)⟩
      · rw [mrg_self]
        exact ⟨fun _ => nx, fun z => absurd rfl z⟩) 0 (by omega) 0 nI_0.symm
    exact this
end RSAFE10
