/-! THE BEST SET, EXACTLY: what a best set is; the reference's is one -/
section BEST
variable {Tm : MS} {Γ : RG} {σ τ ρ : MS} {a a0 a1 a2 a3 a4 b c : Int32}
/-- k can follow the one that is last (any, if there is none) -/
def cB (ρ : MS) (last : Option Nat) (k : Nat) : Prop := match last with
  | none => True
  | some l => bhP ρ l k
/-- the most minutes from each song on -/
def gOk (ρ : MS) (PL : Nat → Prop) (G : Nat → Nat) : Prop := ∀ s, s < 16 → G s ≤ 144 ∧ (¬ PL s → G s = 0) ∧ (PL s → ∃ m r, ρ 9 s = nI m ∧ 2 ≤ m ∧ G s = m + r ∧ (∀ n, n < 16 → bhP ρ s n → G n ≤ r) ∧ (r = 0 ∨ ∃ n, n < 16 ∧ bhP ρ s n ∧ G n = r))
/-- the one to take next -/
def BN (ρ : MS) (PL : Nat → Prop) (G : Nat → Nat) (last : Option Nat) (j : Nat) : Prop := j < 16 ∧ PL j ∧ cB ρ last j ∧ ∀ k, k < 16 → PL k → cB ρ last k → G k < G j ∨ (G k = G j ∧ j ≤ k)
def lastO (R : Nat → Nat) (i : Nat) : Option Nat := if i = 0 then none else some (R (i - 1))
/-- a row that is the best -/
def rwOk (ρ : MS) (PL : Nat → Prop) (G : Nat → Nat) (len : Nat) (R : Nat → Nat) : Prop := (∀ i, i < len → BN ρ PL G (lastO R i) (R i)) ∧ ∀ k, k < 16 → PL k → ¬ cB ρ (lastO R len) k
theorem BN.uniq {PL : Nat → Prop} {G : Nat → Nat} {l : Option Nat} {i j : Nat} (h1 : BN ρ PL G l i) (h2 : BN ρ PL G l j) : i = j := by
  have a := h1.2.2.2 j h2.1 h2.2.1 h2.2.2.1
  have b := h2.2.2.2 i h1.1 h1.2.1 h1.2.2.1
  omega
theorem rwOk.eq {PL : Nat → Prop} {G : Nat → Nat} {n1 n2 : Nat} {R1 R2 : Nat → Nat} (h1 : rwOk ρ PL G n1 R1) (h2 : rwOk ρ PL G n2 R2) : n1 = n2 ∧ ∀ i, i < n1 → R1 i = R2 i := by
  have key : ∀ i, i < n1 → i < n2 → R1 i = R2 i := by
    intro i
    induction i with
    | zero => intro a b; exact (h1.1 0 a).uniq (h2.1 0 b)
    | succ i ih =>
      intro a b
      have e := ih (by omega) (by omega)
      have x := h1.1 (i + 1) a
      have y := h2.1 (i + 1) b
      have l1 : lastO R1 (i + 1) = some (R1 i) := if_neg (by omega)
      have l2 : lastO R2 (i + 1) = some (R2 i) := if_neg (by omega)
      rw [l1] at x
      rw [l2, ← e] at y
      exact x.uniq y
  have last : ∀ m, m ≤ n1 → m ≤ n2 → lastO R1 m = lastO R2 m := fun m a b => by
    unfold lastO
    by_cases z : m = 0
    · rw [if_pos z, if_pos z]
    · rw [if_neg z, if_neg z, key (m - 1) (by omega) (by omega)]
  have e : n1 = n2 := by
    rcases Nat.lt_trichotomy n1 n2 with d | d | d
    · have x := h2.1 n1 d
      rw [← last n1 (Nat.le_refl _) (by omega)] at x
      exact absurd x.2.2.1 (h1.2 _ x.1 x.2.1)
    · exact d
    · have x := h1.1 n2 d
      rw [last n2 (by omega) (Nat.le_refl _)] at x
      exact absurd x.2.2.1 (h2.2 _ x.1 x.2.1)
  exact ⟨e, fun i hi => key i hi (by omega)⟩
/-- a sum along a row of numbers -/
def rwSum (f : Nat → Int32) (R : Nat → Nat) : Nat → Int32
  | 0 => 0
  | n + 1 => rwSum f R n + f (R n)
theorem bx_in {post : Nat → (Nat → Int32) → MS → Prop} {K13 : MS → Int32 → Prop} {v4 : Int32} {s : Nat} {F : Nat → Nat} (hs : s < 16) (hF : ∀ n, n < 16 → τ 64 n = nI (F n) ∧ F n ≤ 144)
    (hK : ∀ r, (∀ n, n < 16 → bhP τ s n → F n ≤ r) → (r = 0 ∨ ∃ n, n < 16 ∧ bhP τ s n ∧ F n = r ∧ ¬ r = 0) → K13 (up2 τ 64 s (τ 9 s + nI r)) (v4 + 1)) : ∃ k, u_X11_bestSet_121 Γ post a1 K13 k τ v4 (nI s) 0 0 := by
  have cs : (nI s).toNatClampNeg = s := nI_clamp (by omega)
  have vs : vp_in (nI s) 16 := vp_in_nI hs (by decide)
  have := inv_loop (fun k (q : Int32 × Int32) => u_X11_bestSet_121 Γ post a1 K13 k τ v4 (nI s) q.1 q.2) (fun j q => q.2 = nI j ∧ ∃ r, q.1 = nI r ∧ r ≤ 144 ∧ (∀ n, n < j → bhP τ s n → F n ≤ r) ∧ (r = 0 ∨ ∃ n, n < 16 ∧ bhP τ s n ∧ F n = r ∧ ¬ r = 0)) 16 (by
    rintro ⟨x, v⟩ ⟨rfl, r, rfl, _, hm, hr⟩
    show u_X11_bestSet_121 Γ post a1 K13 1 τ v4 (nI s) (nI r) (nI 16)
    unfold u_X11_bestSet_121
    rw [cs]
    exact ⟨fun _ => ⟨vs, vs, hK r hm hr⟩, fun c => absurd (le_self (nI 16)) c⟩) (by
    rintro j k ⟨x, v⟩ hj ⟨rfl, r, rfl, hrb, hm, hr⟩ ih
    have cj : (nI j).toNatClampNeg = j := nI_clamp (by omega)
    have vj : vp_in (nI j) 16 := vp_in_nI hj (by decide)
    have nx : (bhP τ s j → F j ≤ r) → u_X11_bestSet_121 Γ post a1 K13 k τ v4 (nI s) (nI r) (nI j + 1) := fun hjr => by
      rw [nI_1]
      refine ih (nI r, nI (j + 1)) ⟨rfl, r, rfl, hrb, fun n hn hb => ?_, hr⟩
      rcases Nat.eq_or_lt_of_le (Nat.le_of_lt_succ hn) with z | z
      · subst z; exact hjr hb
      · exact hm n z hb
    have hFj := hF j hj
    show u_X11_bestSet_121 Γ post a1 K13 (k + 1) τ v4 (nI s) (nI r) (nI j)
    unfold u_X11_bestSet_121
    refine ⟨fun c => absurd (show nI 16 ≤ nI j from c) (nI_ge hj (by decide)), fun _ => ⟨vj, fun c => nx (fun _ => ?_), fun c => sf_bh hs hj rfl rfl (fun hb => ?_) (fun hb => ?_)⟩⟩
    · rw [cj, hFj.1] at c
      rcases Nat.lt_or_ge r (F j) with d | d
      · exact absurd c (nI_ge d (by omega))
      · exact d
    · have lt : r < F j := by
        rw [cj, hFj.1] at c
        rcases Nat.lt_or_ge r (F j) with d | d
        · exact d
        · exact absurd (nI_le' d (by omega)) c
      rw [mrg_self, cj]
      refine ⟨fun z => absurd z (by decide), fun _ => ⟨vj, ?_⟩⟩
      rw [hFj.1, nI_1 j]
      refine ih (nI (F j), nI (j + 1)) ⟨rfl, F j, rfl, hFj.2, fun n hn hb2 => ?_, Or.inr ⟨j, hj, hb, rfl, by omega⟩⟩
      rcases Nat.eq_or_lt_of_le (Nat.le_of_lt_succ hn) with z | z
      · subst z; exact Nat.le_refl _
      · have := hm n z hb2; omega
    · rw [mrg_self]
      exact ⟨fun _ => nx (fun z => absurd z hb), fun z => absurd rfl z⟩) 0 (by omega) (0, 0) ⟨nI_0.symm, 0, nI_0.symm, by omega, fun n hn => absurd hn (Nat.not_lt_zero _), Or.inl rfl⟩
  exact this
theorem bx_pick {post : Nat → (Nat → Int32) → MS → Prop} {K13 : MS → Int32 → Prop} {v4 : Int32} (hd : cnt (fun i => ¬ τ 65 i = 0) 16 < 16)
    (hK : ∀ s, s < 16 → τ 65 s = 0 → (∀ i, i < 16 → τ 65 i = 0 → ¬ lat τ s i) → w_X11_isKnown Γ (fun r19 σ18 => ((r19 = 0 → K13 (mrg σ18 (up2 τ 65 s (vp_nar .boolean 1))) (v4 + 1)) ∧ (¬ r19 = 0 → (∃ k, u_X11_bestSet_121 Γ post a1 K13 k (mrg σ18 (up2 τ 65 s (vp_nar .boolean 1))) v4 (nI s) 0 0)))) (up2 τ 65 s (vp_nar .boolean 1)) a1 (nI s)) : ∃ k, u_X11_bestSet_26 Γ post a1 K13 k τ v4 (-1) 0 := by
  have := inv_loop (fun k (q : Int32 × Int32) => u_X11_bestSet_26 Γ post a1 K13 k τ v4 q.1 q.2) (fun j q => q.2 = nI j ∧ ((q.1 = -1 ∧ ∀ i, i < j → ¬ τ 65 i = 0) ∨ ∃ s, s < j ∧ q.1 = nI s ∧ τ 65 s = 0 ∧ ∀ i, i < j → τ 65 i = 0 → ¬ lat τ s i)) 16 (by
    rintro ⟨x, v⟩ ⟨rfl, hx⟩
    rcases hx with ⟨_, hx⟩ | ⟨s, hs, rfl, h65, hl⟩
    · exact absurd (cnt_all 16 hx) (by omega)
    · have cs : (nI s).toNatClampNeg = s := nI_clamp (by omega)
      show u_X11_bestSet_26 Γ post a1 K13 1 τ v4 (nI s) (nI 16)
      unfold u_X11_bestSet_26
      rw [cs]
      exact ⟨fun _ => ⟨vp_in_nI hs (by decide), hK s hs h65 hl⟩, fun c => absurd (le_self (nI 16)) c⟩) (by
    rintro j k ⟨x, v⟩ hj ⟨rfl, hx⟩ ih
    have hx : (x = -1 ∧ ∀ i, i < j → ¬ τ 65 i = 0) ∨ ∃ s, s < j ∧ x = nI s ∧ τ 65 s = 0 ∧ ∀ i, i < j → τ 65 i = 0 → ¬ lat τ s i := hx
    have cj : (nI j).toNatClampNeg = j := nI_clamp (by omega)
    have vj : vp_in (nI j) 16 := vp_in_nI hj (by decide)
    have nj : τ 65 j = 0 → (∀ i, i < j → τ 65 i = 0 → ¬ lat τ j i) → u_X11_bestSet_26 Γ post a1 K13 k τ v4 (nI j) (nI j + 1) := fun h hl => by
      rw [nI_1]
      refine ih (nI j, nI (j + 1)) ⟨rfl, Or.inr ⟨j, by omega, rfl, h, fun i hi h65 => ?_⟩⟩
      rcases Nat.eq_or_lt_of_le (Nat.le_of_lt_succ hi) with z | z
      · subst z; exact lat_irrefl
      · exact hl i z h65
    have keep : ∀ s, s < j → x = nI s → τ 65 s = 0 → (∀ i, i < j → τ 65 i = 0 → ¬ lat τ s i) → (τ 65 j = 0 → ¬ lat τ s j) → u_X11_bestSet_26 Γ post a1 K13 k τ v4 x (nI j + 1) := fun s hs e h65 hl hn => by
      rw [nI_1]
      refine ih (x, nI (j + 1)) ⟨rfl, Or.inr ⟨s, by omega, e, h65, fun i hi hi65 => ?_⟩⟩
      rcases Nat.eq_or_lt_of_le (Nat.le_of_lt_succ hi) with z | z
      · subst z; exact hn hi65
      · exact hl i z hi65
    show u_X11_bestSet_26 Γ post a1 K13 (k + 1) τ v4 x (nI j)
    unfold u_X11_bestSet_26
    rw [cj]
    refine ⟨fun c => absurd (show nI 16 ≤ nI j from c) (nI_ge hj (by decide)), fun _ => ⟨vj, fun h => ?_, fun h => ?_⟩⟩
    · rcases hx with ⟨e, hx⟩ | ⟨s, hs, e, h65, hl⟩
      · exact ⟨fun _ => nj h (fun i hi h0 => absurd h0 (hx i hi)), fun c => absurd e c⟩
      · have cs : x.toNatClampNeg = s := by rw [e, nI_clamp (by omega)]
        have vx : vp_in x 16 := by rw [e]; exact vp_in_nI (by omega) (by decide)
        rw [cs]
        have take : (τ 8 s < τ 8 j ∨ τ 8 j = τ 8 s) → u_X11_bestSet_26 Γ post a1 K13 k τ v4 (nI j) (nI j + 1) := fun g => nj h (fun i hi h0 z => by
          refine hl i hi h0 ?_
          rcases z with z | ⟨_, z⟩
          · left
            rcases g with g | g
            · rw [Int32.lt_iff_toInt_lt] at *; omega
            · rw [← g]; exact z
          · omega)
        refine ⟨fun c => ?_, fun _ => ⟨vj, vx, fun c1 => take (Or.inl c1), fun c1 => ⟨vj, vx, fun c2 => ⟨fun c3 => ?_, fun _ => take (Or.inr c2)⟩, fun c2 => keep s hs e h65 hl (fun _ z => ?_)⟩⟩⟩
        · rw [e] at c
          exact absurd c (fun z => by
            have := nI_pos (n := s) (by omega)
            rw [z] at this
            exact this (by decide))
        · rw [e] at c3
          exact absurd c3 (nI_ge hs (by omega))
        · rcases z with z | ⟨z, _⟩
          · exact absurd z c1
          · exact c2 z
    · rcases hx with ⟨e, hx⟩ | ⟨s, hs, e, h65, hl⟩
      · rw [nI_1]
        refine ih (x, nI (j + 1)) ⟨rfl, Or.inl ⟨e, fun i hi => ?_⟩⟩
        rcases Nat.eq_or_lt_of_le (Nat.le_of_lt_succ hi) with z | z
        · rw [z]; exact h
        · exact hx i z
      · exact keep s hs e h65 hl (fun z => absurd z h)) 0 (by omega) (-1, 0) ⟨nI_0.symm, Or.inl ⟨rfl, fun i hi => absurd hi (by omega)⟩⟩
  exact this
theorem cnt_mono' {P Q : Nat → Prop} (h : ∀ i, i < 16 → P i → Q i) : cnt P 16 ≤ cnt Q 16 := cnt_mono 16 h
theorem bx_out {PL : Nat → Prop} {G : Nat → Nat} {post : Nat → (Nat → Int32) → MS → Prop} (hG : gOk ρ PL G) (h : ∀ len f τ R, (∀ k, k < 64 → τ k = ρ k) → rOk Tm Γ τ → len ≤ 16 → rwOk ρ PL G len R → (∀ i, i < len → R i < 16 ∧ f i = nI (R i)) → post len f τ) :
    ∀ d L : Nat, L ≤ d → ∀ (τ : MS) (many : Nat) (v7 : Int32) (R : Nat → Nat), rOk Tm Γ τ → (∀ k, k < 64 → τ k = ρ k) → (∀ s, s < 16 → τ 64 s = nI (G s)) → (∀ i, i < many → R i < 16 ∧ τ 66 i = nI (R i)) → (∀ i, i < many → BN ρ PL G (lastO R i) (R i)) →
      v7 = (if many = 0 then -1 else nI (R (many - 1))) → many + cnt (fun i => match lastO R many with | none => True | some l => lat ρ l i) 16 ≤ 16 → (∀ k, k < 16 → PL k → cB ρ (lastO R many) k → G k ≤ L) → (L = 0 ∨ ∃ s, s < 16 ∧ G s = L ∧ cB ρ (lastO R many) s) → u_X11_bestSet_222 Γ post a1 (d + 1) τ (nI L) (nI many) v7 := by
  intro d
  induction d with
  | zero =>
    intro L hL τ many v7 R O hlo hF hm hB hv hc hx hs
    obtain rfl : L = 0 := by omega
    have cm : (nI many).toNatClampNeg = many := nI_clamp (by omega)
    unfold u_X11_bestSet_222
    rw [cm]
    refine ⟨fun _ => ⟨many, rfl, by omega, ⟨nI_pos (by omega), by omega, by omega⟩, h _ _ _ R (fun k hk => by rw [rw0_ne (by omega), rw0_ne (by omega)]; exact hlo k hk) ((O.rw0 (by decide)).rw0 (by decide)) (by omega) ⟨hB, fun k hk hp hb => ?_⟩ (fun i hi => ⟨(hm i hi).1, ?_⟩)⟩, fun c => absurd (le_self (nI 0)) c⟩
    · have g0 := hx k hk hp hb
      obtain ⟨m, r, _, h2, h3, _⟩ := (hG k hk).2.2 hp
      omega
    · rw [rw0_eq, rw0_ne (by decide)]
      unfold va_cpy
      rw [if_pos (by omega)]
      simpa using (hm i hi).2
  | succ d ih =>
    intro L hL τ many v7 R O hlo hF hm hB hv hc hx hs
    have h7 := hlo 7 (by decide)
    have h8 := hlo 8 (by decide)
    have h9 := hlo 9 (by decide)
    have cm : (nI many).toNatClampNeg = many := nI_clamp (by omega)
    unfold u_X11_bestSet_222
    rw [cm]
    have fin0 : L = 0 → ∀ k, k < 16 → PL k → ¬ cB ρ (lastO R many) k := fun e k hk hp hb => by
      have g0 := hx k hk hp hb
      obtain ⟨m, r, _, h2, h3, _⟩ := (hG k hk).2.2 hp
      omega
    have hLs : L < 2 ^ 31 := by
      rcases hs with e | ⟨s, hs, e, _⟩
      · omega
      · have := (hG s hs).1; omega
    refine ⟨fun hle => ⟨many, rfl, by omega, ⟨nI_pos (by omega), by omega, by omega⟩, h _ _ _ R (fun k hk => by rw [rw0_ne (by omega), rw0_ne (by omega)]; exact hlo k hk) ((O.rw0 (by decide)).rw0 (by decide)) (by omega) ⟨hB, fin0 ?_⟩ (fun i hi => ⟨(hm i hi).1, ?_⟩)⟩, fun hL0 => ?_⟩
    · rcases Nat.eq_zero_or_pos L with e | e
      · exact e
      · exact absurd (show nI L ≤ nI 0 from hle) (nI_ge e hLs)
    · rw [rw0_eq, rw0_ne (by decide)]
      unfold va_cpy
      rw [if_pos (by omega)]
      simpa using (hm i hi).2
    have hLp : ¬ L = 0 := fun e => hL0 (by rw [e]; exact le_self _)
    have d262 : ∀ j, j < 16 → G j = L → cB ρ (lastO R many) j → (∀ i, i < j → ¬ (G i = L ∧ cB ρ (lastO R many) i)) → u_X11_bestSet_262 Γ post a1 (fun σ w0 w1 w2 => u_X11_bestSet_222 Γ post a1 (d + 1) σ w0 w1 w2) τ (nI L) (nI many) (nI j) := by
      intro j hj hGj hcj hfirst
      have cj : (nI j).toNatClampNeg = j := nI_clamp (by omega)
      have hPj : PL j := Classical.byContradiction fun z => hLp (hGj ▸ (hG j hj).2.1 z)
      obtain ⟨m, r, em, hm2, er, hmax, hr⟩ := (hG j hj).2.2 hPj
      have hBj : BN ρ PL G (lastO R many) j := ⟨hj, hPj, hcj, fun k hk hp hb => by
        have g := hx k hk hp hb
        rcases Nat.lt_or_ge (G k) (G j) with z | z
        · exact Or.inl z
        · refine Or.inr ⟨by omega, ?_⟩
          rcases Nat.lt_or_ge k j with y | y
          · exact absurd ⟨by omega, hb⟩ (hfirst k y)
          · exact y⟩
      have hlj : ∀ i, lat ρ j i → (match lastO R many with | none => True | some l => lat ρ l i) := fun i hi => by
        cases e : lastO R many with
        | none => trivial
        | some l =>
          rw [e] at hcj
          exact lat_trans hcj.1 hi
      have hself : (match lastO R many with | none => True | some l => lat ρ l j) := by
        cases e : lastO R many with
        | none => trivial
        | some l =>
          rw [e] at hcj
          exact hcj.1
      have hcn : cnt (fun i => lat ρ j i) 16 + 1 ≤ cnt (fun i => match lastO R many with | none => True | some l => lat ρ l i) 16 := cnt_lt 16 (fun i _ hi => hlj i hi) ⟨j, hj, lat_irrefl, hself⟩
      have hmn : many < 16 := by omega
      unfold u_X11_bestSet_262
      rw [cm, cj]
      refine ⟨vp_in_nI hmn (by decide), vp_in_nI hj (by decide), ?_⟩
      have e9 : up2 τ 66 many (nI j) 9 j = nI m := by rw [up2_at (Or.inl (by decide)), h9]; exact em
      have eL : nI L - nI m = nI r := by
        rw [← hGj, er, ← nI_add]
        grind
      show u_X11_bestSet_222 Γ post a1 (d + 1) (up2 τ 66 many (nI j)) (nI L - up2 τ 66 many (nI j) 9 j) (nI many + 1) (nI j)
      rw [e9, eL, nI_1]
      have ne : ∀ k, k ≠ 66 → up2 τ 66 many (nI j) k = τ k := fun k hk => funext (fun i => up2_at (Or.inl hk))
      obtain ⟨R', hR'⟩ : ∃ R' : Nat → Nat, R' = fun i => if i = many then j else R i := ⟨_, rfl⟩
      have rm : R' many = j := by rw [hR']; exact if_pos rfl
      have rl : ∀ i, i < many → R' i = R i := fun i hi => by rw [hR']; exact if_neg (by omega)
      have lo' : ∀ i, i ≤ many → lastO R' i = lastO R i := fun i hi => by
        unfold lastO
        by_cases z : i = 0
        · rw [if_pos z, if_pos z]
        · rw [if_neg z, if_neg z, rl (i - 1) (by omega)]
      have l1 : lastO R' (many + 1) = some j := by
        unfold lastO
        rw [if_neg (by omega), Nat.add_sub_cancel, rm]
      refine ih r (by omega) _ (many + 1) (nI j) R' (O.up (by unfold rPr; omega)) (fun k hk => by rw [ne k (by omega)]; exact hlo k hk) (fun s hs => by rw [ne 64 (by decide)]; exact hF s hs) (fun i hi => ?_) (fun i hi => ?_) ?_ ?_ ?_ ?_
      · rcases Nat.eq_or_lt_of_le (Nat.le_of_lt_succ hi) with z | z
        · rw [z, rm, up2_same]; exact ⟨hj, rfl⟩
        · rw [rl i z, up2_at (Or.inr (by omega))]; exact hm i z
      · rw [lo' i (by omega)]
        rcases Nat.eq_or_lt_of_le (Nat.le_of_lt_succ hi) with z | z
        · rw [z, rm]; exact hBj
        · rw [rl i z]; exact hB i z
      · rw [if_neg (by omega), Nat.add_sub_cancel, rm]
      · rw [l1]
        show many + 1 + cnt (fun i => lat ρ j i) 16 ≤ 16
        omega
      · rw [l1]
        exact fun k hk hp hb => hmax k hk hb
      · rw [l1]
        rcases hr with e | ⟨n, hn, hb, e⟩
        · exact Or.inl e
        · exact Or.inr ⟨n, hn, e, hb⟩
    obtain ⟨s, hs16, es, hsc⟩ := hs.resolve_left hLp
    -- the one that is last, as the code has it
    have hlast : (v7 = -1 ∧ lastO R many = none) ∨ ∃ l, l < 16 ∧ v7 = nI l ∧ lastO R many = some l := by
      unfold lastO
      by_cases z : many = 0
      · rw [if_pos z] at hv ⊢; exact Or.inl ⟨hv, rfl⟩
      · rw [if_neg z] at hv ⊢; exact Or.inr ⟨R (many - 1), (hm _ (by omega)).1, hv, rfl⟩
    have := inv_loop (fun k (v : Int32) => u_X11_bestSet_230 Γ post a1 (fun σ w0 w1 w2 => u_X11_bestSet_222 Γ post a1 (d + 1) σ w0 w1 w2) k τ (nI L) (nI many) v7 v) (fun j v => v = nI j ∧ ∀ i, i < j → ¬ (G i = L ∧ cB ρ (lastO R many) i)) s (by
      rintro _ ⟨rfl, hno⟩
      show u_X11_bestSet_230 Γ post a1 _ 1 τ (nI L) (nI many) v7 (nI s)
      unfold u_X11_bestSet_230
      have cs : (nI s).toNatClampNeg = s := nI_clamp (by omega)
      rw [cs]
      refine ⟨vp_in_nI hs16 (by decide), fun _ => ⟨fun e => d262 s hs16 es hsc hno, fun c => ?_⟩, fun c => absurd (by rw [hF s hs16, es]) c⟩
      rcases hlast with ⟨e, _⟩ | ⟨l, hl, el, e2⟩
      · exact absurd e c
      · rw [e2] at hsc
        refine sf_bh hl hs16 el rfl (fun _ => ?_) (fun z => absurd (by rw [bhP_same h7 h8]; exact hsc) z)
        rw [mrg_self]
        exact ⟨fun z => absurd z (by decide), fun _ => d262 s hs16 es (by rw [e2]; exact hsc) hno⟩) (by
      rintro j k _ hj ⟨rfl, hno⟩ ih2
      have nx : ¬ (G j = L ∧ cB ρ (lastO R many) j) → u_X11_bestSet_230 Γ post a1 (fun σ w0 w1 w2 => u_X11_bestSet_222 Γ post a1 (d + 1) σ w0 w1 w2) k τ (nI L) (nI many) v7 (nI j + 1) := fun hn => ih2 _ ⟨nI_1 j, fun i hi => by
        rcases Nat.eq_or_lt_of_le (Nat.le_of_lt_succ hi) with z | z
        · rw [z]; exact hn
        · exact hno i z⟩
      show u_X11_bestSet_230 Γ post a1 _ (k + 1) τ (nI L) (nI many) v7 (nI j)
      unfold u_X11_bestSet_230
      have cj : (nI j).toNatClampNeg = j := nI_clamp (by omega)
      rw [cj]
      refine ⟨vp_in_nI (by omega) (by decide), fun e => ?_, fun c => nx (fun z => c (by rw [hF j (by omega), z.1]))⟩
      have eF : G j = L := (nI_eq (by have := (hG j (by omega)).1; omega) hLs).mp ((hF j (by omega)).symm.trans e)
      rcases hlast with ⟨e1, e2⟩ | ⟨l, hl, el, e2⟩
      · exact ⟨fun _ => d262 j (by omega) eF (by rw [e2]; trivial) hno, fun c => absurd e1 c⟩
      · refine ⟨fun c => ?_, fun _ => sf_bh hl (show j < 16 by omega) el rfl (fun hb => ?_) (fun hb => ?_)⟩
        · rw [el] at c
          have := nI_pos (n := l) (by omega)
          rw [c] at this
          exact absurd (by decide) this
        · rw [mrg_self]
          exact ⟨fun z => absurd z (by decide), fun _ => d262 j (by omega) eF (by rw [e2]; show bhP ρ l j; rw [← bhP_same h7 h8]; exact hb) hno⟩
        · rw [mrg_self]
          refine ⟨fun _ => nx (fun z => hb ?_), fun z => absurd rfl z⟩
          have := z.2
          rw [e2] at this
          rw [bhP_same h7 h8]; exact this) 0 (by omega) 0 ⟨nI_0.symm, fun i hi => absurd hi (Nat.not_lt_zero _)⟩
    exact this
end BEST
