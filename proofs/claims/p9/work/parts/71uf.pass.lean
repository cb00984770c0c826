/-! pass -/
theorem py_facts {x : MS} {P w : Nat} (hP : P ≤ 10) : ∀ n, n ≤ P →
    (∀ k j, ¬ (k = 0 ∧ j = 10) → ¬ (29 ≤ k ∧ k < 29 + n ∧ 5 ≤ j ∧ j ≤ 7) → pyS x w n k j = x k j) ∧
    pyS x w n 0 10 + earnI (pyS x w n) P = x 0 10 + earnI x P ∧
    hrsI (pyS x w n) P = hrsI x P + x (73 + w) 4 * nI (fb_ct (fun p => bt (x (73 + w) 8) p) n) ∧
    ∀ p, p < n → (pyS x w n (29 + p) 6 = x (29 + p) 6 + 1 ∧ pyS x w n (29 + p) 7 = x (29 + p) 7 + x (73 + w) 4) ∨ (pyS x w n (29 + p) 6 = x (29 + p) 6 ∧ pyS x w n (29 + p) 7 = x (29 + p) 7)
  | 0, _ => ⟨fun _ _ _ _ => rfl, rfl, by
      show hrsI x P = hrsI x P + x (73 + w) 4 * nI 0
      rw [nI_0, Int32.mul_zero, Int32.add_zero], fun p hp => absurd hp (by omega)⟩
  | n + 1, hn => by
    obtain ⟨a, b, c, d⟩ := py_facts (x := x) (w := w) hP n (by omega)
    have e8 : pyS x w n (73 + w) 8 = x (73 + w) 8 := a _ _ (by omega) (by omega)
    have e4 : pyS x w n (73 + w) 4 = x (73 + w) 4 := a _ _ (by omega) (by omega)
    have e6 : pyS x w n (29 + n) 6 = x (29 + n) 6 := a _ _ (by omega) (by omega)
    have e7 : pyS x w n (29 + n) 7 = x (29 + n) 7 := a _ _ (by omega) (by omega)
    have ect : fb_ct (fun p => bt (x (73 + w) 8) p) (n + 1) = fb_ct (fun p => bt (x (73 + w) 8) p) n + (if bt (x (73 + w) 8) n then 1 else 0) := fb_ct_succ _ _
    unfold pyS
    rw [e8, ect]
    generalize pyS x w n = y at a b c d e4 e6 e7
    by_cases q : bt (x (73 + w) 8) n = true
    · rw [if_pos q, q]
      have ne : ∀ k j, ¬ (k = 0 ∧ j = 10) → ¬ (k = 29 + n ∧ 5 ≤ j ∧ j ≤ 7) → wgS y w n k j = y k j := fun k j h1 h2 => by
        unfold wgS
        rw [up2_at (by omega), up2_at (by omega), up2_at (by omega), up2_at (by omega)]
      have g10 : wgS y w n 0 10 = y 0 10 - wageF y n w := by
        unfold wgS
        rw [up2_at (by omega), up2_at (by omega), up2_at (by omega), up2_same]
      have g5 : wgS y w n (29 + n) 5 = y (29 + n) 5 + wageF y n w := by
        unfold wgS
        rw [up2_at (by omega), up2_at (by omega), up2_same]
      have g6 : wgS y w n (29 + n) 6 = y (29 + n) 6 + 1 := by
        unfold wgS
        rw [up2_at (by omega), up2_same]
      have g7 : wgS y w n (29 + n) 7 = y (29 + n) 7 + y (73 + w) 4 := by
        unfold wgS
        rw [up2_same]
      generalize wgS y w n = z at ne g10 g5 g6 g7
      generalize wageF y n w = wa at g10 g5
      have s5 : earnI z P = earnI y P + (z (29 + n) 5 - y (29 + n) 5) := sumI_set (f := fun p => y (29 + p) 5) (g := fun p => z (29 + p) 5) (i := n) (fun p hp hne => ne _ _ (by omega) (by omega)) (by omega)
      have s7 : hrsI z P = hrsI y P + (z (29 + n) 7 - y (29 + n) 7) := sumI_set (f := fun p => y (29 + p) 7) (g := fun p => z (29 + p) 7) (i := n) (fun p hp hne => ne _ _ (by omega) (by omega)) (by omega)
      refine ⟨fun k j h1 h2 => (ne k j h1 (by omega)).trans (a k j h1 (by omega)), ?_, ?_, fun p hp => ?_⟩
      · rw [g10, s5, g5]
        rw [← b]
        grind
      · rw [s7, g7, c, e4]
        show _ = hrsI x P + x (73 + w) 4 * nI (fb_ct (fun p => bt (x (73 + w) 8) p) n + 1)
        rw [← nI_1]
        grind
      · by_cases e : p = n
        · subst e
          exact Or.inl ⟨by rw [g6, e6], by rw [g7, e7, e4]⟩
        · rw [ne (29 + p) 6 (by omega) (by omega), ne (29 + p) 7 (by omega) (by omega)]
          exact d p (by omega)
    · rw [if_neg q, Bool.not_eq_true] at *
      rw [q]
      refine ⟨fun k j h1 h2 => a k j h1 (by omega), b, c, fun p hp => ?_⟩
      by_cases e : p = n
      · subst e
        exact Or.inr ⟨e6, e7⟩
      · exact d p (by omega)
theorem ply_facts {y : MS} {l : Nat} (hy : ∀ k, k < l → vp_in (y 11 k) 16) : ∀ n, n ≤ l → (∀ k j, ¬ (39 ≤ k ∧ k < 55 ∧ j = 3) → plyS y n k j = y k j) ∧ ∀ s, s < 16 → ∃ m, m ≤ n ∧ plyS y n (39 + s) 3 = y (39 + s) 3 + nI m
  | 0, _ => ⟨fun _ _ _ => rfl, fun s hs => ⟨0, Nat.le_refl 0, by rw [nI_0, Int32.add_zero]; rfl⟩⟩
  | n + 1, hn => by
    obtain ⟨a, b⟩ := ply_facts hy n (by omega)
    have hi := vlt (hy n (by omega))
    unfold plyS
    generalize (y 11 n).toNatClampNeg = i at hi
    generalize plyS y n = z at a b
    refine ⟨fun k j h => by rw [up2_at (by omega)]; exact a k j h, fun s hs => ?_⟩
    obtain ⟨m, h1, h2⟩ := b s hs
    by_cases e : s = i
    · subst e
      refine ⟨m + 1, by omega, ?_⟩
      rw [up2_same, h2, ← nI_1]
      grind
    · exact ⟨m, by omega, by rw [up2_at (by omega)]; exact h2⟩
theorem In0.playd {x τ : MS} {P B W T Tl Tp w : Nat} (H : In0 x P B W T Tl Tp) (hw : w < W) (h7 : x (73 + w) 7 = 1) (hd : dayIn x 0 Tp w)
    (ne : ∀ k j, ¬ (k = 0 ∧ j = 10) → ¬ (29 ≤ k ∧ k < 39 ∧ 5 ≤ j ∧ j ≤ 7) → ¬ (39 ≤ k ∧ k < 55 ∧ j = 3) → ¬ (7 ≤ k ∧ k < 15) → ¬ (k = 73 + w ∧ j = 7) → τ k j = x k j)
    (w7 : τ (73 + w) 7 = 2) (hb : τ 0 10 + earnI τ P = x 0 10 + earnI x P)
    (hc : hrsI τ P = hrsI x P + x (73 + w) 4 * nI (fb_ct (fun p => bt (x (73 + w) 8) p) P))
    (hp : ∀ p, p < P → (τ (29 + p) 6 = x (29 + p) 6 + 1 ∧ τ (29 + p) 7 = x (29 + p) 7 + x (73 + w) 4) ∨ (τ (29 + p) 6 = x (29 + p) 6 ∧ τ (29 + p) 7 = x (29 + p) 7))
    (hs : ∀ s, s < 16 → ∃ m, m ≤ 16 ∧ τ (39 + s) 3 = x (39 + s) 3 + nI m) : In0 τ P B W T Tl Tp ∧ RlA x τ := by
  obtain ⟨O, HP, HS, H0, H1, H2, H3, H4, H5⟩ := H
  have hP := O.hP
  have hW := O.hW
  have hst : St x τ := fun k j hk => ne k j (by unfold stc at hk; omega) (by unfold stc at hk; omega) (by unfold stc at hk; omega) (by unfold stc at hk; omega) (by unfold stc at hk; omega)
  have f7 : ∀ v, v < 14 → v ≠ w → τ (73 + v) 7 = x (73 + v) 7 := fun v hv hne => ne _ _ (by omega) (by omega) (by omega) (by omega) (by omega)
  have f8 : ∀ v, v < 14 → τ (73 + v) 8 = x (73 + v) 8 := fun v hv => ne _ _ (by omega) (by omega) (by omega) (by omega) (by omega)
  have f9 : ∀ v, v < 14 → τ (73 + v) 9 = x (73 + v) 9 := fun v hv => ne _ _ (by omega) (by omega) (by omega) (by omega) (by omega)
  have f11 : ∀ v, v < 14 → τ (73 + v) 11 = x (73 + v) 11 := fun v hv => ne _ _ (by omega) (by omega) (by omega) (by omega) (by omega)
  obtain ⟨q1, q2, q3⟩ := (H1 w hw).fixed h7
  have en : nPl τ W = nPl x W + 1 := by
    have h := fb_ct_upd (fun v => decide (x (73 + v) 7 = 2)) true (i := w) (n := W) hw
    have e1 : decide (x (73 + w) 7 = 2) = false := by rw [h7]; decide
    have e2 : nPl τ W = fb_ct (fun v => if v = w then true else decide (x (73 + v) 7 = 2)) W := by
      unfold nPl
      refine fb_ct_cong (fun v hv => ?_)
      by_cases e : v = w
      · subst e
        rw [if_pos rfl, w7]
        decide
      · rw [if_neg e, f7 v (by omega) e]
    rw [e2]
    unfold nPl
    rw [e1] at h
    simpa using h
  have hnp : nPl x W ≤ 14 := Nat.le_trans (fb_ct_le _ _) hW
  obtain ⟨ln, l1, l2, e4⟩ : ∃ ln, 1 ≤ ln ∧ ln ≤ 6 ∧ x (73 + w) 4 = nI ln := by
    obtain ⟨_, a, b, _, _, b1, b2, _, _, e⟩ := HS.2.2.2 w hw
    exact ⟨b, b1, b2, e⟩
  refine ⟨⟨O.st hst (ne _ _ (by omega) (by omega) (by omega) (by omega) (by omega)), fun v hv => by rw [f8 v hv]; exact HP v hv, HS.st O hst, fun v h1 h2 => ?_, fun v hv => ?_, fun a b ha hb2 hne a1 a2 a3 => ?_, ?_, ?_, fun p hp2 => ?_, fun s hs2 => ?_⟩, fun v hv => ⟨?_, f9 v hv⟩, fun s hs2 => ?_⟩
  · rw [f7 v h2 (by omega), f8 v h2, f9 v h2, f11 v h2]
    exact H0 v h1 h2
  · by_cases e : v = w
    · subst e
      refine Or.inr (Or.inr (Or.inl ⟨w7, hd.st (by omega) hst, ?_, by rw [f9 v (by omega)]; exact q3⟩))
      rw [f8 v (by omega)]
      exact q2.st O (by omega) hst
    · exact (H1 v hv).st O (by omega) hst (f7 v (by omega) e) (f8 v (by omega)) (f9 v (by omega))
  · by_cases ea : a = w
    · subst ea
      rw [w7] at a1
      exact absurd a1 (by decide)
    · by_cases eb : b = w
      · subst eb
        rw [w7]
        exact ⟨by decide, by decide⟩
      · rw [f7 a (by omega) ea] at a1
        rw [hst (73 + a) 0 (by unfold stc; omega), hst (73 + b) 0 (by unfold stc; omega)] at a2
        rw [hst (73 + a) 1 (by unfold stc; omega), hst (73 + b) 1 (by unfold stc; omega)] at a3
        rw [f7 b (by omega) eb]
        exact H2 a b ha hb2 hne a1 a2 a3
  · unfold D3 at H3 ⊢
    have e : paidI τ W = paidI x W := sumI_congr (fun v hv => f11 v (by omega))
    rw [e]
    rw [H3] at hb
    grind
  · unfold D4 at H4 ⊢
    have e := sumI_set (f := hoW x) (g := hoW τ) (i := w) (n := W) (fun v hv hne => hw_at (by rw [f7 v (by omega) hne]) (fun _ => f8 v (by omega)) (hst (73 + v) 4 (by unfold stc; omega))) hw
    have e1 : hoW x w = 0 := by unfold hoW; rw [if_neg (by rw [h7]; decide)]
    have e2 : hoW τ w = x (73 + w) 4 * nI (fb_ct (fun p => bt (x (73 + w) 8) p) P) := by
      unfold hoW
      rw [if_pos w7, hst (73 + w) 4 (by unfold stc; omega), f8 w (by omega)]
      obtain ⟨s, _, s2, s3, _⟩ := q2
      rw [s3, bc_P hP s2]
    rw [e, e1, e2, hc, H4, Int32.sub_zero]
  · rw [en]
    obtain ⟨n, m, n1, n2, n3, n4, n5⟩ := H5.1 p hp2
    rcases hp p hp2 with ⟨g1, g2⟩ | ⟨g1, g2⟩
    · exact ⟨n + 1, m + ln, by rw [g1, n1, nI_1], by rw [g2, n2, e4, nI_add], by omega, by omega, by omega⟩
    · exact ⟨n, m, g1.trans n1, g2.trans n2, n3, n4, by omega⟩
  · rw [en]
    obtain ⟨n, n1, n2⟩ := H5.2 s hs2
    obtain ⟨m, m1, m2⟩ := hs s hs2
    exact ⟨n + m, by rw [m2, n1, nI_add], by omega⟩
  · by_cases e : v = w
    · subst e
      exact Or.inr (Or.inr ⟨h7, Or.inl w7⟩)
    · exact Or.inl (f7 v hv e)
  · obtain ⟨n, n1, n2⟩ := H5.2 s hs2
    obtain ⟨m, m1, m2⟩ := hs s hs2
    rw [m2, n1, nI_add, nI_clamp (by omega), nI_clamp (by omega)]
    omega
theorem in0_out {σ : MS} {P B W T Tl Tp w : Nat} (H : In0 σ P B W T Tl Tp) (hw : w < W) (h7 : σ (73 + w) 7 = 1) (hd : dayIn σ 0 Tp w) :
    In0 (outS σ w P) P B W T Tl Tp ∧ RlA σ (outS σ w P) ∧ Sp σ (outS σ w P) ∧ outS σ w P (73 + w) 7 = 2 ∧ (∀ v, v < 14 → v ≠ w → outS σ w P (73 + v) 7 = σ (73 + v) 7) ∧ St σ (outS σ w P) := by
  have O := H.1
  have hP := O.hP
  have hW := O.hW
  unfold outS outY outX
  generalize (σ (73 + w) 9 - σ (73 + w) 11) + extraF σ w P = a
  have Hx := H.paid (a := a) hw
  have hrl := RlA.paid σ w a
  have hsp := Sp.paid σ w a
  have hst0 : St σ (paidF σ w a) := (St.up (by unfold stc; omega)).tr (St.up (by unfold stc; omega))
  have px : ∀ v, v < 14 → paidF σ w a (73 + v) 7 = σ (73 + v) 7 := fun v hv => by unfold paidF; rw [up2_at (by omega), up2_at (by omega)]
  generalize paidF σ w a = x at Hx hrl hsp hst0 px
  obtain ⟨a1, a2, a3, a4⟩ := py_facts (x := x) (w := w) hP P (Nat.le_refl P)
  generalize pyS x w P = y at a1 a2 a3 a4
  have hsc := Scr.set y (y (73 + w) 8) P
  obtain ⟨l, hl, e1, e2⟩ := cho_row y (playF y (y (73 + w) 8) P)
  have e1 : setS y (y (73 + w) 8) P 10 1 = nI l := e1
  have e2 : ∀ k, k < l → vp_in (setS y (y (73 + w) 8) P 11 k) 16 := e2
  rw [e1, nI_clamp (by omega)]
  generalize setS y (y (73 + w) 8) P = z at hsc e2
  obtain ⟨b1, b2⟩ := ply_facts e2 l (Nat.le_refl l)
  generalize plyS z l = u at b1 b2
  have w7 : up2 u (73 + w) 7 2 (73 + w) 7 = 2 := up2_same
  have nu : ∀ k j, ¬ (k = 73 + w ∧ j = 7) → up2 u (73 + w) 7 2 k j = u k j := fun k j h => up2_at (by omega)
  generalize up2 u (73 + w) 7 2 = τ at w7 nu
  have ne : ∀ k j, ¬ (k = 0 ∧ j = 10) → ¬ (29 ≤ k ∧ k < 39 ∧ 5 ≤ j ∧ j ≤ 7) → ¬ (39 ≤ k ∧ k < 55 ∧ j = 3) → ¬ (7 ≤ k ∧ k < 15) → ¬ (k = 73 + w ∧ j = 7) → τ k j = x k j := fun k j h1 h2 h3 h4 h5 => by
    rw [nu k j h5, b1 k j h3, hsc k (by omega), a1 k j h1 (by omega)]
  have t0 : τ 0 10 = y 0 10 := by rw [nu _ _ (by omega), b1 _ _ (by omega), hsc 0 (by omega)]
  have tp : ∀ p j, p < P → τ (29 + p) j = y (29 + p) j := fun p j hp => by rw [nu _ _ (by omega), b1 _ _ (by omega), hsc (29 + p) (by omega)]
  obtain ⟨r1, r2⟩ := Hx.playd (τ := τ) hw (by rw [px w (by omega)]; exact h7) (hd.st (by omega) hst0) ne w7
    (by rw [t0, show earnI τ P = earnI y P from sumI_congr (fun p hp => tp p 5 hp)]; exact a2)
    (by rw [show hrsI τ P = hrsI y P from sumI_congr (fun p hp => tp p 7 hp)]; exact a3)
    (fun p hp => by rw [tp p 6 hp, tp p 7 hp]; exact a4 p hp)
    (fun s hs => by
      obtain ⟨m, m1, m2⟩ := b2 s hs
      refine ⟨m, by omega, ?_⟩
      rw [nu _ _ (by omega), m2, hsc (39 + s) (by omega), a1 _ _ (by omega) (by omega)])
  refine ⟨r1, hrl.tr r2, hsp.tr ⟨fun k h1 h2 => funext fun j => ne k j (by omega) (by omega) (by omega) (by omega) (by omega), fun v hv => ne _ _ (by omega) (by omega) (by omega) (by omega) (by omega)⟩, w7, fun v hv hne => (ne _ _ (by omega) (by omega) (by omega) (by omega) (by omega)).trans (px v hv), hst0.tr (fun k j hk => ne k j (by unfold stc at hk; omega) (by unfold stc at hk; omega) (by unfold stc at hk; omega) (by unfold stc at hk; omega) (by unfold stc at hk; omega))⟩
theorem ed_A {σ : MS} {P B W T : Nat} (H : In0 σ P B W T T (T + 1)) : ∀ n, n ≤ W → In0 (edA σ P n) P B W T T (T + 1) ∧ RlA σ (edA σ P n) ∧ Sp σ (edA σ P n) ∧ ∀ w, w < n → ¬ (edA σ P n (73 + w) 7 = 1 ∧ edA σ P n (73 + w) 1 = nI T)
  | 0, _ => ⟨H, RlA.rf σ, Sp.rf σ, fun w hw => absurd hw (by omega)⟩
  | n + 1, hn => by
    obtain ⟨h1, h2, h3, h4⟩ := ed_A H n (by omega)
    have hW := h1.1.hW
    have hT := h1.1.hT
    unfold edA
    generalize edA σ P n = y at h1 h2 h3 h4
    rw [h1.1.h9]
    by_cases c : y (73 + n) 1 = nI T ∧ y (73 + n) 7 = 1
    · rw [if_pos c]
      obtain ⟨r1, r2, r3, r4, r5, r6⟩ := in0_out h1 (w := n) (by omega) c.2 ⟨T, by omega, by omega, c.1⟩
      refine ⟨r1, h2.tr r2, h3.tr r3, fun w hw => ?_⟩
      by_cases e : w = n
      · subst e
        rw [r4]
        exact fun q => absurd q.1 (by decide)
      · rw [r5 w (by omega) e, r6 (73 + w) 1 (by unfold stc; omega)]
        exact h4 w (by omega)
    · rw [if_neg c]
      refine ⟨h1, h2, h3, fun w hw => ?_⟩
      by_cases e : w = n
      · subst e
        exact fun q => c ⟨q.2, q.1⟩
      · exact h4 w (by omega)
theorem ed_B {y : MS} {P B W T : Nat} (O : Ok y P B W T) : ∀ n, n ≤ W → Lo W y (edB y n) ∧ ∀ w, w < n → ¬ (edB y n (73 + w) 7 = 0 ∧ edB y n (73 + w) 1 = nI T)
  | 0, _ => ⟨Lo.rf W y, fun w hw => absurd hw (by omega)⟩
  | n + 1, hn => by
    obtain ⟨h1, h2⟩ := ed_B O n (by omega)
    unfold edB
    have e9 : edB y n 0 9 = nI T := (h1.1 0 9 (by omega)).trans O.h9
    generalize edB y n = z at h1 h2 e9
    rw [e9]
    by_cases c : z (73 + n) 1 = nI T ∧ z (73 + n) 7 = 0
    · rw [if_pos c]
      refine ⟨h1.tr (Lo.up (by omega) (Or.inl c.2)), fun w hw => ?_⟩
      by_cases e : w = n
      · subst e
        rw [up2_same]
        exact fun q => absurd q.1 (by decide)
      · rw [up2_at (by omega), up2_at (by omega)]
        exact h2 w (by omega)
    · rw [if_neg c]
      refine ⟨h1, fun w hw => ?_⟩
      by_cases e : w = n
      · subst e
        exact fun q => c ⟨q.2, q.1⟩
      · exact h2 w (by omega)
theorem dayIn.next {σ : MS} {T hi w : Nat} (hT : T < 2 ^ 31) (hh : hi < 2 ^ 31) (h : dayIn σ T hi w) (hn : ¬ σ (73 + w) 1 = nI T) : dayIn σ (T + 1) hi w := by
  obtain ⟨d, h1, h2, h3⟩ := h
  have : d ≠ T := fun e => hn (by rw [h3, e])
  exact ⟨d, by omega, h2, h3⟩
theorem Wd.tp {σ : MS} {P Tl Tp Tq w : Nat} (h : Tp ≤ Tq) (H : Wd σ P Tl Tp w) : Wd σ P Tl Tq w := by
  rcases H with a | a | ⟨a, ⟨d, d1, d2, d3⟩, c⟩ | a
  · exact Or.inl a
  · exact Or.inr (Or.inl a)
  · exact Or.inr (Or.inr (Or.inl ⟨a, ⟨d, d1, by omega, d3⟩, c⟩))
  · exact Or.inr (Or.inr (Or.inr a))
theorem waitL_lo {σ : MS} {W : Nat} : Lo W σ (waitL σ W) := by
  refine ⟨fun k j h => if_neg (by omega), fun w h1 h2 => if_neg (by omega), fun w hw => ?_⟩
  by_cases c : 73 ≤ 73 + w ∧ 73 + w < 73 + W ∧ σ (73 + w) 7 = 0 ∧ ¬ σ 0 9 < σ (73 + w) 6 + 5 ∧ 7 = 7
  · exact Or.inr ⟨if_pos c, Or.inl c.2.2.1⟩
  · exact Or.inl (if_neg c)
theorem inv_day {σ : MS} {P B W T : Nat} (hT : T < 365) (H : Inv σ P B W T) : Inv (dayS σ P W) P B W (T + 1) ∧ RlA σ (dayS σ P W) := by
  have H1 : In0 σ P B W T T (T + 1) := ⟨H.2.2.1, H.2.2.2.1, H.2.2.2.2.1, H.2.2.2.2.2.1, fun w hw => (H.2.2.2.2.2.2.1 w hw).tp (by omega), H.2.2.2.2.2.2.2⟩
  obtain ⟨a1, a2, a3, a4⟩ := ed_A H1 W (Nat.le_refl W)
  unfold dayS endS
  generalize edA σ P W = y at a1 a2 a3 a4
  obtain ⟨b1, b2⟩ := ed_B a1.1 W (Nat.le_refl W)
  have hW := a1.1.hW
  generalize edB y W = z at b1 b2
  have Hz := a1.lo b1
  have c1 : ∀ w, w < W → z (73 + w) 7 = 1 → ¬ z (73 + w) 1 = nI T := fun w hw h7 h1 => by
    rcases b1.2.2 w hw with e | ⟨e, _⟩
    · exact a4 w hw ⟨by rw [← e]; exact h7, by rw [← b1.1 (73 + w) 1 (by omega)]; exact h1⟩
    · rw [e] at h7; exact absurd h7 (by decide)
  have hst : St z (up2 z 0 9 (z 0 9 + 1)) := St.up (by unfold stc; omega)
  have hdy : Dy z (up2 z 0 9 (z 0 9 + 1)) := Dy.up (by unfold dyn; omega)
  have Ot := Hz.1.tomorrow hT
  have Hd := Hz.2.2.2.same Hz.1 hst hdy
  have ht : In0 (up2 z 0 9 (z 0 9 + 1)) P B W (T + 1) (T + 1) (T + 1) := by
    refine ⟨Ot, Hz.2.1.dy hdy, Hz.2.2.1.st Hz.1 hst, Hd.1, fun w hw => ?_, Hd.2.2⟩
    have e7 : up2 z 0 9 (z 0 9 + 1) (73 + w) 7 = z (73 + w) 7 := up2_at (by omega)
    have e1 : up2 z 0 9 (z 0 9 + 1) (73 + w) 1 = z (73 + w) 1 := up2_at (by omega)
    have hwd := Hd.2.1 w hw
    have d1 := c1 w hw
    have d0 := b2 w hw
    rw [← e7, ← e1] at d1
    rw [← e7, ← e1] at d0
    rcases hwd with ⟨a, b, c, d⟩ | ⟨a, b, c⟩ | a | a
    · exact Or.inl ⟨a, b, c, d.next (by omega) (by omega) (fun q => d0 ⟨a, q⟩)⟩
    · exact Or.inr (Or.inl ⟨a, b.next (by omega) (by omega) (d1 a), c⟩)
    · exact Or.inr (Or.inr (Or.inl a))
    · exact Or.inr (Or.inr (Or.inr a))
  have hwl := waitL_lo (σ := up2 z 0 9 (z 0 9 + 1)) (W := W)
  exact ⟨H.of (((a3.tr (Sp.lo b1)).tr (Sp.up (by omega))).tr (Sp.lo hwl)) (ht.lo hwl), ((a2.tr (RlA.lo b1)).tr (RlA.dy hdy)).tr (RlA.lo hwl)⟩
theorem inv_pass {σ : MS} {P B W T : Nat} (H : Inv σ P B W T) : ∀ n, T + n ≤ 365 → Inv (psS σ P W n) P B W (T + n) ∧ RlA σ (psS σ P W n)
  | 0, _ => ⟨H, RlA.rf σ⟩
  | n + 1, hn => by
    obtain ⟨h1, h2⟩ := inv_pass H n (by omega)
    obtain ⟨h3, h4⟩ := inv_day (by omega) h1
    exact ⟨h3, h2.tr h4⟩
