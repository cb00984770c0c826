/-! fix; ill -/
theorem snF_fil {σ : MS} {w P W : Nat} (hP : P ≤ 10) (h : ¬ snF σ w P W 9 3 = 0) : ∃ s, 1 ≤ s ∧ s < 2 ^ P ∧ snF σ w P W 9 0 = nI s ∧ snF σ w P W 9 1 = costsF σ (nI s) w P ∧ FilS σ P w (nI s) := by
  have hs := Scr.stg σ W
  obtain ⟨s, h1, h2, h3, h4, h5, h6⟩ := surv_fil (σ := stg σ W) (w := w) hP h
  rw [costsF_sc hs] at h4
  rw [bdOf_sc hs, hs.c55] at h5
  refine ⟨s, h1, h2, h3, h4, s, h1, h2, rfl, h5, fun p hp hb => ?_⟩
  have := h6 p hp hb
  rw [bdOf_sc hs] at this
  exact seats_sc hs this
theorem costs_ok {σ : MS} {P B W T w : Nat} {s : Int32} (O : Ok σ P B W T) (hR : RdI σ) (hS : SI σ P B W) (hw : w < W) : rg 0 63540 (costsF σ s w P) := by
  have hP := O.hP
  have hW := O.hW
  have hl : rg 0 6 (σ (73 + w) 4) := by
    obtain ⟨_, x, y, _, _, y1, y2, _, _, e⟩ := hS.2.2.2 w hw
    exact ⟨y, by omega, y2, e⟩
  exact (sum_ok (f := ifb s fun p => costF σ p w) (M := 6354) P (fun p hp => ifb_ok (s := s) (f := fun p => costF σ p w) (cost_ok hR.2 (O.home p (by omega)) (O.town w (by omega)) ((hS.1 p hp).1.wk (by omega) (Nat.le_refl _)) hl))).wk (Nat.le_refl 0) (show P * 6354 ≤ 63540 by omega)
theorem loseQ_lo {y : MS} {a W : Nat} : Lo W y (loseQ y a W) := by
  refine ⟨fun k j h => if_neg (by omega), fun w h1 h2 => if_neg (by omega), fun w hw => ?_⟩
  by_cases c : 73 ≤ 73 + w ∧ 73 + w < 73 + W ∧ 73 + w ≠ 73 + a ∧ inQ y (73 + w - 73) a = true ∧ 7 = 7
  · refine Or.inr ⟨if_pos c, Or.inl ?_⟩
    have := c.2.2.2.1
    rw [show 73 + w - 73 = w by omega] at this
    exact (of_decide_eq_true this).1
  · exact Or.inl (if_neg c)
theorem loseQ_in {y : MS} {a W b : Nat} (hb : b < W) (hne : b ≠ a) (hq : inQ y b a = true) : loseQ y a W (73 + b) 7 = 3 := if_pos ⟨by omega, by omega, by omega, by rw [show 73 + b - 73 = b by omega]; exact hq, rfl⟩
theorem Wd.asked {σ : MS} {P Tl Tp w : Nat} (H : Wd σ P Tl Tp w) (h : σ (73 + w) 7 = 0) : dayIn σ Tl 366 w := by
  rcases H with ⟨a, b, c, d⟩ | ⟨a, _⟩ | ⟨a, _⟩ | a
  · exact d
  · rw [a] at h; exact absurd h (by decide)
  · rw [a] at h; exact absurd h (by decide)
  · rw [a] at h; exact absurd h (by decide)
theorem Wd.fixed {σ : MS} {P Tl Tp w : Nat} (H : Wd σ P Tl Tp w) (h : σ (73 + w) 7 = 1) : dayIn σ Tl 366 w ∧ FilS σ P w (σ (73 + w) 8) ∧ rg 50 76298 (σ (73 + w) 9) := by
  rcases H with ⟨a, _⟩ | ⟨a, b⟩ | ⟨a, _⟩ | a
  · rw [a] at h; exact absurd h (by decide)
  · exact b
  · rw [a] at h; exact absurd h (by decide)
  · rw [a] at h; exact absurd h (by decide)
/-- an asked one becomes fixed, with none of its band and day asked or fixed -/
theorem In0.fixw {z : MS} {P B W T w : Nat} {v c : Int32} (hw : w < W) (H : In0 z P B W T T T) (h7 : z (73 + w) 7 = 0) (hv : FilS z P w v) (hc : rg 50 76298 c) (hu : ∀ b, b < W → b ≠ w → z (73 + w) 0 = z (73 + b) 0 → z (73 + w) 1 = z (73 + b) 1 → ¬ z (73 + b) 7 = 0 ∧ ¬ z (73 + b) 7 = 1) :
    In0 (up2 (up2 (up2 z (73 + w) 7 1) (73 + w) 8 v) (73 + w) 9 c) P B W T T T := by
  obtain ⟨O, HP, HS, H0, H1, H2, H3, H4, H5⟩ := H
  have hP := O.hP
  have hW := O.hW
  have hst : St z (up2 (up2 (up2 z (73 + w) 7 1) (73 + w) 8 v) (73 + w) 9 c) := ((St.up (by unfold stc; omega)).tr (St.up (by unfold stc; omega))).tr (St.up (by unfold stc; omega))
  have ne : ∀ k j, (k ≠ 73 + w ∨ (j ≠ 7 ∧ j ≠ 8 ∧ j ≠ 9)) → up2 (up2 (up2 z (73 + w) 7 1) (73 + w) 8 v) (73 + w) 9 c k j = z k j := fun k j h => by rw [up2_at (by omega), up2_at (by omega), up2_at (by omega)]
  have w7 : up2 (up2 (up2 z (73 + w) 7 1) (73 + w) 8 v) (73 + w) 9 c (73 + w) 7 = 1 := by rw [up2_at (by omega), up2_at (by omega), up2_same]
  have w8 : up2 (up2 (up2 z (73 + w) 7 1) (73 + w) 8 v) (73 + w) 9 c (73 + w) 8 = v := by rw [up2_at (by omega), up2_same]
  have w9 : up2 (up2 (up2 z (73 + w) 7 1) (73 + w) 8 v) (73 + w) 9 c (73 + w) 9 = c := up2_same
  generalize up2 (up2 (up2 z (73 + w) 7 1) (73 + w) 8 v) (73 + w) 9 c = τ at hst ne w7 w8 w9
  have i2 : ∀ b, b < W → ((τ (73 + b) 7 = 2) ↔ (z (73 + b) 7 = 2)) := fun b hb => by
    by_cases e : b = w
    · subst e
      rw [w7, h7]
      exact ⟨fun q => absurd q (by decide), fun q => absurd q (by decide)⟩
    · rw [ne _ _ (by omega)]
  have en : nPl τ W = nPl z W := by
    unfold nPl
    exact fb_ct_cong (fun b hb => decide_eq_decide.mpr (i2 b hb))
  refine ⟨O.st hst (ne _ _ (by omega)), fun b hb => ?_, HS.st O hst, fun b h1 h2 => ?_, fun b hb => ?_, fun x y hx hy hne a1 a2 a3 => ?_, ?_, ?_, fun p hp => ?_, fun s hs => ?_⟩
  · by_cases e : b = w
    · subst e
      rw [w8]
      obtain ⟨s, _, q2, q3, _⟩ := hv
      rw [q3]
      exact inP_n hP q2
    · rw [ne _ _ (by omega)]; exact HP b hb
  · rw [ne _ 7 (by omega), ne _ 8 (by omega), ne _ 9 (by omega), ne _ 11 (by omega)]
    exact H0 b h1 h2
  · by_cases e : b = w
    · subst e
      refine Or.inr (Or.inl ⟨w7, ((H1 b hb).asked h7).st (by omega) hst, ?_, by rw [w9]; exact hc⟩)
      rw [w8]
      exact hv.st O (by omega) hst
    · exact (H1 b hb).st O (by omega) hst (ne _ _ (by omega)) (ne _ _ (by omega)) (ne _ _ (by omega))
  · rw [ne (73 + x) 0 (by omega), ne (73 + y) 0 (by omega)] at a2
    rw [ne (73 + x) 1 (by omega), ne (73 + y) 1 (by omega)] at a3
    by_cases ex : x = w
    · subst ex
      rw [ne (73 + y) 7 (by omega)]
      exact hu y hy (Ne.symm hne) a2 a3
    · rw [ne (73 + x) 7 (by omega)] at a1
      by_cases ey : y = w
      · subst ey
        exact absurd a1 (hu x hx ex a2.symm a3.symm).2
      · rw [ne (73 + y) 7 (by omega)]
        exact H2 x y hx hy hne a1 a2 a3
  · unfold D3 paidI earnI
    rw [ne 0 10 (by omega), sumI_congr (f := fun w => z (73 + w) 11) (n := W) (fun w hw => ne _ _ (by omega)), sumI_congr (f := fun p => z (29 + p) 5) (n := P) (fun p hp => ne _ _ (by omega))]
    exact H3
  · unfold D4 hrsI
    rw [sumI_congr (f := fun p => z (29 + p) 7) (n := P) (fun p hp => ne _ _ (by omega)), sumI_congr (f := hoW z) (g := hoW τ) (n := W) (fun b hb => hw_at (i2 b hb) (fun q => ne _ _ (by
      by_cases e : b = w
      · subst e; rw [h7] at q; exact absurd q (by decide)
      · omega)) (ne _ _ (by omega)))]
    exact H4
  · rw [en, ne (29 + p) 6 (by omega), ne (29 + p) 7 (by omega)]
    exact H5.1 p hp
  · rw [en, ne (39 + s) 3 (by omega)]
    exact H5.2 s hs
theorem inv_fix {σ : MS} {P B W T w : Nat} (hw : w < W) (hf : isFst σ w = true) (hc : ¬ snF σ w P W 9 3 = 0) (H : Inv σ P B W T) : Inv (fixS σ w P W) P B W T ∧ Rl σ (fixS σ w P W) := by
  have O := H.2.2.1
  have hP := O.hP
  have hW := O.hW
  have hf0 := (of_decide_eq_true hf).1
  obtain ⟨s, s1, s2, e0, e1, hfil⟩ := snF_fil hP hc
  have hpr : rg 50 76298 (priceI (costsF σ (nI s) w P)) := price_ok (costs_ok O H.1 H.2.2.2.2.1 hw)
  have hsc := Scr.sn σ w P W
  have Hy := H.2.2.scr hsc
  unfold fixS
  dsimp only
  generalize snF σ w P W = y at e0 e1 hsc Hy
  have hlo : Lo W y (loseQ y w W) := loseQ_lo
  have Hz := Hy.lo hlo
  have ez9 : loseQ y w W 9 = y 9 := loseQ_k (by decide)
  have ezw : loseQ y w W (73 + w) 7 = y (73 + w) 7 := if_neg (by omega)
  have hstz : St σ (loseQ y w W) := fun k j hk => by
    rw [hlo.1 k j (by unfold stc at hk; omega), hsc k (by unfold stc at hk; omega)]
  have hu : ∀ b, b < W → b ≠ w → loseQ y w W (73 + w) 0 = loseQ y w W (73 + b) 0 → loseQ y w W (73 + w) 1 = loseQ y w W (73 + b) 1 → ¬ loseQ y w W (73 + b) 7 = 0 ∧ ¬ loseQ y w W (73 + b) 7 = 1 := fun b hb hne a1 a2 => by
    rw [hstz (73 + w) 0 (by unfold stc; omega), hstz (73 + b) 0 (by unfold stc; omega)] at a1
    rw [hstz (73 + w) 1 (by unfold stc; omega), hstz (73 + b) 1 (by unfold stc; omega)] at a2
    by_cases c : σ (73 + b) 7 = 0
    · have : inQ y b w = true := by
        rw [inQ_sc hsc]
        exact decide_eq_true ⟨c, hf0, a1.symm, a2.symm⟩
      rw [loseQ_in hb hne this]
      exact ⟨by decide, by decide⟩
    · have e7 : loseQ y w W (73 + b) 7 = 3 ∨ loseQ y w W (73 + b) 7 = σ (73 + b) 7 := by
        rcases hlo.2.2 b hb with q | ⟨q, _⟩
        · exact Or.inr (q.trans (by rw [hsc.c73]))
        · exact Or.inl q
      rcases e7 with q | q
      · rw [q]; exact ⟨by decide, by decide⟩
      · rw [q]
        refine ⟨c, fun d => ?_⟩
        exact (H.2.2.2.2.2.2.2.1 b w hb hw hne d a1.symm a2.symm).1 hf0
  have hfz : FilS (loseQ y w W) P w (nI s) := hfil.st O (by omega) hstz
  rw [ez9, e0, e1]
  have Hx := In0.fixw hw Hz (by rw [ezw, hsc.c73]; exact hf0) hfz hpr hu
  refine ⟨H.of ?_ (Hx.paid hw), ?_⟩
  · exact ((((((Sp.scr hsc).tr (Sp.lo hlo)).tr (Sp.up (by omega))).tr (Sp.up (by omega))).tr (Sp.up (by omega)))).tr (Sp.paid _ _ _)
  · have r1 : RlA σ (loseQ y w W) := (RlA.dy (Dy.scr hsc)).tr (RlA.lo hlo)
    refine ⟨fun v hv => ?_, fun t ht => ?_⟩
    · by_cases e : v = w
      · subst e
        refine Or.inr ⟨hf0, ?_⟩
        unfold paidF
        rw [up2_at (by omega), up2_at (by omega), up2_at (by omega), up2_at (by omega), up2_same]
      · refine Or.inl ?_
        have := r1.1 v hv
        unfold RA at this ⊢
        unfold paidF
        rw [up2_at (by omega), up2_at (by omega), up2_at (by omega), up2_at (by omega), up2_at (by omega), up2_at (by omega), up2_at (by omega), up2_at (by omega), up2_at (by omega), up2_at (by omega)]
        exact this
    · have := r1.2 t ht
      unfold paidF
      rw [up2_at (by omega), up2_at (by omega), up2_at (by omega), up2_at (by omega), up2_at (by omega)]
      exact this
/-! ill -/
theorem In0.put {σ : MS} {P B W T w : Nat} {v : Int32} (hw : w < W) (H : In0 σ P B W T T T) (h7 : σ (73 + w) 7 = 1) (hv : FilS σ P w v) : In0 (up2 σ (73 + w) 8 v) P B W T T T := by
  obtain ⟨O, HP, HS, H0, H1, H2, H3, H4, H5⟩ := H
  have hP := O.hP
  have hW := O.hW
  have hst : St σ (up2 σ (73 + w) 8 v) := St.up (by unfold stc; omega)
  have ne : ∀ k j, (k ≠ 73 + w ∨ j ≠ 8) → up2 σ (73 + w) 8 v k j = σ k j := fun k j h => up2_at h
  have w8 : up2 σ (73 + w) 8 v (73 + w) 8 = v := up2_same
  generalize up2 σ (73 + w) 8 v = τ at hst ne w8
  have en : nPl τ W = nPl σ W := nPl_congr (fun b hb => ne _ _ (by omega))
  refine ⟨O.st hst (ne _ _ (by omega)), fun b hb => ?_, HS.st O hst, fun b h1 h2 => ?_, fun b hb => ?_, fun x y hx hy hne a1 a2 a3 => ?_, ?_, ?_, fun p hp => ?_, fun s hs => ?_⟩
  · by_cases e : b = w
    · subst e
      rw [w8]
      obtain ⟨s, _, q2, q3, _⟩ := hv
      rw [q3]
      exact inP_n hP q2
    · rw [ne _ _ (by omega)]; exact HP b hb
  · rw [ne _ 7 (by omega), ne _ 8 (by omega), ne _ 9 (by omega), ne _ 11 (by omega)]
    exact H0 b h1 h2
  · by_cases e : b = w
    · subst e
      obtain ⟨q1, q2, q3⟩ := (H1 b hb).fixed h7
      refine Or.inr (Or.inl ⟨(ne _ _ (by omega)).trans h7, q1.st (by omega) hst, ?_, by rw [ne _ _ (by omega)]; exact q3⟩)
      rw [w8]
      exact hv.st O (by omega) hst
    · exact (H1 b hb).st O (by omega) hst (ne _ _ (by omega)) (ne _ _ (by omega)) (ne _ _ (by omega))
  · rw [ne (73 + x) 0 (by omega), ne (73 + y) 0 (by omega)] at a2
    rw [ne (73 + x) 1 (by omega), ne (73 + y) 1 (by omega)] at a3
    rw [ne (73 + x) 7 (by omega)] at a1
    rw [ne (73 + y) 7 (by omega)]
    exact H2 x y hx hy hne a1 a2 a3
  · unfold D3 paidI earnI
    rw [ne 0 10 (by omega), sumI_congr (f := fun w => σ (73 + w) 11) (n := W) (fun w hw => ne _ _ (by omega)), sumI_congr (f := fun p => σ (29 + p) 5) (n := P) (fun p hp => ne _ _ (by omega))]
    exact H3
  · unfold D4 hrsI
    rw [sumI_congr (f := fun p => σ (29 + p) 7) (n := P) (fun p hp => ne _ _ (by omega)), sumI_congr (f := hoW σ) (g := hoW τ) (n := W) (fun b hb => hw_at (by rw [ne _ _ (by omega)]) (fun q => ne _ _ (by
      by_cases e : b = w
      · subst e; rw [h7] at q; exact absurd q (by decide)
      · omega)) (ne _ _ (by omega)))]
    exact H4
  · rw [en, ne (29 + p) 6 (by omega), ne (29 + p) 7 (by omega)]
    exact H5.1 p hp
  · rw [en, ne (39 + s) 3 (by omega)]
    exact H5.2 s hs
/-- on stage stand those who were found anew, or nobody, where the player plays that day -/
theorem sw_fil {σ : MS} {P B W T p : Nat} {day : Int32} (O : Ok σ P B W T) : ∀ n, n ≤ W → (∀ j, j < n → σ (73 + j) 1 = day → fxw σ j p = true → (swS σ P W p day n).1 7 j = 0 ∨ FilS σ P j ((swS σ P W p day n).1 7 j)) ∧ ∀ j, n ≤ j → j < W → (swS σ P W p day n).1 7 j = stg σ W 7 j
  | 0, _ => ⟨fun j hj => absurd hj (by omega), fun j _ _ => rfl⟩
  | n + 1, hn => by
    have hP := O.hP
    have hW := O.hW
    obtain ⟨i1, i2⟩ := sw_fil (p := p) (day := day) O n (by omega)
    have hs := Scr.sw σ P W p day n
    unfold swS
    (try dsimp only)
    generalize swS σ P W p day n = x at i1 i2 hs
    by_cases c : x.1 (73 + n) 1 = day ∧ bt (x.1 7 n) p = true
    · rw [if_pos c]
      dsimp only
      have e7 : survF x.1 n P (freeF x.1 n W P &&& (one p ^^^ (-1))) (x.1 7 n) 7 = x.1 7 := by
        unfold survF svAll
        rw [up2_ne (by decide), sv_7]
        unfold svIn
        rw [sat_7]
        exact clear_7 _
      have hfl := surv_fil (σ := x.1) (w := n) (free := freeF x.1 n W P &&& (one p ^^^ (-1))) (had := x.1 7 n) hP
      generalize survF x.1 n P (freeF x.1 n W P &&& (one p ^^^ (-1))) (x.1 7 n) = y at e7 hfl
      refine ⟨fun j hj hd hx => ?_, fun j h1 h2 => ?_⟩
      · by_cases e : j = n
        · subst e
          rw [up2_same]
          by_cases z : y 9 3 = 0
          · rw [if_pos z]; exact Or.inl rfl
          · rw [if_neg z]
            obtain ⟨s, s1, s2, e0, _, e5, e6⟩ := hfl z
            rw [bdOf_sc hs, hs.c55] at e5
            refine Or.inr ⟨s, s1, s2, e0, e5, fun q hq hb => ?_⟩
            have := e6 q hq hb
            rw [bdOf_sc hs] at this
            exact seats_sc hs this
        · rw [up2_at (Or.inr e), e7]
          exact i1 j (by omega) hd hx
      · rw [up2_at (Or.inr (by omega)), e7]
        exact i2 j (by omega) h2
    · rw [if_neg c]
      refine ⟨fun j hj hd hx => ?_, fun j h1 h2 => i2 j (by omega) h2⟩
      by_cases e : j = n
      · subst e
        refine absurd ⟨by rw [hs.c73]; exact hd, ?_⟩ c
        unfold fxw at hx
        have hx2 := Bool.and_eq_true _ _ |>.mp hx
        rw [i2 j (Nat.le_refl _) (by omega), stg_at (by omega), if_pos (of_decide_eq_true hx2.1)]
        exact hx2.2
      · exact i1 j (by omega) hd hx
theorem illS_m {z : MS} {p : Nat} {day : Int32} : ∀ n m, n ≤ m → m < 14 → illS z p day n (73 + m) = z (73 + m)
  | 0, _, _, _ => rfl
  | n + 1, m, h, h2 => by
    have ih := illS_m (z := z) (p := p) (day := day) n m (by omega) h2
    unfold illS
    split
    · rw [← ih]
      generalize illS z p day n = y
      unfold putF paidF
      split
      · rw [up2_ne (by omega), up2_ne (by omega), up2_ne (by omega)]
      · rw [up2_ne (by omega)]
    · exact ih
theorem in0_ill {z : MS} {P B W T p : Nat} {day : Int32} (H : In0 z P B W T T T) (hs : ∀ j, j < W → z (73 + j) 1 = day → fxw z j p = true → z 7 j = 0 ∨ FilS z P j (z 7 j)) : ∀ n, n ≤ W → In0 (illS z p day n) P B W T T T ∧ RlA z (illS z p day n) ∧ Sp z (illS z p day n) ∧ St z (illS z p day n)
  | 0, _ => ⟨H, RlA.rf z, Sp.rf z, St.rf z⟩
  | n + 1, hn => by
    have hW := H.1.hW
    obtain ⟨h1, h2, h3, h4⟩ := in0_ill H hs n (by omega)
    have em := illS_m (z := z) (p := p) (day := day) n n (Nat.le_refl n) (by omega)
    have e7 := illS_7 (σ := z) (p := p) (day := day) n
    unfold illS
    split
    · rename_i c
      generalize illS z p day n = y at h1 h2 h3 h4 em e7 c
      have cx : fxw z n p = true := by
        have := c.2
        unfold fxw at this ⊢
        rw [em] at this
        exact this
      have c7 : y (73 + n) 7 = 1 := by
        have := c.2
        unfold fxw at this
        exact of_decide_eq_true (Bool.and_eq_true _ _ |>.mp this).1
      have hh := hs n (by omega) (by rw [← em]; exact c.1) cx
      unfold putF
      rw [e7]
      by_cases d : z 7 n = 0
      · rw [if_pos d]
        have hl : Lo W y (up2 y (73 + n) 7 3) := Lo.up (by omega) (Or.inr c7)
        exact ⟨(h1.lo hl).paid (by omega), (h2.tr (RlA.lo hl)).tr (RlA.paid _ _ _), (h3.tr (Sp.lo hl)).tr (Sp.paid _ _ _), (h4.tr (St.up (by unfold stc; omega))).tr ((St.up (by unfold stc; omega)).tr (St.up (by unfold stc; omega)))⟩
      · rw [if_neg d]
        have hf : FilS y P n (z 7 n) := (hh.elim (fun q => absurd q d) id).st H.1 (by omega) h4
        refine ⟨h1.put (by omega) c7 hf, h2.tr (RlA.at (fun v hv => up2_at (by omega)) (fun v hv => up2_at (by omega)) (fun s hs => up2_at (by omega))), h3.tr (Sp.up (by omega)), h4.tr (St.up (by unfold stc; omega))⟩
    · exact ⟨h1, h2, h3, h4⟩
theorem inv_ill {σ : MS} {P B W T p d : Nat} (H : Inv σ P B W T) : Inv (illS (offS σ P W p d) p (nI d) W) P B W T ∧ RlA σ (illS (offS σ P W p d) p (nI d) W) := by
  have O := H.2.2.1
  have hs := Scr.sw σ P W p (nI d) W
  have hf := (sw_fil (p := p) (day := nI d) O W (Nat.le_refl W)).1
  have Hx := H.2.2.scr hs
  unfold offS
  generalize (swS σ P W p (nI d) W).1 = x at hs hf Hx
  have hst : St x (up2 x 6 d (x 6 d ||| one p)) := St.up (by unfold stc; omega)
  have hdy : Dy x (up2 x 6 d (x 6 d ||| one p)) := Dy.up (by unfold dyn; omega)
  have Hz := Hx.same hst hdy (up2_at (by omega))
  have hsz : St σ (up2 x 6 d (x 6 d ||| one p)) := (St.scr hs).tr hst
  obtain ⟨h1, h2, h3, h4⟩ := in0_ill (p := p) (day := nI d) Hz (fun j hj hd hx => by
    have hW := O.hW
    rw [up2_at (by omega)] at hd
    rw [up2_at (by omega)]
    have hx2 : fxw σ j p = true := by
      unfold fxw at hx ⊢
      rw [up2_at (by omega), up2_at (by omega), hs.c73] at hx
      exact hx
    rw [hs.c73] at hd
    rcases hf j hj hd hx2 with q | q
    · exact Or.inl q
    · exact Or.inr (q.st O (by omega) hsz)) W (Nat.le_refl W)
  exact ⟨H.of (((Sp.scr hs).tr (Sp.up (by omega))).tr h3) h1, ((RlA.dy (Dy.scr hs)).tr (RlA.dy hdy)).tr h2⟩
