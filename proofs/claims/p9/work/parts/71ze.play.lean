/-! A WEDDING PLAYED, DAYS GONE BY, ON BOTH SIDES -/
/-- the reference's money: cash, what is paid, what players earn, of the first n -/
def pgR (x : MS) (w P : Nat) : Nat → MS
  | 0 => up2 (up2 x 0 10 (x 0 10 + gainF x w P)) (73 + w) 11 (x (73 + w) 9 + extraF x w P)
  | n + 1 => if bt (pgR x w P n (73 + w) 8) n = true then up2 (pgR x w P n) (29 + n) 5 (pgR x w P n (29 + n) 5 + wageF (pgR x w P n) n w) else pgR x w P n
/-- the songs of the row played -/
def plR (y : MS) (R : Nat → Nat) : Nat → MS
  | 0 => y
  | n + 1 => up2 (plR y R n) (39 + R n) 3 (plR y R n (39 + R n) 3 + 1)
section PLAYB
variable {x y z : MS} {Γ : RG} {σ τ ρ : MS} {a a0 a1 a2 a3 a4 b : Int32} {w P B W T : Nat}
theorem playF_kn {s : Int32} {n : Nat} (h : ∀ p, p < n → y (29 + p) 1 = x (29 + p) 1) : playF y s n = playF x s n := by
  have key : ∀ m, m ≤ n → kn y s m = kn x s m := by
    intro m
    induction m with
    | zero => intro _; rfl
    | succ m ih =>
      intro hm
      unfold kn
      rw [ih (by omega), h m (by omega)]
  unfold playF
  rw [key n (Nat.le_refl n)]
/-- the best set, of a class whose songs and players know what the reference's do -/
theorem sy_bestSetY {post : Nat → (Nat → Int32) → MS → Prop} (O : rOk (tR x) Γ σ) (F : enV x) (hy : ∀ s, s < 16 → y (39 + s) 0 = x (39 + s) 0 ∧ y (39 + s) 1 = x (39 + s) 1 ∧ y (39 + s) 2 = x (39 + s) 2) (hk : ∀ p, p < Γ.1 → y (29 + p) 1 = x (29 + p) 1) (h : ∀ len f τ R, (∀ k, k < 64 → τ k = σ k) → rOk (tR x) Γ τ → len ≤ 16 → setS y a1 Γ.1 10 1 = nI len → setS y a1 Γ.1 10 2 = rwSum (fun s => x (39 + s) 2) R len → (∀ i, i < len → R i < 16 ∧ f i = nI (R i) ∧ setS y a1 Γ.1 11 i = nI (R i)) → post len f τ) : w_X11_bestSet Γ post σ a1 := by
  have ep := playF_kn (s := a1) hk
  refine sx_bestSet (PL := fun s => bt (playF y a1 Γ.1) s = true) O (fun τ s post' hs hlo O' g1 g0 => sx_isKnown O' hs (fun z => g1 (by rw [ep]; exact (kn_one O').mp z)) (fun z => g0 (fun q => z ((kn_one O').mpr (by rw [← ep]; exact q))))) (fun len f τ R G hlo O' hl hG hrw hf => ?_)
  have hs : sgV y σ := fun s hs => ⟨(hy s hs).1.trans (O.sg0 hs).symm, (hy s hs).2.1.trans (O.sg1 hs).symm, (hy s hs).2.2.trans (O.sg2 hs).symm⟩
  have F2 : enV y := fun s hs => by rw [(hy s hs).2.1]; exact F s hs
  obtain ⟨R2, n2, e0, e1, e2, e3, e4⟩ := cho_best (pb := playF y a1 Γ.1) hs F2 hG
  obtain ⟨q1, q2⟩ := hrw.eq e1
  subst q1
  refine h len f τ R hlo O' hl e3 (e4.trans ?_) (fun i hi => ⟨(hf i hi).1, (hf i hi).2, by rw [q2 i hi]; exact (e2 i hi).2⟩)
  rw [← rwSum_R len q2]
  exact rwSum_cg len (fun i hi => O.sg2 (hf i hi).1)
theorem sy_bestSet {post : Nat → (Nat → Int32) → MS → Prop} (O : rOk (tR x) Γ σ) (F : enV x) (h : ∀ len f τ R, (∀ k, k < 64 → τ k = σ k) → rOk (tR x) Γ τ → len ≤ 16 → setS x a1 Γ.1 10 1 = nI len → setS x a1 Γ.1 10 2 = rwSum (fun s => x (39 + s) 2) R len → (∀ i, i < len → R i < 16 ∧ f i = nI (R i) ∧ setS x a1 Γ.1 11 i = nI (R i)) → post len f τ) : w_X11_bestSet Γ post σ a1 := sy_bestSetY O F (fun _ _ => ⟨rfl, rfl, rfl⟩) (fun _ _ => rfl) h
theorem sy_minutesOf {post : Int32 → MS → Prop} (O : rOk (tR x) Γ σ) (F : enV x) (h : ∀ τ, rOk (tR x) Γ τ → (∀ k, k < 64 → τ k = σ k) → post (setS x a1 Γ.1 10 2) τ) : w_X11_minutesOf Γ post σ a1 := by
  unfold w_X11_minutesOf
  refine sy_bestSet O F (fun len f τ R hlo O' hl _ e2 hf => ?_)
  have O2 : rOk (tR x) Γ (rw0 (mrg τ σ) 64 f) := O'.mrg.rw0 (by decide)
  have h2 := h _ O2 (fun k hk => by rw [rw0_ne (by omega), mrg_lo hk, hlo k hk])
  rw [e2] at h2
  have := inv_loop (fun k (q : Int32 × Int32) => u_X11_minutesOf_15 Γ post a1 k (rw0 (mrg τ σ) 64 f) q.1 (nI len) q.2 len) (fun j q => q.1 = rwSum (fun s => x (39 + s) 2) R j ∧ q.2 = nI j) len (by
    rintro ⟨v, i⟩ ⟨rfl, rfl⟩
    show u_X11_minutesOf_15 Γ post a1 1 (rw0 (mrg τ σ) 64 f) _ (nI len) (nI len) len
    unfold u_X11_minutesOf_15
    exact ⟨fun _ => h2, fun c => absurd (le_self _) c⟩) (by
    rintro j k ⟨v, i⟩ hj ⟨rfl, rfl⟩ ih
    have cj : (nI j).toNatClampNeg = j := nI_clamp (by omega)
    obtain ⟨hs, es, -⟩ := hf j hj
    show u_X11_minutesOf_15 Γ post a1 (k + 1) (rw0 (mrg τ σ) 64 f) _ (nI len) (nI j) len
    unfold u_X11_minutesOf_15
    rw [cj, rw0_eq, es]
    refine ⟨fun c => absurd c (nI_ge hj (by omega)), fun _ => ⟨vp_in_nI hj (by omega), vp_in_nI hs (by decide), ?_⟩⟩
    rw [nI_1 j, nI_clamp (by omega), O2.sg2 hs]
    exact ih (_, nI (j + 1)) ⟨rfl, rfl⟩) 0 (by omega) (0, 0) ⟨rfl, nI_0.symm⟩
  exact this
/-- the class's pay, exactly -/
theorem py_ex (hh : ∀ p, p < 10 → ∃ t, t < 6 ∧ x (29 + p) 2 = nI t) : ∀ n, n ≤ 10 →
    (∀ k j, ¬ (k = 0 ∧ j = 10) → ¬ (29 ≤ k ∧ k < 29 + n ∧ 5 ≤ j ∧ j ≤ 7) → pyS x w n k j = x k j) ∧
    pyS x w n 0 10 = x 0 10 - sumI (ifb (x (73 + w) 8) fun p => wageF x p w) n ∧
    ∀ p, p < n → pyS x w n (29 + p) 5 = x (29 + p) 5 + (if bt (x (73 + w) 8) p = true then wageF x p w else 0) ∧ pyS x w n (29 + p) 6 = x (29 + p) 6 + (if bt (x (73 + w) 8) p = true then 1 else 0) ∧ pyS x w n (29 + p) 7 = x (29 + p) 7 + (if bt (x (73 + w) 8) p = true then x (73 + w) 4 else 0)
  | 0, _ => ⟨fun _ _ _ _ => rfl, by show x 0 10 = x 0 10 - 0; grind, fun p hp => absurd hp (by omega)⟩
  | n + 1, hn => by
    obtain ⟨h1, h2, h3⟩ := py_ex hh n (by omega)
    have e8 : pyS x w n (73 + w) 8 = x (73 + w) 8 := h1 _ _ (by omega) (by omega)
    have e4 : pyS x w n (73 + w) 4 = x (73 + w) 4 := h1 _ _ (by omega) (by omega)
    have e5 : pyS x w n (29 + n) 5 = x (29 + n) 5 := h1 _ _ (by omega) (by omega)
    have e6 : pyS x w n (29 + n) 6 = x (29 + n) 6 := h1 _ _ (by omega) (by omega)
    have e7 : pyS x w n (29 + n) 7 = x (29 + n) 7 := h1 _ _ (by omega) (by omega)
    have ew : wageF (pyS x w n) n w = wageF x n w := by
      obtain ⟨t, ht, et⟩ := hh n (by omega)
      unfold wageF costF quF wayF
      rw [h1 (29 + n) 2 (by omega) (by omega), h1 (29 + n) 3 (by omega) (by omega), h1 (73 + w) 2 (by omega) (by omega), h1 (73 + w) 3 (by omega) (by omega), e4, h1 (73 + w) 10 (by omega) (by omega), et, nI_clamp (by omega), h1 (23 + t) _ (by omega) (by omega)]
    have es : sumI (ifb (x (73 + w) 8) fun p => wageF x p w) (n + 1) = sumI (ifb (x (73 + w) 8) fun p => wageF x p w) n + (if bt (x (73 + w) 8) n = true then wageF x n w else 0) := rfl
    unfold pyS
    rw [e8, es]
    generalize pyS x w n = u at h1 h2 h3 e4 e5 e6 e7 ew
    by_cases q : bt (x (73 + w) 8) n = true
    · rw [if_pos q, if_pos q]
      have ne : ∀ k j, ¬ (k = 0 ∧ j = 10) → ¬ (k = 29 + n ∧ 5 ≤ j ∧ j ≤ 7) → wgS u w n k j = u k j := fun k j g1 g2 => by
        unfold wgS
        rw [up2_off (by omega), up2_off (by omega), up2_off (by omega), up2_off (by omega)]
      refine ⟨fun k j g1 g2 => (ne k j g1 (by omega)).trans (h1 k j g1 (by omega)), ?_, fun p hp => ?_⟩
      · unfold wgS
        rw [up2_off (by omega), up2_off (by omega), up2_off (by omega), up2_same, ew, h2]
        grind
      · by_cases e : p = n
        · subst e
          rw [if_pos q, if_pos q, if_pos q]
          unfold wgS
          refine ⟨?_, ?_, ?_⟩
          · rw [up2_off (by omega), up2_off (by omega), up2_same, ew, e5]
          · rw [up2_off (by omega), up2_same, e6]
          · rw [up2_same, e7, e4]
        · rw [ne _ _ (by omega) (by omega), ne _ _ (by omega) (by omega), ne _ _ (by omega) (by omega)]
          exact h3 p (by omega)
    · rw [if_neg q, if_neg q]
      refine ⟨fun k j g1 g2 => h1 k j g1 (by omega), by rw [h2]; grind, fun p hp => ?_⟩
      by_cases e : p = n
      · subst e
        rw [if_neg q, if_neg q, if_neg q, e5, e6, e7]
        exact ⟨(Int32.add_zero _).symm, (Int32.add_zero _).symm, (Int32.add_zero _).symm⟩
      · exact h3 p (by omega)
theorem pgR_ex (hh : ∀ p, p < 10 → ∃ t, t < 6 ∧ x (29 + p) 2 = nI t) : ∀ n, n ≤ 10 →
    (∀ k j, ¬ (29 ≤ k ∧ k < 29 + n ∧ j = 5) → pgR x w P n k j = pgR x w P 0 k j) ∧
    ∀ p, p < n → pgR x w P n (29 + p) 5 = x (29 + p) 5 + (if bt (x (73 + w) 8) p = true then wageF x p w else 0)
  | 0, _ => ⟨fun _ _ _ => rfl, fun p hp => absurd hp (by omega)⟩
  | n + 1, hn => by
    obtain ⟨h1, h2⟩ := pgR_ex hh n (by omega)
    have k0 : ∀ k j, ¬ (k = 0 ∧ j = 10) → ¬ (k = 73 + w ∧ j = 11) → pgR x w P 0 k j = x k j := fun k j g1 g2 => by
      show up2 (up2 x 0 10 _) (73 + w) 11 _ k j = x k j
      rw [up2_off g2, up2_off g1]
    have e8 : pgR x w P n (73 + w) 8 = x (73 + w) 8 := (h1 _ _ (by omega)).trans (k0 _ _ (by omega) (by omega))
    have e5 : pgR x w P n (29 + n) 5 = x (29 + n) 5 := (h1 _ _ (by omega)).trans (k0 _ _ (by omega) (by omega))
    have ew : wageF (pgR x w P n) n w = wageF x n w := by
      obtain ⟨t, ht, et⟩ := hh n (by omega)
      have g : ∀ k j, ¬ (k = 0 ∧ j = 10) → ¬ (k = 73 + w ∧ j = 11) → ¬ (29 ≤ k ∧ k < 29 + n ∧ j = 5) → pgR x w P n k j = x k j := fun k j g1 g2 g3 => (h1 k j g3).trans (k0 k j g1 g2)
      unfold wageF costF quF wayF
      rw [g (29 + n) 2 (by omega) (by omega) (by omega), g (29 + n) 3 (by omega) (by omega) (by omega), g (73 + w) 2 (by omega) (by omega) (by omega), g (73 + w) 3 (by omega) (by omega) (by omega), g (73 + w) 4 (by omega) (by omega) (by omega), g (73 + w) 10 (by omega) (by omega) (by omega), et, nI_clamp (by omega), g (23 + t) _ (by omega) (by omega) (by omega)]
    unfold pgR
    rw [e8]
    by_cases q : bt (x (73 + w) 8) n = true
    · rw [if_pos q]
      refine ⟨fun k j g => by rw [up2_off (by omega)]; exact h1 k j (by omega), fun p hp => ?_⟩
      by_cases e : p = n
      · subst e
        rw [up2_same, if_pos q, e5, ew]
      · rw [up2_off (by omega)]; exact h2 p (by omega)
    · rw [if_neg q]
      refine ⟨fun k j g => h1 k j (by omega), fun p hp => ?_⟩
      by_cases e : p = n
      · subst e
        rw [if_neg q, e5, Int32.add_zero]
      · exact h2 p (by omega)
/-- how often the first n of the row are the song s -/
theorem plR_k {R : Nat → Nat} {k j : Nat} (h : ∀ n, ¬ (k = 39 + R n ∧ j = 3)) : ∀ n, plR y R n k j = y k j
  | 0 => rfl
  | n + 1 => by
    unfold plR
    rw [up2_off (h n)]
    exact plR_k h n
theorem plyS_R {R : Nat → Nat} {len : Nat} (hR : ∀ i, i < len → R i < 16) (hz : ∀ i, i < len → z 11 i = nI (R i)) (h : ∀ s, s < 16 → z (39 + s) 3 = y (39 + s) 3) : ∀ n, n ≤ len → (∀ s, s < 16 → plyS z n (39 + s) 3 = plR y R n (39 + s) 3) ∧ (∀ k j, ¬ (39 ≤ k ∧ k < 55 ∧ j = 3) → plyS z n k j = z k j ∧ plR y R n k j = y k j)
  | 0, _ => ⟨h, fun _ _ _ => ⟨rfl, rfl⟩⟩
  | n + 1, hn => by
    obtain ⟨h1, h2⟩ := plyS_R hR hz h n (by omega)
    have hr := hR n (by omega)
    unfold plyS plR
    rw [hz n (by omega), nI_clamp (by omega)]
    refine ⟨fun s hs => ?_, fun k j g => ⟨?_, ?_⟩⟩
    · by_cases e : s = R n
      · rw [e, up2_same, up2_same, h1 _ hr]
      · rw [up2_off (by omega), up2_off (by omega)]; exact h1 s hs
    · rw [up2_off (by omega)]; exact (h2 k j g).1
    · rw [up2_off (by omega)]; exact (h2 k j g).2
/-- the class's wedding played is the reference's -/
theorem out_one {R : Nat → Nat} {len : Nat} (hP : P ≤ 10) (hh : ∀ p, p < 10 → ∃ t, t < 6 ∧ x (29 + p) 2 = nI t) (hlen : len ≤ 16) (hR : ∀ i, i < len → R i < 16) (hso : ∀ i, i < len → outY x w P 11 i = nI (R i)) (hlo : outY x w P 10 1 = nI len) (hw : w < 14) : ∀ a b, seen a b → outS x w P a b = up2 (plR (pgR x w P P) R len) (73 + w) 7 2 a b := by
  intro a b hs
  unfold outS
  rw [hlo, nI_clamp (by omega)]
  have hx : ∀ p, p < 10 → ∃ t, t < 6 ∧ paidF x w ((x (73 + w) 9 - x (73 + w) 11) + extraF x w P) (29 + p) 2 = nI t := fun p hp => by
    unfold paidF
    rw [up2_off (by omega), up2_off (by omega)]
    exact hh p hp
  obtain ⟨a1, a2, a3⟩ := py_ex (x := paidF x w ((x (73 + w) 9 - x (73 + w) 11) + extraF x w P)) (w := w) hx P hP
  obtain ⟨b1, b2⟩ := pgR_ex (x := x) (w := w) (P := P) hh P hP
  have e8 : paidF x w ((x (73 + w) 9 - x (73 + w) 11) + extraF x w P) (73 + w) 8 = x (73 + w) 8 := by
    unfold paidF
    rw [up2_off (by omega), up2_off (by omega)]
  have ew : ∀ p, p < 10 → wageF (paidF x w ((x (73 + w) 9 - x (73 + w) 11) + extraF x w P)) p w = wageF x p w := fun p hp => by
    obtain ⟨t, ht, et⟩ := hh p hp
    have g : ∀ k j, ¬ (k = 0 ∧ j = 10) → ¬ (k = 73 + w ∧ j = 11) → paidF x w ((x (73 + w) 9 - x (73 + w) 11) + extraF x w P) k j = x k j := fun k j g1 g2 => by
      unfold paidF
      rw [up2_off g1, up2_off g2]
    unfold wageF costF quF wayF
    rw [g (29 + p) 2 (by omega) (by omega), g (29 + p) 3 (by omega) (by omega), g (73 + w) 2 (by omega) (by omega), g (73 + w) 3 (by omega) (by omega), g (73 + w) 4 (by omega) (by omega), g (73 + w) 10 (by omega) (by omega), et, nI_clamp (by omega), g (23 + t) _ (by omega) (by omega)]
  have hsw : sumI (ifb (x (73 + w) 8) fun p => wageF (paidF x w ((x (73 + w) 9 - x (73 + w) 11) + extraF x w P)) p w) P = wagesF x w P := by
    unfold wagesF
    exact sumI_congr (fun p hp => by
      show (if bt (x (73 + w) 8) p = true then wageF (paidF x w ((x (73 + w) 9 - x (73 + w) 11) + extraF x w P)) p w else 0) = (if bt (x (73 + w) 8) p = true then wageF x p w else 0)
      rw [ew p (by omega)])
  rw [e8, hsw] at a2
  rw [e8] at a3
  -- the class's books with the set chosen
  have hyk : ∀ k, (k < 7 ∨ 15 ≤ k) → outY x w P k = outX x w P k := fun k hk => by
    unfold outY
    exact Scr.set _ _ _ k hk
  have hxe : outX x w P = pyS (paidF x w ((x (73 + w) 9 - x (73 + w) 11) + extraF x w P)) w P := rfl
  rw [← hxe] at a1 a2 a3
  have g0 : ∀ k j, ¬ (k = 0 ∧ j = 10) → ¬ (k = 73 + w ∧ j = 11) → paidF x w ((x (73 + w) 9 - x (73 + w) 11) + extraF x w P) k j = x k j := fun k j g1 g2 => by
    unfold paidF
    rw [up2_off g1, up2_off g2]
  have k0 : ∀ k j, ¬ (k = 0 ∧ j = 10) → ¬ (k = 73 + w ∧ j = 11) → pgR x w P 0 k j = x k j := fun k j g1 g2 => by
    show up2 (up2 x 0 10 _) (73 + w) 11 _ k j = x k j
    rw [up2_off g2, up2_off g1]
  have hpl := plyS_R (y := pgR x w P P) (z := outY x w P) hR hso (fun s hs => by
    rw [hyk _ (by omega), a1 _ _ (by omega) (by omega), g0 _ _ (by omega) (by omega), b1 _ _ (by omega), k0 _ _ (by omega) (by omega)]) len (Nat.le_refl _)
  by_cases z7 : a = 73 + w ∧ b = 7
  · obtain ⟨rfl, rfl⟩ := z7
    rw [up2_same, up2_same]
  rw [up2_off z7, up2_off z7]
  by_cases z3 : 39 ≤ a ∧ a < 55 ∧ b = 3
  · obtain ⟨s, rfl⟩ : ∃ s, a = 39 + s := ⟨a - 39, by omega⟩
    obtain ⟨_, h55, rfl⟩ := z3
    exact hpl.1 s (by omega)
  obtain ⟨r1, r2⟩ := hpl.2 a b z3
  rw [r1, r2, hyk a (by unfold seen at hs; omega)]
  by_cases z10 : a = 0 ∧ b = 10
  · obtain ⟨rfl, rfl⟩ := z10
    rw [a2, b1 _ _ (by omega)]
    have e1 : paidF x w ((x (73 + w) 9 - x (73 + w) 11) + extraF x w P) 0 10 = x 0 10 + ((x (73 + w) 9 - x (73 + w) 11) + extraF x w P) := by
      unfold paidF
      exact up2_same
    have e2 : pgR x w P 0 0 10 = x 0 10 + gainF x w P := by
      show up2 (up2 x 0 10 _) (73 + w) 11 _ 0 10 = _
      rw [up2_off (by omega), up2_same]
    rw [e1, e2]
    unfold gainF
    grind
  by_cases z11 : a = 73 + w ∧ b = 11
  · obtain ⟨rfl, rfl⟩ := z11
    rw [a1 _ _ (by omega) (by omega), b1 _ _ (by omega)]
    have e1 : paidF x w ((x (73 + w) 9 - x (73 + w) 11) + extraF x w P) (73 + w) 11 = x (73 + w) 11 + ((x (73 + w) 9 - x (73 + w) 11) + extraF x w P) := by
      unfold paidF
      rw [up2_off (by omega), up2_same]
    have e2 : pgR x w P 0 (73 + w) 11 = x (73 + w) 9 + extraF x w P := up2_same
    rw [e1, e2]
    grind
  by_cases z5 : 29 ≤ a ∧ a < 29 + P ∧ b = 5
  · obtain ⟨p, rfl⟩ : ∃ p, a = 29 + p := ⟨a - 29, by omega⟩
    obtain ⟨-, hp, rfl⟩ := z5
    rw [(a3 p (by omega)).1, b2 p (by omega), g0 _ _ (by omega) (by omega), ew p (by omega)]
  · rw [a1 _ _ z10 (by unfold seen at hs; omega), g0 _ _ z10 z11, b1 _ _ z5, k0 _ _ z10 z11]
theorem sy_playNow {post : MS → Prop} (O : rOk (tR x) Γ σ) (Y : Sy x) (F : enV x) (hh : ∀ p, p < 10 → ∃ t, t < 6 ∧ x (29 + p) 2 = nI t) (hw : w < Γ.2.2.1) (h : ∀ τ, rOk (tR (outS x w Γ.1)) Γ (up2 τ (33 + w) 7 2) → kp σ τ → post (up2 τ (33 + w) 7 2)) : w_X11_playNow Γ post σ w := by
  have hP := O.hP
  have hW := O.hW
  obtain ⟨b1, b2⟩ := pgR_ex (x := x) (w := w) (P := Γ.1) hh Γ.1 hP
  have k0 : ∀ k j, ¬ (k = 0 ∧ j = 10) → ¬ (k = 73 + w ∧ j = 11) → pgR x w Γ.1 0 k j = x k j := fun k j g1 g2 => by
    show up2 (up2 x 0 10 _) (73 + w) 11 _ k j = x k j
    rw [up2_off g2, up2_off g1]
  have xk : ∀ k j, ¬ (k = 0 ∧ j = 10) → ¬ (k = 73 + w ∧ j = 11) → ¬ (29 ≤ k ∧ k < 39 ∧ 5 ≤ j ∧ j ≤ 7) → outX x w Γ.1 k j = x k j := fun k j g1 g2 g3 => by
    have hx : ∀ p, p < 10 → ∃ t, t < 6 ∧ paidF x w ((x (73 + w) 9 - x (73 + w) 11) + extraF x w Γ.1) (29 + p) 2 = nI t := fun p hp => by
      unfold paidF
      rw [up2_off (by omega), up2_off (by omega)]
      exact hh p hp
    show pyS (paidF x w ((x (73 + w) 9 - x (73 + w) 11) + extraF x w Γ.1)) w Γ.1 k j = x k j
    rw [(py_ex (w := w) hx Γ.1 hP).1 k j g1 (by omega)]
    unfold paidF
    rw [up2_off g1, up2_off g2]
  -- the songs
  have d108 : ∀ (len : Nat) (f : Nat → Int32) (R : Nat → Nat) (τ : MS), len ≤ 16 → (∀ i, i < len → R i < 16 ∧ f i = nI (R i) ∧ outY x w Γ.1 11 i = nI (R i)) → outY x w Γ.1 10 1 = nI len → rOk (tR (pgR x w Γ.1 Γ.1)) Γ τ → kp σ τ → τ 64 = f → ∃ k, u_X11_playNow_108 Γ post w k τ (nI len) 0 len := by
    intro len f R τ hl hf hlo O K hτ
    have := inv_loop (fun k (q : MS × Int32) => u_X11_playNow_108 Γ post w k q.1 (nI len) q.2 len) (fun j q => (rOk (tR (plR (pgR x w Γ.1 Γ.1) R j)) Γ q.1 ∧ kp σ q.1 ∧ q.1 64 = f) ∧ q.2 = nI j) len (by
      rintro ⟨τ, v⟩ ⟨⟨O, K, e⟩, rfl⟩
      have O : rOk (tR (plR (pgR x w Γ.1 Γ.1) R len)) Γ τ := O
      show u_X11_playNow_108 Γ post w 1 τ (nI len) (nI len) len
      unfold u_X11_playNow_108
      exact ⟨fun _ => h _ (RX.cg (RX.wd (v := 2) O hw (by decide) (show 7 < 12 by decide)) (out_one hP hh hl (fun i hi => (hf i hi).1) (fun i hi => (hf i hi).2.2) hlo (by omega))) K, fun c => absurd (le_self _) c⟩) (by
      rintro j k ⟨τ, v⟩ hj ⟨⟨O, K, e⟩, rfl⟩ ih
      have O : rOk (tR (plR (pgR x w Γ.1 Γ.1) R j)) Γ τ := O
      have e : τ 64 = f := e
      have K : kp σ τ := K
      have cj : (nI j).toNatClampNeg = j := nI_clamp (by omega)
      obtain ⟨hs, es, -⟩ := hf j hj
      have nx : ∀ τ', rOk (tR (plR (pgR x w Γ.1 Γ.1) R (j + 1))) Γ τ' → kp σ τ' → τ' 64 = f → u_X11_playNow_108 Γ post w k τ' (nI len) (nI (j + 1)) len := fun τ' O' K' e' => ih (τ', nI (j + 1)) ⟨⟨O', K', e'⟩, rfl⟩
      show u_X11_playNow_108 Γ post w (k + 1) τ (nI len) (nI j) len
      unfold u_X11_playNow_108
      rw [cj, e, es]
      have vs : vp_in (nI (R j)) 16 := vp_in_nI hs (by decide)
      refine ⟨fun c => absurd c (nI_ge hj (by omega)), fun _ => ⟨vp_in_nI hj (by omega), vs, vs, ?_⟩⟩
      rw [nI_1 j, nI_clamp (by omega), O.sg3 hs]
      exact nx _ (RX.ply O hs) (K.up (by unfold kPr; omega)) (funext (fun i => (up2_at (Or.inl (show 64 ≠ 10 by decide))).trans (congrFun e i)))) 0 (by omega) (τ, 0) ⟨⟨O, K, hτ⟩, nI_0.symm⟩
    exact this
  unfold w_X11_playNow
  refine sy_gain O Y hw ?_
  rw [O.csh]
  have O1 := RX.csh (v := x 0 10 + gainF x w Γ.1) O
  have eq1 : quF (up2 x 0 10 (x 0 10 + gainF x w Γ.1)) w = quF x w := by
    unfold quF
    rw [up2_off (by omega), up2_off (by omega), up2_off (by omega)]
  refine sy_quarters O1 hw ?_
  rw [eq1, O1.wd (j := 8) hw (by decide), O1.wd (j := 9) hw (by decide), up2_off (by omega), up2_off (by omega)]
  refine sy_fees O1 ?_
  have eq2 : sumI (ifb (x (73 + w) 8) fun p => up2 x 0 10 (x 0 10 + gainF x w Γ.1) (29 + p) 3) Γ.1 = feesF x w Γ.1 := by
    unfold feesF
    exact sumI_congr (fun p hp => by
      show (if bt (x (73 + w) 8) p = true then up2 x 0 10 (x 0 10 + gainF x w Γ.1) (29 + p) 3 else 0) = (if bt (x (73 + w) 8) p = true then x (29 + p) 3 else 0)
      rw [up2_off (by omega)])
  rw [eq2]
  have O2 : rOk (tR (pgR x w Γ.1 0)) Γ (up2 (up2 σ 0 2 (x 0 10 + gainF x w Γ.1)) (33 + w) 11 (x (73 + w) 9 + quF x w * feesF x w Γ.1 / 4)) := RX.wd O1 hw (by decide) (by decide)
  have K2 : kp σ (up2 (up2 σ 0 2 (x 0 10 + gainF x w Γ.1)) (33 + w) 11 (x (73 + w) 9 + quF x w * feesF x w Γ.1 / 4)) := (kp.rfl'.up (by unfold kPr; omega)).up (by unfold kPr; omega)
  have := inv_loop (fun k (q : MS × Int32) => u_X11_playNow_40 Γ post w k q.1 q.2) (fun j q => (rOk (tR (pgR x w Γ.1 j)) Γ q.1 ∧ kp σ q.1) ∧ q.2 = nI j) Γ.1 (by
    rintro ⟨τ, v⟩ ⟨⟨O, K⟩, rfl⟩
    have O : rOk (tR (pgR x w Γ.1 Γ.1)) Γ τ := O
    have K : kp σ τ := K
    have gk : ∀ k j, ¬ (k = 0 ∧ j = 10) → ¬ (k = 73 + w ∧ j = 11) → ¬ (29 ≤ k ∧ k < 39 ∧ j = 5) → pgR x w Γ.1 Γ.1 k j = x k j := fun k j g1 g2 g3 => (b1 k j (by omega)).trans (k0 k j g1 g2)
    show u_X11_playNow_40 Γ post w 1 τ (nI Γ.1)
    unfold u_X11_playNow_40 w_lp_Jx4a65c_size_8abf5
    rw [O.p]
    dsimp only
    rw [O.wd (j := 8) hw (by decide), gk (73 + w) 8 (by omega) (by omega) (by omega)]
    refine ⟨fun _ => sy_bestSetY (y := outX x w Γ.1) O (fun s hs => ?_) (fun s hs => ?_) (fun p hp => ?_) (fun len f τ' R hlo O' hl e1 _ hf => d108 len f R _ hl (fun i hi => ⟨(hf i hi).1, (hf i hi).2.1, ?_⟩) ?_ (O'.mrg.rw0 (by decide)) ((K.low hlo).mrg.rw0 (by decide)) rw0_eq), fun c => absurd (le_self _) c⟩
    · rw [gk _ _ (by omega) (by omega) (by omega)]; exact F s hs
    · rw [xk _ _ (by omega) (by omega) (by omega), xk _ _ (by omega) (by omega) (by omega), xk _ _ (by omega) (by omega) (by omega), gk _ _ (by omega) (by omega) (by omega), gk _ _ (by omega) (by omega) (by omega), gk _ _ (by omega) (by omega) (by omega)]
      exact ⟨rfl, rfl, rfl⟩
    · rw [xk _ _ (by omega) (by omega) (by omega), gk _ _ (by omega) (by omega) (by omega)]
    · have := (hf i hi).2.2
      unfold outY
      rw [xk (73 + w) 8 (by omega) (by omega) (by omega)]
      exact this
    · unfold outY
      rw [xk (73 + w) 8 (by omega) (by omega) (by omega)]
      exact e1) (by
    rintro j k ⟨τ, v⟩ hj ⟨⟨O', K'⟩, rfl⟩ ih
    have O : rOk (tR (pgR x w Γ.1 j)) Γ τ := O'
    have K : kp σ τ := K'
    clear O' K'
    have nx : ∀ τ', rOk (tR (pgR x w Γ.1 (j + 1))) Γ τ' → kp σ τ' → u_X11_playNow_40 Γ post w k τ' (nI j + 1) := fun τ' O' K' => by rw [nI_1]; exact ih (τ', nI (j + 1)) ⟨⟨O', K'⟩, rfl⟩
    obtain ⟨c1, c2⟩ := pgR_ex (x := x) (w := w) (P := Γ.1) hh j (by omega)
    have Yj : Sy (pgR x w Γ.1 j) := fun a b ha hb => by
      rw [c1 _ _ (by omega), c1 _ _ (by omega), k0 _ _ (by omega) (by omega), k0 _ _ (by omega) (by omega)]
      exact Y a b ha hb
    unfold pgR at nx
    show u_X11_playNow_40 Γ post w (k + 1) τ (nI j)
    unfold u_X11_playNow_40 w_lp_Jx4a65c_size_8abf5
    rw [O.p]
    dsimp only
    rw [O.wd (j := 8) hw (by decide)]
    generalize pgR x w Γ.1 j = g at O Yj nx
    refine ⟨fun c => absurd c (nI_ge hj (by omega)), fun _ => sx_isIn (by omega) ⟨fun c => nx _ ?_ K, fun c => sf_pget O hj rfl ⟨⟨by omega, hj⟩, sy_earnedAt O Yj hj rfl hw ?_⟩⟩⟩
    · rw [if_neg (by rw [b01_0.mp c]; exact Bool.false_ne_true)]
      exact O
    · rw [if_pos (b01_1.mp c)] at nx
      rw [O.pl (j := 5) hj (by decide)]
      exact nx _ (RX.pl O hj (by decide) (by decide)) (K.up (by unfold kPr; omega))) 0 (by omega) (_, 0) ⟨⟨O2, K2⟩, nI_0.symm⟩
  exact this
end PLAYB
