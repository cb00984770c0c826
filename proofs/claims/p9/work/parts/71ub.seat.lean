/-! who is seated has an instrument of the band; what the survey finds is such a set -/
def seats (σ : MS) (b p : Nat) : Prop := ∃ j, nI j < σ (55 + b) 2 ∧ j < 2 ^ 31 ∧ bt (σ (29 + p) 0) (pl σ b j) = true
theorem bt_one : ∀ q, q < 32 → ∀ p, p < 32 → bt (one q) p = decide (p = q) := by decide +kernel
theorem clr_nI_i {i q : Nat} (hi : i < 1024) : nI (clr (nI i) q) = nI i &&& (one q ^^^ (-1)) := by
  unfold clr
  obtain ⟨j, hj, h⟩ := and_small (i := i) (M := 1024) hi (by decide) (one q ^^^ (-1))
  rw [show (1 : Int32) <<< (nI q &&& 31) = one q from rfl, h, nI_clamp (by omega)]
theorem clr_bt_i {i p q : Nat} (hi : i < 1024) (hp : p < 32) (hq : q < 32) : bt (nI (clr (nI i) q)) p = (bt (nI i) p && !decide (p = q)) := by
  rw [clr_nI_i hi, b_and, b_xor, bt_one q hq p hp, b_m1 p hp]
  simp
theorem seatB_ex_i {σ : MS} {b last : Nat} {s : Int32} : ∀ {n : Nat}, seatB σ b last s n = true → ∃ q, q < n ∧ bt s q = true ∧ bt (σ (29 + q) 0) (pl σ b last) = true ∧ ¬ σ 8 (clr s q) = 0
  | 0, h => by cases h
  | n + 1, h => by
    unfold seatB at h
    rcases Bool.or_eq_true _ _ |>.mp h with h | h
    · obtain ⟨q, h1, h2⟩ := seatB_ex_i h
      exact ⟨q, by omega, h2⟩
    · exact ⟨n, by omega, of_decide_eq_true h⟩
theorem sat_seat {σ : MS} {b P : Nat} (hP : P ≤ 10) : ∀ n, n < 1024 → ∀ s, s ≤ n → ¬ sat σ b P n 8 s = 0 → ∀ p, p < P → bt (nI s) p = true → seats σ b p
  | 0, _, s, hs, _, p, _, hp => by
    obtain rfl : s = 0 := by omega
    rw [nI_0, b_0] at hp
    cases hp
  | n + 1, hn, s, hs, h8, p, hpP, hp => by
    have ih := sat_seat (σ := σ) (b := b) hP n (by omega)
    have hsc := Scr.sat σ b P n
    unfold sat at h8
    generalize sat σ b P n = y at ih hsc h8
    by_cases e : s = n + 1
    · subst e
      rw [up2_same] at h8
      have hf := b01_1.mp h8
      unfold seatF at hf
      by_cases c : bcI (nI (n + 1)) - 1 < 0
      · rw [if_pos c] at hf; cases hf
      · rw [if_neg c] at hf
        by_cases d : bcI (nI (n + 1)) - 1 < y (55 + b) 2
        · rw [if_pos d] at hf
          obtain ⟨last, hlt, hl⟩ := nI_of c
          rw [hl, nI_clamp hlt] at hf
          rw [hl, hsc (55 + b) (by omega)] at d
          obtain ⟨q, hq, h1, h2, h3⟩ := seatB_ex_i hf
          by_cases e2 : p = q
          · subst e2
            refine ⟨last, d, hlt, ?_⟩
            rw [hsc (29 + p) (by omega)] at h2
            unfold pl at h2 ⊢
            rw [hsc (67 + b) (by omega)] at h2
            exact h2
          · have hlt2 := clr_lt q (by omega) (n + 1) hn h1
            exact ih _ (by omega) h3 p hpP (by rw [clr_bt_i hn (by omega) (by omega), hp, decide_eq_false e2]; rfl)
        · rw [if_neg d] at hf; cases hf
    · rw [up2_at (by omega)] at h8
      exact ih s (by omega) h8 p hpP hp
theorem seats_sc {σ τ : MS} (h : Scr σ τ) {b p : Nat} (hs : seats τ b p) : seats σ b p := by
  unfold seats pl at hs ⊢
  rw [h.c55, h.c67, h.c29] at hs
  exact hs
theorem surv_fil {σ : MS} {w P : Nat} {free had : Int32} (hP : P ≤ 10) (h : ¬ survF σ w P free had 9 3 = 0) : ∃ s, 1 ≤ s ∧ s < 2 ^ P ∧ survF σ w P free had 9 0 = nI s ∧ survF σ w P free had 9 1 = costsF σ (nI s) w P ∧ bcI (nI s) = σ (55 + bdOf σ w) 2 ∧ ∀ p, p < P → bt (nI s) p = true → seats σ (bdOf σ w) p := by
  rcases surv_best σ w P free had with q | ⟨s, ⟨h1, h2, _, h4, h5, _, _⟩, e1, e2⟩
  · exact absurd q h
  · have hp2 := pw1024 hP
    rw [costsF_sc (Scr.svIn σ w P)] at e2
    refine ⟨s, h1, h2, e1, e2, h5, fun p hp hb => ?_⟩
    unfold svIn at h4
    have := sat_seat (σ := clearF σ) (b := bdOf σ w) hP (2 ^ P - 1) (by omega) s (by omega) h4 p hp hb
    exact seats_sc (Scr.clear σ) this
/-! a number's bits, counted -/
theorem bc_ct_i : ∀ s, s < 1024 → bcI (nI s) = nI (fb_ct (fun p => bt (nI s) p) 10) := by decide +kernel
theorem bt_lt : ∀ s, s < 1024 → ∀ p, p < 11 → s < 2 ^ p → bt (nI s) p = false := by decide +kernel
theorem bt_hi {s P p : Nat} (hP : P ≤ 10) (hs : s < 2 ^ P) (h : P ≤ p) (hp : p ≤ 10) : bt (nI s) p = false :=
  bt_lt s (Nat.lt_of_lt_of_le hs (pw1024 hP).2) p (by omega) (Nat.lt_of_lt_of_le hs (Nat.pow_le_pow_right (by decide) h))
theorem ct_ext {f : Nat → Bool} {P : Nat} : ∀ d, (∀ p, P ≤ p → p < P + d → f p = false) → fb_ct f (P + d) = fb_ct f P
  | 0, _ => rfl
  | d + 1, h => by
    show fb_ct f (P + d + 1) = _
    rw [fb_ct_succ, h (P + d) (by omega) (by omega), ct_ext d (fun p h1 h2 => h p h1 (by omega))]
    rfl
theorem bc_P {s P : Nat} (hP : P ≤ 10) (hs : s < 2 ^ P) : bcI (nI s) = nI (fb_ct (fun p => bt (nI s) p) P) := by
  rw [bc_ct_i s (Nat.lt_of_lt_of_le hs (pw1024 hP).2)]
  have := ct_ext (f := fun p => bt (nI s) p) (P := P) (10 - P) (fun p h1 h2 => bt_hi hP hs h1 (by omega))
  rw [show P + (10 - P) = 10 by omega] at this
  rw [this]
theorem bt_some : ∀ s, s < 1024 → 1 ≤ s → 1 ≤ fb_ct (fun p => bt (nI s) p) 10 := by decide +kernel
theorem bt_ex {s P : Nat} (hP : P ≤ 10) (hs : s < 2 ^ P) (h1 : 1 ≤ s) : ∃ p, p < P ∧ bt (nI s) p = true := by
  have h2 := bt_some s (Nat.lt_of_lt_of_le hs (pw1024 hP).2) h1
  obtain ⟨p, hp, h3⟩ := fb_ct_pos.mp (show 0 < _ from h2)
  by_cases c : p < P
  · exact ⟨p, c, h3⟩
  · have := bt_hi hP hs (by omega) (show p ≤ 10 by omega)
    rw [this] at h3; cases h3
/-! a band: so many places, each of an instrument that it needs -/
def Bd (σ : MS) (b : Nat) : Prop := ∃ t, 1 ≤ t ∧ t ≤ 5 ∧ σ (55 + b) 2 = nI t ∧ ∀ j, j < t → ∃ q r, q < 6 ∧ σ (67 + b) j = nI q ∧ 1 ≤ r ∧ r ≤ 2 ∧ σ (61 + b) q = nI r
def Bg (k : Nat) (y : MS) (b : Nat) (t : Nat) : Prop := y (55 + b) 2 = nI t ∧ t ≤ 5 ∧ ∀ j, j < t → ∃ q r, q < 6 ∧ q < k ∧ y (67 + b) j = nI q ∧ 1 ≤ r ∧ r ≤ 2 ∧ y (61 + b) q = nI r
theorem tkI_g {y : MS} {b k r t : Nat} (hb : b < 6) (hk : k < 6) (hr : r ≤ 2) (hn : y (61 + b) k = nI r) (h : Bg (k + 1) y b t) : ∀ i, i ≤ r → ∃ t', Bg (k + 1) (tkI y b k i) b t' ∧ t ≤ t' ∧ (1 ≤ i → 1 ≤ t')
  | 0, _ => ⟨t, h, Nat.le_refl t, fun c => absurd c (by omega)⟩
  | i + 1, hi => by
    obtain ⟨u, ⟨g1, g2, g3⟩, hu, hu1⟩ := tkI_g hb hk hr hn h i (by omega)
    have e61 := tkI_n (x := y) (k := k) hb i
    unfold tkI
    generalize tkI y b k i = z at g1 g3 e61
    by_cases c : 5 ≤ z (55 + b) 2
    · rw [if_pos c]
      have : 5 ≤ u := by
        rw [g1] at c
        exact Nat.le_of_not_lt fun q => absurd c (show ¬ nI 5 ≤ nI u from nI_ge q (by omega))
      exact ⟨u, ⟨g1, g2, g3⟩, hu, fun _ => by omega⟩
    · rw [if_neg c]
      have hu5 : u < 5 := Nat.lt_of_not_le fun q => c (by rw [g1]; exact (show nI 5 ≤ nI u from nI_le q (by omega)))
      refine ⟨u + 1, ⟨?_, by omega, fun j hj => ?_⟩, by omega, fun _ => by omega⟩
      · rw [up2_same, g1, nI_1]
      · rw [g1, nI_clamp (by omega)]
        by_cases e : j = u
        · subst e
          refine ⟨k, r, hk, by omega, ?_, by omega, hr, ?_⟩
          · rw [up2_at (by omega), up2_same]
          · rw [up2_at (by omega), up2_at (by omega), e61]; exact hn
        · obtain ⟨q, r', a1, a2, a3, a4, a5, a6⟩ := g3 j (by omega)
          refine ⟨q, r', a1, a2, ?_, a4, a5, ?_⟩
          · rw [up2_at (by omega), up2_at (by omega)]; exact a3
          · rw [up2_at (by omega), up2_at (by omega)]; exact a6
theorem tkO_g {x : MS} {b m : Nat} (hb : b < 6) (hm : m ≤ 728) (h0 : x (55 + b) 2 = nI 0) : ∀ n, n ≤ 6 → ∃ t, Bg n (tkO x b (nI m) n).1 b t ∧ ((∃ k, k < n ∧ 1 ≤ m / 3 ^ k % 3) → 1 ≤ t)
  | 0, _ => ⟨0, ⟨h0, by omega, fun j hj => absurd hj (by omega)⟩, fun ⟨k, hk, _⟩ => absurd hk (by omega)⟩
  | n + 1, hn => by
    obtain ⟨t, ⟨g1, g2, g3⟩, ht⟩ := tkO_g (x := x) hb hm h0 n (by omega)
    have e2 := tkO_2 (x := x) (b := b) hm n
    have d := dv3 _ (Nat.le_trans (Nat.div_le_self m (3 ^ n)) hm)
    show ∃ t, Bg (n + 1) (tkI (up2 (tkO x b (nI m) n).1 (61 + b) n ((tkO x b (nI m) n).2 - (tkO x b (nI m) n).2 / 3 * 3)) b n ((tkO x b (nI m) n).2 - (tkO x b (nI m) n).2 / 3 * 3).toNatClampNeg) b t ∧ _
    generalize tkO x b (nI m) n = y at g1 g3 e2 ⊢
    rw [e2, d.2]
    have hr : m / 3 ^ n % 3 ≤ 2 := by omega
    rw [nI_clamp (by omega)]
    have hB : Bg (n + 1) (up2 y.1 (61 + b) n (nI (m / 3 ^ n % 3))) b t := by
      refine ⟨by rw [up2_at (by omega)]; exact g1, g2, fun j hj => ?_⟩
      obtain ⟨q, r, a1, a2, a3, a4, a5, a6⟩ := g3 j hj
      exact ⟨q, r, a1, by omega, by rw [up2_at (by omega)]; exact a3, a4, a5, by rw [up2_at (by omega)]; exact a6⟩
    obtain ⟨t', h1, h2, h3⟩ := tkI_g hb (by omega) hr up2_same hB (m / 3 ^ n % 3) (Nat.le_refl _)
    refine ⟨t', h1, fun ⟨k, hk, hk2⟩ => ?_⟩
    by_cases e : k = n
    · subst e; exact h3 hk2
    · have := ht ⟨k, by omega, hk2⟩
      omega
theorem dig_ex : ∀ m, m ≤ 728 → 1 ≤ m → ∃ k, k < 6 ∧ 1 ≤ m / 3 ^ k % 3 := by decide +kernel
theorem bd_new {x : MS} {b m : Nat} (hb : b < 6) (hm : m ≤ 728) (h1 : 1 ≤ m) (h0 : x (55 + b) 2 = 0) : Bd (tkO x b (nI m) 6).1 b := by
  obtain ⟨t, ⟨g1, g2, g3⟩, ht⟩ := tkO_g (x := x) hb hm (by rw [h0]; exact nI_0.symm) 6 (by decide)
  refine ⟨t, ht (dig_ex m hm h1), g2, g1, fun j hj => ?_⟩
  obtain ⟨q, r, a1, _, a3, a4, a5, a6⟩ := g3 j hj
  exact ⟨q, r, a1, a3, a4, a5, a6⟩
theorem Bd.same {σ τ : MS} {b : Nat} (h : Bd σ b) (e1 : τ (55 + b) 2 = σ (55 + b) 2) (e2 : τ (61 + b) = σ (61 + b)) (e3 : τ (67 + b) = σ (67 + b)) : Bd τ b := by
  unfold Bd at h ⊢
  rw [e1, e2, e3]
  exact h
