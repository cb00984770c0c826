/-! THE DESK, SOUNDNESS, ON BOTH SIDES -/
/-- days off of the first n players, ahead of day D -/
def offN (x : MS) (D : Nat) : Nat → Nat
  | 0 => 0
  | n + 1 => offN x D n + fb_ct (fun d => bt (x 6 d) n) D
section DESKB
variable {x y z : MS} {Tm : MS} {Γ : RG} {σ τ ρ : MS} {a a0 a1 a2 a3 a4 b c : Int32} {w P B W T : Nat}
theorem offN_s (D : Nat) : ∀ n, offN x (D + 1) n = offN x D n + fb_ct (fun p => bt (x 6 D) p) n
  | 0 => rfl
  | n + 1 => by
    show offN x (D + 1) n + fb_ct (fun d => bt (x 6 d) n) (D + 1) = offN x D n + fb_ct (fun d => bt (x 6 d) n) D + fb_ct (fun p => bt (x 6 D) p) (n + 1)
    rw [offN_s D n, fb_ct_succ, fb_ct_succ]
    omega
theorem bits_lt {v : Int32} (h : ∀ p, P ≤ p → bt v p = false) : ∃ s, s < 2 ^ P ∧ v = nI s :=
  ⟨v.toBitVec.toNat, Nat.lt_pow_two_of_testBit _ (fun i hi => h i hi), nI_bv v⟩
theorem off_sum (hP : P ≤ 10) (FOx : FO x P) : ∀ D, D ≤ 366 → sumI (fun d => bcI (x 6 d)) D = nI (offN x D P)
  | 0, _ => by
    have : ∀ n, offN x 0 n = 0 := fun n => by
      induction n with
      | zero => rfl
      | succ n ih => show offN x 0 n + fb_ct _ 0 = 0; rw [ih]; rfl
    rw [this]
    exact nI_0.symm
  | D + 1, hD => by
    obtain ⟨s, hs, es⟩ := bits_lt (FOx D (by omega))
    show sumI (fun d => bcI (x 6 d)) D + bcI (x 6 D) = _
    rw [off_sum hP FOx D (by omega), offN_s, es, bc_P hP hs, nI_add]
theorem mnI_big {f : Nat → Int32} {m : Int32} (h : f 0 < m) : ∀ n, 1 ≤ n → mnI f m n = mnI f (f 0) n
  | 0, hn => absurd hn (by omega)
  | n + 1, _ => by
    rcases Nat.eq_zero_or_pos n with e | e
    · subst e
      show (if f 0 < m then f 0 else m) = (if f 0 < f 0 then f 0 else f 0)
      rw [if_pos h]
      split <;> rfl
    · unfold mnI
      rw [mnI_big h n e]
theorem sy_apart {post : Int32 → MS → Prop} (O : rOk (tR x) Γ σ) (PL : PlI x Γ.2.2.1) (hb : Γ.1 = 0 ∨ x 29 7 < 9999) (h : ∀ τ, rOk (tR x) Γ τ → (∀ k, k < 64 → τ k = σ k) → post (gapF x Γ.1) τ) : w_X11_apart Γ post σ := by
  have hP := O.hP
  have key : ∀ m : Int32, (∀ τ, rOk (tR x) Γ τ → (∀ k, k < 64 → τ k = σ k) → post (mxI (fun p => x (29 + p) 7) 0 Γ.1 - mnI (fun p => x (29 + p) 7) m Γ.1) τ) → ∃ k, k ≤ 11 ∧ u_X11_apart_22 Γ post k σ 0 m 0 := by
    intro m h
    have := inv_loop_b (fun k (q : MS × Int32 × Int32 × Int32) => u_X11_apart_22 Γ post k q.1 q.2.1 q.2.2.1 q.2.2.2) (fun j q => (rOk (tR x) Γ q.1 ∧ (∀ k, k < 64 → q.1 k = σ k) ∧ q.2.1 = mxI (fun p => x (29 + p) 7) 0 j ∧ q.2.2.1 = mnI (fun p => x (29 + p) 7) m j) ∧ q.2.2.2 = nI j) Γ.1 11 (by omega) (by
      rintro ⟨τ, u, v, i⟩ ⟨⟨O, hlo, rfl, rfl⟩, rfl⟩
      have O : rOk (tR x) Γ τ := O
      show u_X11_apart_22 Γ post 1 τ _ _ (nI Γ.1)
      unfold u_X11_apart_22 w_lp_Jx4a65c_size_8abf5
      rw [O.p]
      exact ⟨fun _ => h _ O hlo, fun c => absurd (le_self _) c⟩) (by
      rintro j k ⟨τ, u, v, i⟩ hj ⟨⟨O, hlo, rfl, rfl⟩, rfl⟩ ih
      have O : rOk (tR x) Γ τ := O
      have hlo : ∀ k, k < 64 → τ k = σ k := hlo
      have nx : ∀ τ' u v, rOk (tR x) Γ τ' → (∀ k, k < 64 → τ' k = σ k) → u = mxI (fun p => x (29 + p) 7) 0 (j + 1) → v = mnI (fun p => x (29 + p) 7) m (j + 1) → u_X11_apart_22 Γ post k τ' u v (nI j + 1) := fun τ' u v O' l' e1 e2 => by rw [nI_1]; exact ih (τ', u, v, nI (j + 1)) ⟨⟨O', l', e1, e2⟩, rfl⟩
      have e7 := (PL j (by omega)).2
      show u_X11_apart_22 Γ post (k + 1) τ (mxI (fun p => x (29 + p) 7) 0 j) (mnI (fun p => x (29 + p) 7) m j) (nI j)
      unfold u_X11_apart_22 w_lp_Jx4a65c_size_8abf5
      rw [O.p]
      refine ⟨fun c => absurd c (nI_ge hj (by omega)), fun _ => sy_weddingsOf O (by omega) (fun f τ' O' l' f0 f1 f2 => ⟨vp_in_nI (n := 2) (by decide) (by decide), ?_⟩)⟩
      have ef : rw0 (mrg τ' τ) 64 f 64 (Int32.toNatClampNeg 2) = x (29 + j) 7 := by
        rw [rw0_eq, e7]
        exact f2
      rw [ef]
      exact nx _ _ _ (O'.mrg.rw0 (by decide)) (fun k hk => by rw [rw0_ne (by omega), mrg_lo hk, l' k hk, hlo k hk]) rfl rfl) (σ, 0, m, 0) ⟨⟨O, fun _ _ => rfl, rfl, rfl⟩, nI_0.symm⟩
    exact this
  unfold gapF at h
  unfold w_X11_apart w_lp_Jx4a65c_isEmpty_aae02
  rw [O.p]
  by_cases e : Γ.1 = 0
  · refine ⟨fun _ => ⟨fun c => absurd c (by decide), fun _ => key 0 (fun τ O' l' => ?_)⟩, fun z => absurd (show nI Γ.1 = 0 by rw [e]; exact nI_0) z⟩
    have := h τ O' l'
    rw [if_pos e] at this
    exact this
  · refine ⟨fun z => absurd ((nI_eq (by omega) (by decide)).mp (z.trans nI_0.symm)) e, fun _ => ⟨fun _ => key 9999 (fun τ O' l' => ?_), fun c => absurd rfl c⟩⟩
    have := h τ O' l'
    rw [if_neg e] at this
    rw [mnI_big (hb.resolve_left e) Γ.1 (by omega)]
    exact this
theorem sy_deskNow {post : Int32 → MS → Prop} {k : Nat} (Oc : Ok x Γ.1 Γ.2.1 Γ.2.2.1 T) (O : rOk (tR x) Γ σ) (PL : PlI x Γ.2.2.1) (FOx : FO x Γ.1) (hb : Γ.1 = 0 ∨ x 29 7 < 9999) (hk : k ≤ 12) (e : a1 = nI k) (h : ∀ τ, rOk (tR x) Γ τ → (∀ k, k < 64 → τ k = σ k) → post (deskF x Γ.1 Γ.2.2.1 k) τ) : w_X11_deskNow Γ post σ a1 := by
  have hP := O.hP
  have hW := O.hW
  subst e
  have kk : ∀ i, i < 13 → nI k = nI i → k = i := fun i hi q => (nI_eq (by omega) (by omega)).mp q
  have h0 := h σ O (fun _ _ => rfl)
  have d95 : ∀ s : Int32, nI k - 4 = s → post (nI (fb_ct (fun w => decide (x (73 + w) 7 = s)) Γ.2.2.1)) σ → ∃ n, u_X11_deskNow_95 Γ post (nI k) n σ 0 0 := fun s es h => by
    refine up_loop (fun n (q : Int32 × Int32) => u_X11_deskNow_95 Γ post (nI k) n σ q.1 q.2) (fun i => (nI (fb_ct (fun w => decide (x (73 + w) 7 = s)) i), nI i)) Γ.2.2.1 ?_ (fun i n hi hn => ?_)
    · show u_X11_deskNow_95 Γ post (nI k) 1 σ (nI (fb_ct (fun w => decide (x (73 + w) 7 = s)) Γ.2.2.1)) (nI Γ.2.2.1)
      unfold u_X11_deskNow_95 w_lw_Jx4a65c_size_8abf5
      rw [O.w]
      exact ⟨fun _ => h, fun c => absurd (le_self _) c⟩
    · have hn : ∀ u, u = nI (fb_ct (fun w => decide (x (73 + w) 7 = s)) i + (if decide (x (73 + i) 7 = s) = true then 1 else 0)) → u_X11_deskNow_95 Γ post (nI k) n σ u (nI (i + 1)) := fun u e => by rw [e]; exact hn
      show u_X11_deskNow_95 Γ post (nI k) (n + 1) σ (nI (fb_ct (fun w => decide (x (73 + w) 7 = s)) i)) (nI i)
      unfold u_X11_deskNow_95 w_lw_Jx4a65c_size_8abf5
      rw [O.w, nI_1 i, es]
      refine ⟨fun c => absurd c (nI_ge hi (by omega)), fun _ => sf_wget O hi rfl ⟨⟨by omega, hi⟩, ?_⟩⟩
      rw [O.wd (j := 7) hi (by decide)]
      refine ⟨fun c => hn _ ?_, fun c => hn _ ?_⟩
      · rw [decide_eq_true c, if_pos rfl, nI_1]
      · rw [decide_eq_false c, if_neg Bool.false_ne_true, Int32.add_zero]
        rfl
  unfold w_X11_deskNow w_lp_Jx4a65c_size_8abf5 w_lb_Jx4a65c_size_8abf5 w_lw_Jx4a65c_size_8abf5
  rw [O.p, O.b, O.w, O.tdy, O.csh]
  refine ⟨fun c => ?_, fun c0 => ⟨fun c => ?_, fun c1 => ⟨fun c => ?_, fun c2 => ⟨fun c => ?_, fun c3 => ⟨fun c => ?_, fun c4 => ⟨fun c => ?_, fun c5 => ⟨fun c => ?_, fun c6 => ⟨fun c => ?_, fun c7 => ⟨fun c => ?_, fun c8 => ⟨fun c => ?_, fun c9 => ⟨fun c => ?_, fun c10 => ⟨fun c => ?_, fun c11 => ?_⟩⟩⟩⟩⟩⟩⟩⟩⟩⟩⟩⟩
  · obtain rfl := kk 0 (by decide) c; exact h0
  · obtain rfl := kk 1 (by decide) c
    have h0 : post (x 0 6) σ := h0
    rw [Oc.h6] at h0; exact h0
  · obtain rfl := kk 2 (by decide) c
    have h0 : post (x 0 7) σ := h0
    rw [Oc.h7] at h0; exact h0
  · obtain rfl := kk 3 (by decide) c
    have h0 : post (x 0 8) σ := h0
    rw [Oc.h8] at h0; exact h0
  · obtain rfl := kk 4 (by decide) c; exact d95 0 (by decide) h0
  · obtain rfl := kk 5 (by decide) c; exact d95 1 (by decide) h0
  · obtain rfl := kk 6 (by decide) c; exact d95 2 (by decide) h0
  · obtain rfl := kk 7 (by decide) c; exact d95 3 (by decide) h0
  · obtain rfl := kk 8 (by decide) c; exact h0
  · obtain rfl := kk 9 (by decide) c
    have h0 : post (sumI (fun p => bcI (x (29 + p) 4)) Γ.1 / 2) σ := h0
    refine up_loop (fun n (q : Int32 × Int32) => u_X11_deskNow_149 Γ post (nI 9) n σ q.1 q.2) (fun i => (sumI (fun p => bcI (x (29 + p) 4)) i, nI i)) Γ.1 ?_ (fun i n hi hn => ?_)
    · show u_X11_deskNow_149 Γ post (nI 9) 1 σ (sumI (fun p => bcI (x (29 + p) 4)) Γ.1) (nI Γ.1)
      unfold u_X11_deskNow_149 w_lp_Jx4a65c_size_8abf5
      rw [O.p]
      exact ⟨fun _ => h0, fun c => absurd (le_self _) c⟩
    · show u_X11_deskNow_149 Γ post (nI 9) (n + 1) σ (sumI (fun p => bcI (x (29 + p) 4)) i) (nI i)
      unfold u_X11_deskNow_149 w_lp_Jx4a65c_size_8abf5
      rw [O.p, nI_1]
      refine ⟨fun c => absurd c (nI_ge hi (by omega)), fun _ => sf_pget O hi rfl ⟨⟨by omega, hi⟩, ?_⟩⟩
      rw [O.pl (j := 4) hi (by decide)]
      exact sx_bc hn
  · obtain rfl := kk 10 (by decide) c
    have h0 : post (sumI (fun p => x (29 + p) 5) Γ.1) σ := h0
    refine up_loop (fun n (q : Int32 × Int32) => u_X11_deskNow_192 Γ post (nI 10) n σ q.1 q.2) (fun i => (sumI (fun p => x (29 + p) 5) i, nI i)) Γ.1 ?_ (fun i n hi hn => ?_)
    · show u_X11_deskNow_192 Γ post (nI 10) 1 σ (sumI (fun p => x (29 + p) 5) Γ.1) (nI Γ.1)
      unfold u_X11_deskNow_192 w_lp_Jx4a65c_size_8abf5
      rw [O.p]
      exact ⟨fun _ => h0, fun c => absurd (le_self _) c⟩
    · show u_X11_deskNow_192 Γ post (nI 10) (n + 1) σ (sumI (fun p => x (29 + p) 5) i) (nI i)
      unfold u_X11_deskNow_192 w_lp_Jx4a65c_size_8abf5
      rw [O.p, nI_1]
      refine ⟨fun c => absurd c (nI_ge hi (by omega)), fun _ => sf_pget O hi rfl ⟨⟨by omega, hi⟩, ?_⟩⟩
      rw [O.pl (j := 5) hi (by decide)]
      exact hn
  · obtain rfl := kk 11 (by decide) c
    have h0 : post (sumI (fun d => bcI (x 6 d)) 366) σ := h0
    rw [off_sum hP FOx 366 (Nat.le_refl _)] at h0
    refine up_loop (fun n (q : Int32 × Int32) => u_X11_deskNow_230 Γ post (nI 11) n σ q.1 q.2) (fun i => (nI (offN x 366 i), nI i)) Γ.1 ?_ (fun i n hi hn => ?_)
    · show u_X11_deskNow_230 Γ post (nI 11) 1 σ (nI (offN x 366 Γ.1)) (nI Γ.1)
      unfold u_X11_deskNow_230 w_lp_Jx4a65c_size_8abf5
      rw [O.p]
      exact ⟨fun _ => h0, fun c => absurd (le_self _) c⟩
    · have hn : u_X11_deskNow_230 Γ post (nI 11) n σ (nI (offN x 366 i + fb_ct (fun d => bt (x 6 d) i) 366)) (nI (i + 1)) := hn
      show u_X11_deskNow_230 Γ post (nI 11) (n + 1) σ (nI (offN x 366 i)) (nI i)
      unfold u_X11_deskNow_230 w_lp_Jx4a65c_size_8abf5
      rw [O.p]
      refine ⟨fun c => absurd c (nI_ge hi (by omega)), fun _ => sf_pget O hi rfl ⟨⟨by omega, hi⟩, ?_⟩⟩
      refine up_loop (fun m (q : Int32 × Int32) => u_X11_deskNow_265 Γ post (nI 11) (fun σ w0 w1 => u_X11_deskNow_230 Γ post (nI 11) n σ w0 w1) m σ q.1 (nI i) i (nI 366) q.2) (fun d => (nI (offN x 366 i + fb_ct (fun d => bt (x 6 d) i) d), nI d)) 366 ?_ (fun d m hd hm => ?_)
      · show u_X11_deskNow_265 Γ post (nI 11) _ 1 σ (nI (offN x 366 i + fb_ct (fun d => bt (x 6 d) i) 366)) (nI i) i (nI 366) (nI 366)
        unfold u_X11_deskNow_265
        rw [nI_1]
        exact ⟨fun _ => hn, fun c => absurd (le_self _) c⟩
      · have hm : ∀ u, u = nI (offN x 366 i + (fb_ct (fun d => bt (x 6 d) i) d + (if bt (x 6 d) i = true then 1 else 0))) → u_X11_deskNow_265 Γ post (nI 11) (fun σ w0 w1 => u_X11_deskNow_230 Γ post (nI 11) n σ w0 w1) m σ u (nI i) i (nI 366) (nI (d + 1)) := fun u e => by rw [e]; exact hm
        show u_X11_deskNow_265 Γ post (nI 11) _ (m + 1) σ (nI (offN x 366 i + fb_ct (fun d => bt (x 6 d) i) d)) (nI i) i (nI 366) (nI d)
        unfold u_X11_deskNow_265
        rw [nI_1 d, nI_clamp (by omega), O.off hi hd]
        refine ⟨fun c => absurd c (nI_ge hd (by decide)), fun _ => ⟨vp_in_nI hd (by decide), fun c => hm _ ?_, fun c => hm _ ?_⟩⟩
        · rw [if_neg (by rw [b01_0.mp c]; exact Bool.false_ne_true), Int32.add_zero]
          rfl
        · rw [if_pos (b01_1.mp c), nI_1]
          rfl
  · have n : ∀ i, i < 13 → ¬ nI k = nI i → k ≠ i := fun i hi q z => q (by rw [z])
    have : k = 12 := by
      have := n 0 (by decide) c0
      have := n 1 (by decide) c1
      have := n 2 (by decide) c2
      have := n 3 (by decide) c3
      have := n 4 (by decide) c4
      have := n 5 (by decide) c5
      have := n 6 (by decide) c6
      have := n 7 (by decide) c7
      have := n 8 (by decide) c8
      have := n 9 (by decide) c9
      have := n 10 (by decide) c10
      have := n 11 (by decide) c11
      omega
    subst this
    exact sy_apart O PL hb h
theorem sy_desk {post : Int32 → MS → Prop} (Oc : Ok x Γ.1 Γ.2.1 Γ.2.2.1 T) (O : rOk (tR x) Γ σ) (PL : PlI x Γ.2.2.1) (FOx : FO x Γ.1) (hb : Γ.1 = 0 ∨ x 29 7 < 9999)
    (h1 : (∀ k, k ≤ 12 → a1 ≠ nI k) → ∀ τ, rOk (tR x) Γ τ → τ 0 0 = 1 → post 0 τ)
    (h3 : ∀ k, k ≤ 12 → a1 = nI k → ∀ τ, rOk (tR x) Γ τ → τ 0 0 = 0 → post (deskF x Γ.1 Γ.2.2.1 k) τ) : w_X11_desk Γ post σ a1 := by
  unfold w_X11_desk
  have O0 := O.up (k := 0) (j := 0) (v := 0) (by unfold rPr; omega)
  exact sx_isr (lo := 0) (hi := 12) rfl rfl (by decide) (by decide) (fun no => ⟨fun _ => sx_refuse O0 (h1 (fun k hk => no k (by omega) hk)), fun c => absurd rfl c⟩) (fun k r2 _ hk e2 hr2 => ⟨fun c => absurd c hr2, fun _ => sy_deskNow Oc O0 PL FOx hb hk e2 (fun τ O' hlo => h3 k hk e2 τ O' (by rw [hlo 0 (by decide)]; exact up2_same))⟩)
theorem taken_i {u v : Int32} : ∀ n, (taken x u v n = true ↔ ∃ w, w < n ∧ x (73 + w) 7 = 1 ∧ x (73 + w) 0 = u ∧ x (73 + w) 1 = v)
  | 0 => ⟨fun h => (Bool.false_ne_true h).elim, fun ⟨w, hw, _⟩ => absurd hw (by omega)⟩
  | n + 1 => by
    unfold taken
    rw [Bool.or_eq_true, taken_i n, decide_eq_true_iff]
    constructor
    · rintro (⟨w, hw, h⟩ | h)
      · exact ⟨w, by omega, h⟩
      · exact ⟨n, by omega, h⟩
    · rintro ⟨w, hw, h⟩
      by_cases e : w = n
      · subst e; exact Or.inr h
      · exact Or.inl ⟨w, by omega, h⟩
theorem hrsD_eq (σ : MS) (v : Int32) : ∀ n, hrsD σ v n = v - sumI (hoW σ) n
  | 0 => by show v = v - 0; grind
  | n + 1 => by
    unfold hrsD
    rw [hrsD_eq σ v n]
    show _ = v - (sumI (hoW σ) n + hoW σ n)
    unfold hoW
    split
    · grind
    · grind
theorem sy_isSoundNow {post : Int32 → MS → Prop} (Oc : Ok x Γ.1 Γ.2.1 Γ.2.2.1 T) (O : rOk (tR x) Γ σ) (S : Sh x Γ) (PL : PlI x Γ.2.2.1) (FOx : FO x Γ.1) (hb : Γ.1 = 0 ∨ x 29 7 < 9999) (h4 : D4 x Γ.1 Γ.2.2.1) (h : ∀ τ, rOk (tR x) Γ τ → (∀ k, k < 64 → τ k = σ k) → post (b01 (sndB x Γ.1 Γ.2.2.1)) τ) : w_X11_isSoundNow Γ post σ := by
  have hP := O.hP
  have hW := O.hW
  have hB := O.hB
  have hhr : hrsD x (hrsI x Γ.1) Γ.2.2.1 = 0 := by
    rw [hrsD_eq, show hrsI x Γ.1 = sumI (hoW x) Γ.2.2.1 from h4]
    grind
  unfold sndB at h
  rw [hhr, decide_eq_true rfl, Bool.true_and] at h
  have no : allFx x Γ.2.2.1 = false → post 0 σ := fun e => by
    have := h σ O (fun _ _ => rfl)
    rw [e] at this
    exact this
  have d158 : allFx x Γ.2.2.1 = true → ∃ k, u_X11_isSoundNow_158 Γ post k σ (paidI x Γ.2.2.1) 0 0 := fun ha => by
    rw [ha, Bool.true_and] at h
    refine up_loop (fun k (q : Int32 × Int32) => u_X11_isSoundNow_158 Γ post k σ (paidI x Γ.2.2.1) q.1 q.2) (fun i => (shrI x i, nI i)) 16 ?_ (fun i k hi hk => ?_)
    · show u_X11_isSoundNow_158 Γ post 1 σ (paidI x Γ.2.2.1) (shrI x 16) (nI 16)
      unfold u_X11_isSoundNow_158
      refine ⟨fun _ => sy_deskNow (k := 10) Oc O PL FOx hb (by decide) rfl (fun τ O' hlo => ?_), fun c => absurd (le_self (nI 16)) c⟩
      have h := h τ O' hlo
      rw [O.csh]
      have e10 : deskF x Γ.1 Γ.2.2.1 10 = earnI x Γ.1 := rfl
      rw [e10]
      refine ⟨fun c => ⟨fun d => ?_, fun d => ?_⟩, fun c => ?_⟩
      · rw [decide_eq_true c, Bool.true_and, decide_eq_false (fun z => z d)] at h; exact h
      · rw [decide_eq_true c, Bool.true_and, decide_eq_true d] at h; exact h
      · rw [decide_eq_false c, Bool.false_and] at h; exact h
    · have hk : u_X11_isSoundNow_158 Γ post k σ (paidI x Γ.2.2.1) (shrI x i + shareF x i) (nI (i + 1)) := hk
      show u_X11_isSoundNow_158 Γ post (k + 1) σ (paidI x Γ.2.2.1) (shrI x i) (nI i)
      unfold u_X11_isSoundNow_158
      rw [nI_1]
      exact ⟨fun c => absurd (show nI 16 ≤ nI i from c) (nI_ge hi (by decide)), fun _ => sy_share O hi hk⟩
  have key : ∀ n i, i + n = Γ.2.2.1 → allFx x i = true → u_X11_isSoundNow_6 Γ post (n + 1) σ (paidI x i) 0 (nI i) := by
    intro n
    induction n with
    | zero =>
      intro i hi ha
      obtain rfl : i = Γ.2.2.1 := by omega
      unfold u_X11_isSoundNow_6 w_lw_Jx4a65c_size_8abf5
      rw [O.w]
      exact ⟨fun _ => d158 ha, fun c => absurd (le_self _) c⟩
    | succ n ih =>
      intro i hi ha
      have hiW : i < Γ.2.2.1 := by omega
      have ep : paidI x (i + 1) = paidI x i + x (73 + i) 11 := rfl
      have ea : allFx x (i + 1) = (allFx x i && (!decide (x (73 + i) 7 = 1) || fixSnd x i)) := rfl
      have nx : allFx x (i + 1) = true → u_X11_isSoundNow_6 Γ post (n + 1) σ (paidI x i + x (73 + i) 11) 0 (nI i + 1) := fun g => by rw [nI_1, ← ep]; exact ih (i + 1) (by omega) g
      have nn : allFx x (i + 1) = false → post 0 σ := fun g => no (allFx_le (by omega) g)
      rw [ea, ha, Bool.true_and] at nx nn
      obtain ⟨b, m, sz, hb', eb, hbd, m2, g1, z1, g2, g3, g4⟩ := S.get O hiW
      unfold u_X11_isSoundNow_6 w_lw_Jx4a65c_size_8abf5
      rw [O.w]
      refine ⟨fun c => absurd c (nI_ge hiW (by omega)), fun _ => sf_wget O hiW rfl ⟨⟨by omega, hiW⟩, ?_⟩⟩
      rw [O.wd (j := 7) hiW (by decide), O.wd (j := 8) hiW (by decide), O.wd (j := 11) hiW (by decide)]
      refine ⟨fun c => sx_bc ?_, fun c => nx (by rw [decide_eq_false c]; rfl)⟩
      rw [O.wd (j := 0) hiW (by decide)]
      refine sf_lbget O hb' eb ⟨hb', ?_⟩
      rw [decide_eq_true c] at nx nn
      unfold w_in_J6_intValue_8abf5
      rw [g1]
      refine law_X11_needed_ ?_
      rw [g2]
      have ef : fixSnd x i = (decide (bcI (x (73 + i) 8) = nI sz) && !taken x (x (73 + i) 0) (x (73 + i) 1) i) := by
        unfold fixSnd
        rw [hbd, g3]
      rw [ef] at nx nn
      refine ⟨fun d => ?_, fun d => nn (by rw [decide_eq_false d]; rfl)⟩
      rw [decide_eq_true d, Bool.true_and] at nx nn
      have key2 : ∀ m j, j + m = i → (∀ v, v < j → ¬ (x (73 + v) 7 = 1 ∧ x (73 + v) 0 = x (73 + i) 0 ∧ x (73 + v) 1 = x (73 + i) 1)) → u_X11_isSoundNow_87 Γ post (fun σ w0 w1 w2 => u_X11_isSoundNow_6 Γ post (n + 1) σ w0 w1 w2) (m + 1) σ (paidI x i + x (73 + i) 11) 0 (nI i) i (nI j) := by
        intro m
        induction m with
        | zero =>
          intro j hj hno
          obtain rfl : j = i := by omega
          unfold u_X11_isSoundNow_87
          refine ⟨fun _ => nx ?_, fun c => absurd (le_self _) c⟩
          have : taken x (x (73 + j) 0) (x (73 + j) 1) j = false := Bool.eq_false_iff.mpr (fun z => by
            obtain ⟨v, hv, q⟩ := (taken_i j).mp z
            exact hno v hv q)
          rw [this]
          rfl
        | succ m ihm =>
          intro j hj hno
          have hjW : j < Γ.2.2.1 := by omega
          have st : ¬ (x (73 + j) 7 = 1 ∧ x (73 + j) 0 = x (73 + i) 0 ∧ x (73 + j) 1 = x (73 + i) 1) → u_X11_isSoundNow_87 Γ post (fun σ w0 w1 w2 => u_X11_isSoundNow_6 Γ post (n + 1) σ w0 w1 w2) (m + 1) σ (paidI x i + x (73 + i) 11) 0 (nI i) i (nI j + 1) := fun g => by
            rw [nI_1]
            refine ihm (j + 1) (by omega) (fun v hv => ?_)
            rcases Nat.eq_or_lt_of_le (Nat.le_of_lt_succ hv) with z | z
            · rw [z]; exact g
            · exact hno v z
          unfold u_X11_isSoundNow_87
          refine ⟨fun c => absurd c (nI_ge (by omega) (by omega)), fun _ => sf_wget O hjW rfl ⟨⟨by omega, hjW⟩, ?_⟩⟩
          rw [O.wd (j := 7) hjW (by decide), O.wd (j := 0) hjW (by decide), O.wd (j := 1) hjW (by decide), O.wd (j := 0) hiW (by decide), O.wd (j := 1) hiW (by decide)]
          refine ⟨fun e1 => ⟨fun e2 => ⟨fun e3 => nn ?_, fun e3 => st (fun q => e3 q.2.2)⟩, fun e2 => st (fun q => e2 q.2.1)⟩, fun e1 => st (fun q => e1 q.1)⟩
          rw [(taken_i i).mpr ⟨j, by omega, e1, e2, e3⟩]
          rfl
      exact ⟨i + 1, key2 i 0 (by omega) (fun v hv => absurd hv (by omega))⟩
  unfold w_X11_isSoundNow
  exact ⟨Γ.2.2.1 + 1, key Γ.2.2.1 0 (by omega) rfl⟩
theorem sy_isSound {post : Int32 → MS → Prop} (Oc : Ok x Γ.1 Γ.2.1 Γ.2.2.1 T) (O : rOk (tR x) Γ σ) (S : Sh x Γ) (PL : PlI x Γ.2.2.1) (FOx : FO x Γ.1) (hb : Γ.1 = 0 ∨ x 29 7 < 9999) (h4 : D4 x Γ.1 Γ.2.2.1) (h : ∀ τ, rOk (tR x) Γ τ → τ 0 0 = 0 → post (b01 (sndB x Γ.1 Γ.2.2.1)) τ) : w_X11_isSound Γ post σ := by
  unfold w_X11_isSound
  have O0 := O.up (k := 0) (j := 0) (v := 0) (by unfold rPr; omega)
  exact sy_isSoundNow Oc O0 S PL FOx hb h4 (fun τ O' hlo => ⟨by cases sndB x Γ.1 Γ.2.2.1 <;> rfl, h τ O' (by rw [hlo 0 (by decide)]; exact up2_same)⟩)
end DESKB
