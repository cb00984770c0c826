/-! WHAT IS ASKED, ON BOTH SIDES: players, songs, bands, weddings, the desk -/
section ASKB
variable {x y z : MS} {Tm : MS} {Γ : RG} {σ τ ρ : MS} {a a0 a1 a2 a3 a4 b c : Int32} {w P B W T : Nat}
theorem sx_isr {post : Int32 → MS → Prop} {lo hi : Nat} (e1 : b = nI lo) (e2 : c = nI hi) (hl : lo < 2 ^ 31) (hh : hi < 2 ^ 31) (h0 : (∀ i, lo ≤ i → i ≤ hi → a ≠ nI i) → post 0 σ) (h1 : ∀ i r, lo ≤ i → i ≤ hi → a = nI i → ¬ r = 0 → post r σ) : w_X11_is Γ post σ a b c := by
  rw [e1, e2]
  refine law_X11_is ?_
  by_cases z : rIsF a (nI lo) (nI hi) = 0
  · rw [z]; exact h0 (rIs_nor hh z)
  · obtain ⟨i, h2, h3, e⟩ := rIs_rg hh z hl
    exact h1 i _ h2 h3 e z
theorem sy_ofWeddingNow {post : Int32 → MS → Prop} {k : Nat} (O : rOk (tR x) Γ σ) (hw : w < Γ.2.2.1) (e : a1 = nI w) (hk : k ≤ 12) (e2 : a2 = nI k) (h : post (ofWF x w k) σ) : w_X11_ofWeddingNow Γ post σ a1 a2 := by
  have hW := O.hW
  subst e2
  have kk : ∀ i, i < 13 → nI k = nI i → k = i := fun i hi q => (nI_eq (by omega) (by omega)).mp q
  unfold w_X11_ofWeddingNow
  refine sf_wget O hw e ⟨⟨by omega, hw⟩, ?_⟩
  rw [O.wd (j := 0) hw (by decide), O.wd (j := 1) hw (by decide), O.wd (j := 2) hw (by decide), O.wd (j := 3) hw (by decide), O.wd (j := 4) hw (by decide), O.wd (j := 5) hw (by decide), O.wd (j := 7) hw (by decide), O.wd (j := 8) hw (by decide), O.wd (j := 9) hw (by decide), O.wd (j := 10) hw (by decide), O.wd (j := 11) hw (by decide)]
  refine ⟨fun c => ?_, fun c0 => ⟨fun c => ?_, fun c1 => ⟨fun c => ?_, fun c2 => ⟨fun c => ?_, fun c3 => ⟨fun c => ?_, fun c4 => ⟨fun c => ?_, fun c5 => ⟨fun c => ?_, fun c6 => ⟨fun c => ?_, fun c7 => ⟨fun c => ?_, fun c8 => ⟨fun c => ?_, fun c9 => ⟨fun c => ?_, fun c10 => ⟨fun c => ?_, fun c11 => ?_⟩⟩⟩⟩⟩⟩⟩⟩⟩⟩⟩⟩
  · obtain rfl := kk 0 (by decide) c; exact h
  · obtain rfl := kk 1 (by decide) c; exact h
  · obtain rfl := kk 2 (by decide) c; exact h
  · obtain rfl := kk 3 (by decide) c; exact h
  · obtain rfl := kk 4 (by decide) c; exact h
  · obtain rfl := kk 5 (by decide) c; exact h
  · obtain rfl := kk 6 (by decide) c; exact h
  · obtain rfl := kk 7 (by decide) c; exact h
  · obtain rfl := kk 8 (by decide) c; exact h
  · obtain rfl := kk 9 (by decide) c; exact h
  · obtain rfl := kk 10 (by decide) c; exact h
  · obtain rfl := kk 11 (by decide) c; exact sy_place O hw e h
  · have n : ∀ i, i < 12 → ¬ nI k = nI i → k ≠ i := fun i hi q z => q (by rw [z])
    have : k = 12 := by
      have := n 0 (by decide) c0
      have := n 1 (by decide) c1
      have := n 2 (by decide) c2
      have := n 3 (by decide) c3
      have := n 4 (by decide) c4
      have := n 5 (by decide) c5
      have := n 6 (by decide) c6
      have := n 7 (by decide) c7
      have := n 8 (by decide) c8
      have := n 9 (by decide) c9
      have := n 10 (by decide) c10
      have := n 11 (by decide) c11
      omega
    subst this
    exact sy_quarters O hw h
theorem sy_ofWedding {post : Int32 → MS → Prop} (O : rOk (tR x) Γ σ)
    (h1 : (∀ w, w < Γ.2.2.1 → a1 ≠ nI w) → ∀ τ, rOk (tR x) Γ τ → τ 0 0 = 1 → post 0 τ)
    (h2 : ∀ w, w < Γ.2.2.1 → a1 = nI w → (∀ k, k ≤ 12 → a2 ≠ nI k) → ∀ τ, rOk (tR x) Γ τ → τ 0 0 = 2 → post 0 τ)
    (h3 : ∀ w k, w < Γ.2.2.1 → k ≤ 12 → a1 = nI w → a2 = nI k → ∀ τ, rOk (tR x) Γ τ → τ 0 0 = 0 → post (ofWF x w k) τ) : w_X11_ofWedding Γ post σ a1 a2 := by
  unfold w_X11_ofWedding
  have O0 := O.up (k := 0) (j := 0) (v := 0) (by unfold rPr; omega)
  exact sx_isWedding O0 (fun no => ⟨fun _ => sx_refuse O0 (h1 no), fun c => absurd rfl c⟩) (fun w r hw e hr => ⟨fun c => absurd c hr, fun _ => sx_isr (lo := 0) (hi := 12) rfl rfl (by decide) (by decide) (fun no => ⟨fun _ => sx_refuse O0 (h2 w hw e (fun k hk => no k (by omega) hk)), fun c => absurd rfl c⟩) (fun k r2 _ hk e2 hr2 => ⟨fun c => absurd c hr2, fun _ => sy_ofWeddingNow O0 hw e hk e2 (h3 w k hw hk e e2 _ O0 up2_same)⟩)⟩)
theorem sy_ofBandNow {post : Int32 → MS → Prop} {v k : Nat} (O : rOk (tR x) Γ σ) (S : Sh x Γ) (hb : v < Γ.2.1) (e : a1 = nI v) (hk : k ≤ 8) (e2 : a2 = nI k) (h : post (ofBF x Γ.2.2.1 v k) σ) : w_X11_ofBandNow Γ post σ a1 a2 := by
  have hW := O.hW
  have hB := O.hB
  obtain ⟨m, sz, m1, m2, g1, z1, g2, g3, g4, g5⟩ := S v hb
  subst e
  subst e2
  unfold ofBF at h
  unfold w_X11_ofBandNow
  have k6 : (6 : Int32) ≤ nI k ↔ 6 ≤ k := by
    constructor
    · intro c
      rcases Nat.lt_or_ge k 6 with d | d
      · exact absurd (show nI 6 ≤ nI k from c) (nI_ge d (by decide))
      · exact d
    · intro c; exact (show nI 6 ≤ nI k from nI_le0 c (by omega))
  refine ⟨fun c => ⟨fun c2 => sf_lbget O hb rfl ⟨hb, ?_⟩, fun c2 => ?_⟩, fun c => sf_lbget O hb rfl ⟨hb, ?_⟩⟩
  · unfold w_in_J6_intValue_8abf5
    have : k = 6 := (nI_eq (by omega) (by decide)).mp (show nI k = nI 6 from c2)
    subst this
    rw [if_neg (by decide), if_pos rfl, g3] at h
    refine law_X11_needed_ ?_
    rw [g1, g2]
    exact h
  · have hk6 := k6.mp c
    have hne : k ≠ 6 := fun z => c2 (by rw [z]; rfl)
    rw [if_neg (by omega), if_neg hne] at h
    refine up_loop (fun n (q : Int32 × Int32) => u_X11_ofBandNow_54 Γ post (nI v) (nI k) n σ q.1 q.2) (fun i => (nI (fb_ct (ofBd x (nI v) (if k = 8 then 1 else 0)) i), nI i)) Γ.2.2.1 ?_ (fun i n hi hn => ?_)
    · show u_X11_ofBandNow_54 Γ post (nI v) (nI k) 1 σ (nI (fb_ct (ofBd x (nI v) (if k = 8 then 1 else 0)) Γ.2.2.1)) (nI Γ.2.2.1)
      unfold u_X11_ofBandNow_54 w_lw_Jx4a65c_size_8abf5
      rw [O.w]
      exact ⟨fun _ => h, fun c => absurd (le_self _) c⟩
    · have hn : ∀ u, u = nI (fb_ct (ofBd x (nI v) (if k = 8 then 1 else 0)) i + (if ofBd x (nI v) (if k = 8 then 1 else 0) i = true then 1 else 0)) → u_X11_ofBandNow_54 Γ post (nI v) (nI k) n σ u (nI (i + 1)) := fun u e => by rw [e]; exact hn
      have n1 : ofBd x (nI v) (if k = 8 then 1 else 0) i = true → u_X11_ofBandNow_54 Γ post (nI v) (nI k) n σ (nI (fb_ct (ofBd x (nI v) (if k = 8 then 1 else 0)) i) + 1) (nI (i + 1)) := fun q => hn _ (by rw [if_pos q, nI_1])
      have n0 : ¬ ofBd x (nI v) (if k = 8 then 1 else 0) i = true → u_X11_ofBandNow_54 Γ post (nI v) (nI k) n σ (nI (fb_ct (ofBd x (nI v) (if k = 8 then 1 else 0)) i) + 0) (nI (i + 1)) := fun q => hn _ (by rw [if_neg q, Int32.add_zero]; rfl)
      unfold ofBd at n1 n0
      rw [decide_eq_true_iff] at n1 n0
      show u_X11_ofBandNow_54 Γ post (nI v) (nI k) (n + 1) σ (nI (fb_ct (ofBd x (nI v) (if k = 8 then 1 else 0)) i)) (nI i)
      unfold ofBd
      unfold u_X11_ofBandNow_54 w_lw_Jx4a65c_size_8abf5
      rw [O.w, nI_1 i]
      refine ⟨fun c => absurd c (nI_ge hi (by omega)), fun _ => sf_wget O hi rfl ⟨⟨by omega, hi⟩, ?_⟩⟩
      rw [O.wd (j := 0) hi (by decide)]
      refine ⟨fun d1 => ⟨fun d2 => n1 ⟨d1, Or.inl ?_⟩, fun d2 => sf_wget O hi rfl ⟨⟨by omega, hi⟩, ?_⟩⟩, fun d1 => n0 (fun q => d1 q.1)⟩
      · have : k = 7 := (nI_eq (by omega) (by decide)).mp (show nI k = nI 7 from d2)
        rw [if_neg (by omega)]
      · have h8 : k = 8 := by
          have : k ≠ 7 := fun z => d2 (by rw [z]; rfl)
          omega
        rw [O.wd (j := 7) hi (by decide)]
        refine ⟨fun d3 => n1 ⟨d1, Or.inr d3⟩, fun d3 => n0 (fun q => q.2.elim (fun z => ?_) (fun z => d3 z))⟩
        rw [if_pos h8] at z
        exact absurd z (by decide)
  · unfold w_in_J6_intValue_8abf5
    have hk6 : k < 6 := by
      rcases Nat.lt_or_ge k 6 with d | d
      · exact d
      · exact absurd (k6.mpr d) c
    rw [if_pos hk6, g5 k hk6] at h
    rw [g1]
    exact law_X11_needed (by omega) h
theorem sy_ofBand {post : Int32 → MS → Prop} (O : rOk (tR x) Γ σ) (S : Sh x Γ)
    (h1 : (∀ w, w < Γ.2.1 → a1 ≠ nI w) → ∀ τ, rOk (tR x) Γ τ → τ 0 0 = 1 → post 0 τ)
    (h2 : ∀ w, w < Γ.2.1 → a1 = nI w → (∀ k, k ≤ 8 → a2 ≠ nI k) → ∀ τ, rOk (tR x) Γ τ → τ 0 0 = 2 → post 0 τ)
    (h3 : ∀ w k, w < Γ.2.1 → k ≤ 8 → a1 = nI w → a2 = nI k → ∀ τ, rOk (tR x) Γ τ → τ 0 0 = 0 → post (ofBF x Γ.2.2.1 w k) τ) : w_X11_ofBand Γ post σ a1 a2 := by
  unfold w_X11_ofBand
  have O0 := O.up (k := 0) (j := 0) (v := 0) (by unfold rPr; omega)
  exact sx_isBand O0 (fun no => ⟨fun _ => sx_refuse O0 (h1 no), fun c => absurd rfl c⟩) (fun w r hw e hr => ⟨fun c => absurd c hr, fun _ => sx_isr (lo := 0) (hi := 8) rfl rfl (by decide) (by decide) (fun no => ⟨fun _ => sx_refuse O0 (h2 w hw e (fun k hk => no k (by omega) hk)), fun c => absurd rfl c⟩) (fun k r2 _ hk e2 hr2 => ⟨fun c => absurd c hr2, fun _ => sy_ofBandNow O0 S hw e hk e2 (h3 w k hw hk e e2 _ O0 up2_same)⟩)⟩)
theorem sy_ofSongNow {post : Int32 → MS → Prop} {s k : Nat} (O : rOk (tR x) Γ σ) (hs : s < 16) (e : a1 = nI s) (hk : k ≤ 5) (e2 : a2 = nI k) (h : post (ofSF x Γ.1 s k) σ) : w_X11_ofSongNow Γ post σ a1 a2 := by
  have hP := O.hP
  subst e
  subst e2
  have kk : ∀ i, i < 6 → nI k = nI i → k = i := fun i hi q => (nI_eq (by omega) (by omega)).mp q
  have vs : vp_in (nI s) 16 := vp_in_nI hs (by decide)
  unfold w_X11_ofSongNow
  refine up_loop (fun n (q : Int32 × Int32) => u_X11_ofSongNow_5 Γ post (nI s) (nI k) n σ q.1 q.2) (fun i => (nI (fb_ct (fun q => bt (x (29 + q) 1) s) i), nI i)) Γ.1 ?_ (fun i n hi hn => ?_)
  · show u_X11_ofSongNow_5 Γ post (nI s) (nI k) 1 σ (nI (fb_ct (fun q => bt (x (29 + q) 1) s) Γ.1)) (nI Γ.1)
    unfold u_X11_ofSongNow_5 w_lp_Jx4a65c_size_8abf5
    rw [O.p]
    dsimp only
    rw [nI_clamp (by omega), O.sg0 hs, O.sg1 hs, O.sg2 hs, O.sg3 hs]
    refine ⟨fun _ => ⟨fun c => ⟨vs, ?_⟩, fun c0 => ⟨fun c => ⟨vs, ?_⟩, fun c1 => ⟨fun c => ⟨vs, ?_⟩, fun c2 => ⟨fun c => ⟨vs, ?_⟩, fun c3 => ⟨fun c => ?_, fun c4 => ?_⟩⟩⟩⟩⟩, fun c => absurd (le_self _) c⟩
    · obtain rfl := kk 0 (by decide) c; exact h
    · obtain rfl := kk 1 (by decide) c; exact h
    · obtain rfl := kk 2 (by decide) c; exact h
    · obtain rfl := kk 3 (by decide) c; exact h
    · obtain rfl := kk 4 (by decide) c; exact sy_share O hs h
    · have n : ∀ i, i < 6 → ¬ nI k = nI i → k ≠ i := fun i hi q z => q (by rw [z])
      have : k = 5 := by
        have := n 0 (by decide) c0
        have := n 1 (by decide) c1
        have := n 2 (by decide) c2
        have := n 3 (by decide) c3
        have := n 4 (by decide) c4
        omega
      subst this
      exact h
  · have hn : ∀ u, u = nI (fb_ct (fun q => bt (x (29 + q) 1) s) i + (if bt (x (29 + i) 1) s = true then 1 else 0)) → u_X11_ofSongNow_5 Γ post (nI s) (nI k) n σ u (nI (i + 1)) := fun u e => by rw [e]; exact hn
    show u_X11_ofSongNow_5 Γ post (nI s) (nI k) (n + 1) σ (nI (fb_ct (fun q => bt (x (29 + q) 1) s) i)) (nI i)
    unfold u_X11_ofSongNow_5 w_lp_Jx4a65c_size_8abf5
    rw [O.p, nI_1]
    refine ⟨fun c => absurd c (nI_ge hi (by omega)), fun _ => sf_pget O hi rfl ⟨⟨by omega, hi⟩, ?_⟩⟩
    rw [O.pl (j := 1) hi (by decide)]
    refine sx_isIn (by omega) ⟨fun c => hn _ ?_, fun c => hn _ ?_⟩
    · rw [if_neg (by rw [b01_0.mp c]; exact Bool.false_ne_true), Int32.add_zero]
      rfl
    · rw [if_pos (b01_1.mp c), nI_1]
theorem sy_ofSong {post : Int32 → MS → Prop} (O : rOk (tR x) Γ σ)
    (h1 : (∀ w, w < 16 → a1 ≠ nI w) → ∀ τ, rOk (tR x) Γ τ → τ 0 0 = 1 → post 0 τ)
    (h2 : ∀ w, w < 16 → a1 = nI w → (∀ k, k ≤ 5 → a2 ≠ nI k) → ∀ τ, rOk (tR x) Γ τ → τ 0 0 = 2 → post 0 τ)
    (h3 : ∀ w k, w < 16 → k ≤ 5 → a1 = nI w → a2 = nI k → ∀ τ, rOk (tR x) Γ τ → τ 0 0 = 0 → post (ofSF x Γ.1 w k) τ) : w_X11_ofSong Γ post σ a1 a2 := by
  unfold w_X11_ofSong
  have O0 := O.up (k := 0) (j := 0) (v := 0) (by unfold rPr; omega)
  exact sx_isr (lo := 0) (hi := 15) rfl rfl (by decide) (by decide) (fun no => ⟨fun _ => sx_refuse O0 (h1 (fun w hw => no w (by omega) (by omega))), fun c => absurd rfl c⟩) (fun w r _ hw e hr => ⟨fun c => absurd c hr, fun _ => sx_isr (lo := 0) (hi := 5) rfl rfl (by decide) (by decide) (fun no => ⟨fun _ => sx_refuse O0 (h2 w (by omega) e (fun k hk => no k (by omega) hk)), fun c => absurd rfl c⟩) (fun k r2 _ hk e2 hr2 => ⟨fun c => absurd c hr2, fun _ => sy_ofSongNow O0 (by omega) e hk e2 (h3 w k (by omega) hk e e2 _ O0 up2_same)⟩)⟩)
theorem sy_weddingsOf {post : Nat → (Nat → Int32) → MS → Prop} {p : Nat} (O : rOk (tR x) Γ σ) (hp : p < 32) (h : ∀ f τ, rOk (tR x) Γ τ → (∀ k, k < 64 → τ k = σ k) → f 0 = nI (fb_ct (fun w => fxw x w p) Γ.2.2.1) → f 1 = nI (fb_ct (plw x p) Γ.2.2.1) → f 2 = sumI (fun w => if plw x p w = true then x (73 + w) 4 else 0) Γ.2.2.1 → post 3 f τ) : w_X11_weddingsOf Γ post σ (nI p) := by
  have hW := O.hW
  have v0 : vp_in 0 3 := vp_in_nI (n := 0) (by decide) (by decide)
  have v1 : vp_in 1 3 := vp_in_nI (n := 1) (by decide) (by decide)
  have v2 : vp_in 2 3 := vp_in_nI (n := 2) (by decide) (by decide)
  have z0 : Int32.toNatClampNeg 0 = 0 := rfl
  have z1 : Int32.toNatClampNeg 1 = 1 := rfl
  have z2 : Int32.toNatClampNeg 2 = 2 := rfl
  -- the invariant
  have step : ∀ (K : MS → Int32 → Prop) (τ : MS) (v3 : Int32) (j : Nat), j < Γ.2.2.1 → rOk (tR x) Γ τ → (∀ k, k < 64 → τ k = σ k) → bt (x (73 + j) 8) p = true →
      (∀ τ', rOk (tR x) Γ τ' → (∀ k, k < 64 → τ' k = σ k) → τ' 64 0 = τ 64 0 + (if fxw x j p = true then 1 else 0) → τ' 64 1 = τ 64 1 + (if plw x p j = true then 1 else 0) → τ' 64 2 = τ 64 2 + (if plw x p j = true then x (73 + j) 4 else 0) → K τ' (v3 + 1)) →
      (x (73 + j) 7 = 1 → u_X11_weddingsOf_63 Γ post (nI p) K τ v3 j 1 (τ 64 0) 0) ∧ (¬ x (73 + j) 7 = 1 → u_X11_weddingsOf_63 Γ post (nI p) K τ v3 j 0 (τ 64 0) 0) := by
    intro K τ v3 j hj O hlo hb hK
    have u64 : ∀ {τ : MS} {i : Nat} {v : Int32}, rOk (tR x) Γ τ → rOk (tR x) Γ (up2 τ 64 i v) := fun O => O.up (by unfold rPr; omega)
    have hf : fxw x j p = decide (x (73 + j) 7 = 1) := by unfold fxw; rw [hb, Bool.and_true]
    have hl : plw x p j = decide (x (73 + j) 7 = 2) := by unfold plw; rw [hb, Bool.and_true]
    rw [hf, hl] at hK
    have fin : ∀ t0 : Int32, t0 = (if decide (x (73 + j) 7 = 1) = true then 1 else 0) → u_X11_weddingsOf_63 Γ post (nI p) K τ v3 j t0 (τ 64 0) 0 := fun t0 e0 => by
      unfold u_X11_weddingsOf_63
      rw [z0, z1, up2_off (k := 64) (j := 0) (k' := 33 + j) (j' := 7) (by omega), O.wd (j := 7) hj (by decide)]
      have go : ∀ t1 : Int32, t1 = (if decide (x (73 + j) 7 = 2) = true then 1 else 0) → u_X11_weddingsOf_83 Γ post (nI p) K (up2 τ 64 0 (τ 64 0 + t0)) v3 j t1 (up2 τ 64 0 (τ 64 0 + t0) 64 1) 1 := fun t1 e1 => by
        unfold u_X11_weddingsOf_83
        rw [z1, z2, up2_off (k := 64) (j := 1) (k' := 33 + j) (j' := 7) (by omega), up2_off (k := 64) (j := 0) (k' := 33 + j) (j' := 7) (by omega), O.wd (j := 7) hj (by decide), up2_off (k := 64) (j := 1) (k' := 33 + j) (j' := 4) (by omega), up2_off (k := 64) (j := 0) (k' := 33 + j) (j' := 4) (by omega), O.wd (j := 4) hj (by decide), up2_off (k := 64) (j := 1) (k' := 64) (j' := 2) (by omega), up2_off (k := 64) (j := 0) (k' := 64) (j' := 2) (by omega), up2_off (k := 64) (j := 0) (k' := 64) (j' := 1) (by omega)]
        have lo : ∀ v, ∀ k, k < 64 → up2 (up2 (up2 τ 64 0 (τ 64 0 + t0)) 64 1 (τ 64 1 + t1)) 64 2 v k = σ k := fun v k hk => by
          rw [up2_ne (by omega), up2_ne (by omega), up2_ne (by omega)]
          exact hlo k hk
        refine ⟨v1, v2, fun c => ⟨v2, hK _ (u64 (u64 (u64 O))) (lo _) ?_ ?_ ?_⟩, fun c => ⟨v2, hK _ (u64 (u64 (u64 O))) (lo _) ?_ ?_ ?_⟩⟩
        · rw [up2_off (by omega), up2_off (by omega), up2_same, e0]
        · rw [up2_off (by omega), up2_same, e1]
        · rw [up2_same, decide_eq_true c, if_pos rfl]
        · rw [up2_off (by omega), up2_off (by omega), up2_same, e0]
        · rw [up2_off (by omega), up2_same, e1]
        · rw [up2_same, decide_eq_false c, if_neg Bool.false_ne_true]
      exact ⟨v0, v1, fun c => go 1 (by rw [decide_eq_true c, if_pos rfl]), fun c => go 0 (by rw [decide_eq_false c, if_neg Bool.false_ne_true])⟩
    exact ⟨fun c => fin 1 (by rw [decide_eq_true c, if_pos rfl]), fun c => fin 0 (by rw [decide_eq_false c, if_neg Bool.false_ne_true])⟩
  unfold w_X11_weddingsOf
  have O1 := O.rw0 (k := 64) (f := fun _ => 0) (by decide)
  have := inv_loop (fun k (q : MS × Int32) => u_X11_weddingsOf_6 Γ post (nI p) k q.1 q.2) (fun j q => (rOk (tR x) Γ q.1 ∧ (∀ k, k < 64 → q.1 k = σ k) ∧ q.1 64 0 = nI (fb_ct (fun w => fxw x w p) j) ∧ q.1 64 1 = nI (fb_ct (plw x p) j) ∧ q.1 64 2 = sumI (fun w => if plw x p w = true then x (73 + w) 4 else 0) j) ∧ q.2 = nI j) Γ.2.2.1 (by
    rintro ⟨τ, v⟩ ⟨⟨O, hlo, e0, e1, e2⟩, rfl⟩
    have O : rOk (tR x) Γ τ := O
    show u_X11_weddingsOf_6 Γ post (nI p) 1 τ (nI Γ.2.2.1)
    unfold u_X11_weddingsOf_6 w_lw_Jx4a65c_size_8abf5
    rw [O.w]
    dsimp only
    rw [mrg_self]
    exact ⟨fun _ => h _ _ O hlo e0 e1 e2, fun c => absurd (le_self _) c⟩) (by
    rintro j k ⟨τ, v⟩ hj ⟨⟨O, hlo, e0, e1, e2⟩, rfl⟩ ih
    have O : rOk (tR x) Γ τ := O
    have e0 : τ 64 0 = nI (fb_ct (fun w => fxw x w p) j) := e0
    have e1 : τ 64 1 = nI (fb_ct (plw x p) j) := e1
    have e2 : τ 64 2 = sumI (fun w => if plw x p w = true then x (73 + w) 4 else 0) j := e2
    have nx : ∀ τ', rOk (tR x) Γ τ' → (∀ k, k < 64 → τ' k = σ k) → τ' 64 0 = nI (fb_ct (fun w => fxw x w p) (j + 1)) → τ' 64 1 = nI (fb_ct (plw x p) (j + 1)) → τ' 64 2 = sumI (fun w => if plw x p w = true then x (73 + w) 4 else 0) (j + 1) → u_X11_weddingsOf_6 Γ post (nI p) k τ' (nI j + 1) := fun τ' O' l' a0 a1 a2 => by rw [nI_1]; exact ih (τ', nI (j + 1)) ⟨⟨O', l', a0, a1, a2⟩, rfl⟩
    have ct : ∀ (f : Nat → Bool) (u : Int32), u = nI (fb_ct f j) + (if f j = true then 1 else 0) → u = nI (fb_ct f (j + 1)) := fun f u e => by
      rw [e, fb_ct_succ]
      cases f j with
      | true => rw [if_pos rfl, if_pos rfl, nI_1]
      | false => rw [if_neg Bool.false_ne_true, if_neg Bool.false_ne_true, Int32.add_zero]; rfl
    show u_X11_weddingsOf_6 Γ post (nI p) (k + 1) τ (nI j)
    unfold u_X11_weddingsOf_6 w_lw_Jx4a65c_size_8abf5
    rw [O.w]
    dsimp only
    rw [mrg_self]
    refine ⟨fun c => absurd c (nI_ge hj (by omega)), fun _ => sf_wget O hj rfl ⟨⟨by omega, hj⟩, ?_⟩⟩
    rw [mrg_self, O.wd (j := 8) hj (by decide)]
    refine sx_isIn hp ⟨fun c => ?_, fun c => ⟨v0, ?_⟩⟩
    · rw [mrg_self]
      have nb := b01_0.mp c
      have hf : fxw x j p = false := by unfold fxw; rw [nb, Bool.and_false]
      have hl : plw x p j = false := by unfold plw; rw [nb, Bool.and_false]
      refine nx _ O hlo (ct (fun w => fxw x w p) _ ?_) (ct (plw x p) _ ?_) ?_
      · rw [e0]; show _ = _ + (if fxw x j p = true then 1 else 0); rw [hf, if_neg Bool.false_ne_true, Int32.add_zero]
      · rw [e1, hl, if_neg Bool.false_ne_true, Int32.add_zero]
      · rw [e2]
        show _ = _ + (if plw x p j = true then x (73 + j) 4 else 0)
        rw [hl, if_neg Bool.false_ne_true, Int32.add_zero]
    · rw [mrg_self, z0, O.wd (j := 7) hj (by decide)]
      exact step _ τ (nI j) j hj O hlo (b01_1.mp c) (fun τ' O' l' a0 a1 a2 => nx τ' O' l' (ct (fun w => fxw x w p) _ (by rw [a0, e0])) (ct (plw x p) _ (by rw [a1, e1])) (by rw [a2, e2]; rfl))) 0 (by omega) (rw0 σ 64 (fun _ => 0), 0) ⟨⟨O1, fun k hk => rw0_ne (by omega), by show rw0 σ 64 (fun _ => 0) 64 0 = _; rw [rw0_eq]; exact nI_0.symm, by show rw0 σ 64 (fun _ => 0) 64 1 = _; rw [rw0_eq]; exact nI_0.symm, by show rw0 σ 64 (fun _ => 0) 64 2 = _; rw [rw0_eq]; rfl⟩, nI_0.symm⟩
  exact this
theorem sy_ofPlayerNow {post : Int32 → MS → Prop} {p k : Nat} (O : rOk (tR x) Γ σ) (PL : PlI x Γ.2.2.1) (hp : p < Γ.1) (e : a1 = nI p) (hk : k ≤ 8) (e2 : a2 = nI k) (h : ∀ τ, rOk (tR x) Γ τ → (∀ k, k < 64 → τ k = σ k) → post (ofPF x Γ.2.2.1 p k) τ) : w_X11_ofPlayerNow Γ post σ a1 a2 := by
  have hP := O.hP
  subst e
  subst e2
  have kk : ∀ i, i < 9 → nI k = nI i → k = i := fun i hi q => (nI_eq (by omega) (by omega)).mp q
  unfold w_X11_ofPlayerNow
  refine sf_pget O hp rfl ⟨⟨by omega, hp⟩, ?_⟩
  rw [O.pl (j := 0) hp (by decide), O.pl (j := 1) hp (by decide), O.pl (j := 2) hp (by decide), O.pl (j := 3) hp (by decide), O.pl (j := 4) hp (by decide), O.pl (j := 5) hp (by decide)]
  refine ⟨fun c => ?_, fun c0 => ⟨fun c => ?_, fun c1 => ⟨fun c => ?_, fun c2 => ⟨fun c => ?_, fun c3 => ⟨fun c => ?_, fun c4 => ⟨fun c => ?_, fun c5 => ?_⟩⟩⟩⟩⟩⟩
  · obtain rfl := kk 0 (by decide) c; exact h _ O (fun _ _ => rfl)
  · obtain rfl := kk 1 (by decide) c; exact h _ O (fun _ _ => rfl)
  · obtain rfl := kk 2 (by decide) c; exact h _ O (fun _ _ => rfl)
  · obtain rfl := kk 3 (by decide) c; exact h _ O (fun _ _ => rfl)
  · obtain rfl := kk 4 (by decide) c; exact h _ O (fun _ _ => rfl)
  · obtain rfl := kk 5 (by decide) c; exact h _ O (fun _ _ => rfl)
  · have n : ∀ i, i < 6 → ¬ nI k = nI i → k ≠ i := fun i hi q z => q (by rw [z])
    have h6 : 6 ≤ k := by
      have := n 0 (by decide) c0
      have := n 1 (by decide) c1
      have := n 2 (by decide) c2
      have := n 3 (by decide) c3
      have := n 4 (by decide) c4
      have := n 5 (by decide) c5
      omega
    obtain ⟨m6, m7⟩ := PL p (by omega)
    refine sy_weddingsOf O (by omega) (fun f τ O' hlo f0 f1 f2 => ?_)
    have O2 : rOk (tR x) Γ (rw0 (mrg τ σ) 64 f) := O'.mrg.rw0 (by decide)
    have h2 := h _ O2 (fun k hk => by rw [rw0_ne (by omega), mrg_lo hk, hlo k hk])
    have kc : k = 6 ∨ k = 7 ∨ k = 8 := by omega
    rw [rw0_eq]
    rcases kc with rfl | rfl | rfl
    · rw [show (nI 6 - 6 : Int32) = nI 0 by decide]
      exact ⟨vp_in_nI (by decide) (by decide), by rw [nI_clamp (by decide), f0]; exact h2⟩
    · rw [show (nI 7 - 6 : Int32) = nI 1 by decide]
      have h2 : post (x (29 + p) 6) _ := h2
      rw [m6] at h2
      exact ⟨vp_in_nI (by decide) (by decide), by rw [nI_clamp (by decide), f1]; exact h2⟩
    · rw [show (nI 8 - 6 : Int32) = nI 2 by decide]
      have h2 : post (x (29 + p) 7) _ := h2
      rw [m7] at h2
      exact ⟨vp_in_nI (by decide) (by decide), by rw [nI_clamp (by decide), f2]; exact h2⟩
theorem sy_ofPlayer {post : Int32 → MS → Prop} (O : rOk (tR x) Γ σ) (PL : PlI x Γ.2.2.1)
    (h1 : (∀ w, w < Γ.1 → a1 ≠ nI w) → ∀ τ, rOk (tR x) Γ τ → τ 0 0 = 1 → post 0 τ)
    (h2 : ∀ w, w < Γ.1 → a1 = nI w → (∀ k, k ≤ 8 → a2 ≠ nI k) → ∀ τ, rOk (tR x) Γ τ → τ 0 0 = 2 → post 0 τ)
    (h3 : ∀ w k, w < Γ.1 → k ≤ 8 → a1 = nI w → a2 = nI k → ∀ τ, rOk (tR x) Γ τ → τ 0 0 = 0 → post (ofPF x Γ.2.2.1 w k) τ) : w_X11_ofPlayer Γ post σ a1 a2 := by
  unfold w_X11_ofPlayer
  have O0 := O.up (k := 0) (j := 0) (v := 0) (by unfold rPr; omega)
  exact sx_isPlayer O0 (fun no => ⟨fun _ => sx_refuse O0 (h1 no), fun c => absurd rfl c⟩) (fun w r hw e hr => ⟨fun c => absurd c hr, fun _ => sx_isr (lo := 0) (hi := 8) rfl rfl (by decide) (by decide) (fun no => ⟨fun _ => sx_refuse O0 (h2 w hw e (fun k hk => no k (by omega) hk)), fun c => absurd rfl c⟩) (fun k r2 _ hk e2 hr2 => ⟨fun c => absurd c hr2, fun _ => sy_ofPlayerNow O0 PL hw e hk e2 (fun τ O' hlo => h3 w k hw hk e e2 τ O' (by rw [hlo 0 (by decide)]; exact up2_same))⟩)⟩)
theorem sy_free {post : Int32 → MS → Prop} (O : rOk (tR x) Γ σ) (Y : Sy x)
    (h1 : ((∀ p, p < Γ.1 → a1 ≠ nI p) ∨ (∀ w, w < Γ.2.2.1 → a2 ≠ nI w)) → ∀ τ, rOk (tR x) Γ τ → τ 0 0 = 1 → post 0 τ)
    (h3 : ∀ p w, p < Γ.1 → w < Γ.2.2.1 → a1 = nI p → a2 = nI w → ∀ τ, rOk (tR x) Γ τ → τ 0 0 = 0 → post (b01 (freeB (stg x Γ.2.2.1) p w Γ.2.2.1)) τ) : w_X11_free Γ post σ a1 a2 := by
  unfold w_X11_free u_X11_free_21
  have bad : (∀ τ, rOk (tR x) Γ τ → τ 0 0 = 1 → post 0 τ) → u_X11_free_22 Γ post a1 a2 σ 1 := fun h => by
    unfold u_X11_free_22
    rw [up2_same]
    exact ⟨fun c => absurd c (by decide), fun _ => h _ (O.up (by unfold rPr; omega)) up2_same⟩
  refine sx_isPlayer O (fun no => ⟨fun _ => bad (h1 (Or.inl no)), fun c => absurd rfl c⟩) (fun p r hp e hr => ⟨fun c => absurd c hr, fun _ => sx_isWedding O (fun no => ⟨fun _ => bad (h1 (Or.inr no)), fun c => absurd rfl c⟩) (fun w r2 hw e2 hr2 => ⟨fun c => absurd c hr2, fun _ => ?_⟩)⟩)
  have O0 := O.up (k := 0) (j := 0) (v := 0) (by unfold rPr; omega)
  have h3 := h3 p w hp hw e e2 _ O0 up2_same
  unfold u_X11_free_22
  rw [up2_same]
  refine ⟨fun _ => sy_isFree O0 Y hp e hw e2 ⟨fun c => ?_, fun c => ?_⟩, fun c => absurd rfl c⟩
  · rw [b01_0.mp c] at h3; exact h3
  · rw [b01_1.mp c] at h3; exact h3
theorem sn_5 {P W : Nat} (hP : P ≤ 10) : snF x w P W 9 5 = whyR x w P (freeF (stg x W) w W P) := by
  obtain ⟨F, hF, em⟩ := freeF_lt (y := stg x W) (w := w) (W := W) P hP
  rw [(sn_9 (x := x) (w := w) (W := W) hP).2 5 (by decide), em]
  exact surv_why hP hF
theorem sy_fillingNow {post : Int32 → MS → Prop} {k : Nat} (O : rOk (tR x) Γ σ) (Y : Sy x) (S : Sh x Γ) (G : Gs x) (hw : w < Γ.2.2.1) (e : a1 = nI w) (hk : k ≤ 3) (e2 : a2 = nI k) (h : post (fillF (snF x w Γ.1 Γ.2.2.1) k) σ) : w_X11_fillingNow Γ post σ a1 a2 := by
  have hW := O.hW
  have hP := O.hP
  subst e2
  have kk : ∀ i, i < 4 → nI k = nI i → k = i := fun i hi q => (nI_eq (by omega) (by omega)).mp q
  have s0 := sn_0 (x := x) (w := w) (W := Γ.2.2.1) hP
  have s1 := sn_1 (x := x) (w := w) (W := Γ.2.2.1) hP
  unfold w_X11_fillingNow
  refine ⟨fun c => ?_, fun c2 => ⟨fun c => ?_, fun c3 => sy_best O Y S G hw e ?_⟩⟩
  · obtain rfl := kk 2 (by decide) c
    have h : post (snF x w Γ.1 Γ.2.2.1 9 3) σ := h
    rw [sn_3 hP] at h
    exact sy_fillings O Y S G hw e h
  · obtain rfl := kk 3 (by decide) c
    have h : post (snF x w Γ.1 Γ.2.2.1 9 5) σ := h
    rw [sn_5 hP] at h
    exact sy_why O Y S G hw e h
  · rw [and_all]
    unfold frR
    refine ⟨fun c => ?_, fun c => ⟨fun d => ?_, fun d => sf_wget O hw e ⟨⟨by omega, hw⟩, sy_costOf O Y hw ?_⟩⟩⟩
    · obtain rfl := kk 0 (by decide) c
      have h : post (snF x w Γ.1 Γ.2.2.1 9 0) σ := h
      rw [s0] at h
      exact h
    · have : k = 1 := by
        have q2 : k ≠ 2 := fun z => c2 (by rw [z]; rfl)
        have q3 : k ≠ 3 := fun z => c3 (by rw [z]; rfl)
        have q0 : k ≠ 0 := fun z => c (by rw [z]; rfl)
        omega
      subst this
      have h : post (snF x w Γ.1 Γ.2.2.1 9 1) σ := h
      rw [s1, if_pos d] at h
      rw [d]
      exact h
    · have : k = 1 := by
        have q2 : k ≠ 2 := fun z => c2 (by rw [z]; rfl)
        have q3 : k ≠ 3 := fun z => c3 (by rw [z]; rfl)
        have q0 : k ≠ 0 := fun z => c (by rw [z]; rfl)
        omega
      subst this
      have h : post (snF x w Γ.1 Γ.2.2.1 9 1) σ := h
      rw [s1, if_neg d] at h
      exact h
theorem sy_filling {post : Int32 → MS → Prop} (O : rOk (tR x) Γ σ) (Y : Sy x) (S : Sh x Γ) (G : Gs x)
    (h1 : (∀ w, w < Γ.2.2.1 → a1 ≠ nI w) → ∀ τ, rOk (tR x) Γ τ → τ 0 0 = 1 → post 0 τ)
    (h2 : ∀ w, w < Γ.2.2.1 → a1 = nI w → (∀ k, k ≤ 3 → a2 ≠ nI k) → ∀ τ, rOk (tR x) Γ τ → τ 0 0 = 2 → post 0 τ)
    (h3 : ∀ w k, w < Γ.2.2.1 → k ≤ 3 → a1 = nI w → a2 = nI k → ∀ τ, rOk (tR x) Γ τ → τ 0 0 = 0 → post (fillF (snF x w Γ.1 Γ.2.2.1) k) τ) : w_X11_filling Γ post σ a1 a2 := by
  unfold w_X11_filling
  have O0 := O.up (k := 0) (j := 0) (v := 0) (by unfold rPr; omega)
  exact sx_isWedding O0 (fun no => ⟨fun _ => sx_refuse O0 (h1 no), fun c => absurd rfl c⟩) (fun w r hw e hr => ⟨fun c => absurd c hr, fun _ => sx_isr (lo := 0) (hi := 3) rfl rfl (by decide) (by decide) (fun no => ⟨fun _ => sx_refuse O0 (h2 w hw e (fun k hk => no k (by omega) hk)), fun c => absurd rfl c⟩) (fun k r2 _ hk e2 hr2 => ⟨fun c => absurd c hr2, fun _ => sy_fillingNow O0 Y S G hw e hk e2 (h3 w k hw hk e e2 _ O0 up2_same)⟩)⟩)
theorem keyF_go {s : Int32} {U : Nat → Int32 → Prop} {post : Int32 → Prop} : ∀ n i, post (keyF s n i) → (∀ j k, i ≤ j → j < i + n → (bt s j = true → post (nI j)) → (¬ bt s j = true → U k (nI j + 1)) → U (k + 1) (nI j)) → (∀ k, post (-1) → U (k + 1) (nI (i + n))) → U (n + 1) (nI i)
  | 0, i, h, _, hz => hz 0 h
  | n + 1, i, h, hs, hz => by
    unfold keyF at h
    refine hs i (n + 1) (Nat.le_refl i) (by omega) (fun c => by rw [if_pos c] at h; exact h) (fun c => ?_)
    rw [if_neg c] at h
    rw [nI_1]
    exact keyF_go n (i + 1) h (fun j k h1 h2 => hs j k (by omega) (by omega)) (fun k hp => by rw [show i + 1 + n = i + (n + 1) by omega]; exact hz k hp)
theorem sy_key {post : Int32 → MS → Prop} (O : rOk (tR x) Γ σ) (Y : Sy x) (S : Sh x Γ) (G : Gs x)
    (h1 : (∀ w, w < Γ.2.2.1 → a1 ≠ nI w) → ∀ τ, rOk (tR x) Γ τ → τ 0 0 = 1 → post 0 τ)
    (h3 : ∀ w, w < Γ.2.2.1 → a1 = nI w → ∀ τ, rOk (tR x) Γ τ → τ 0 0 = 0 → post (if snF x w Γ.1 Γ.2.2.1 9 3 = 0 then -1 else keyF (snF x w Γ.1 Γ.2.2.1 9 4) Γ.1 0) τ) : w_X11_key Γ post σ a1 := by
  have hP := O.hP
  unfold w_X11_key
  have O0 := O.up (k := 0) (j := 0) (v := 0) (by unfold rPr; omega)
  refine sx_isWedding O0 (fun no => ⟨fun _ => sx_refuse O0 (h1 no), fun c => absurd rfl c⟩) (fun w r hw e hr => ⟨fun c => absurd c hr, fun _ => sy_best O0 Y S G hw e ?_⟩)
  have h3 := h3 w hw e _ O0 up2_same
  rw [and_all]
  have hno := sn_no (x := x) (w := w) (W := Γ.2.2.1) hP
  obtain ⟨F, hF, em⟩ := freeF_lt (y := stg x Γ.2.2.1) (w := w) (W := Γ.2.2.1) Γ.1 hP
  have e4 : snF x w Γ.1 Γ.2.2.1 9 4 = alR x w Γ.1 (nI F) (2 ^ Γ.1 - 1) := by
    obtain ⟨q1, q2⟩ := sn_9 (x := x) (w := w) (W := Γ.2.2.1) hP
    rw [q2 4 (by decide), ← em]
    exact q1.2.2.2.2.1
  unfold frR
  refine ⟨fun d => ?_, fun d => ⟨Γ.1 + 1, ?_⟩⟩
  · rw [if_pos (hno.mpr d)] at h3
    exact h3
  · rw [if_neg (fun z => d (hno.mp z)), e4] at h3
    refine keyF_go (s := alR x w Γ.1 (nI F) (2 ^ Γ.1 - 1)) (U := fun k v => u_X11_key_34 Γ post a1 k (up2 σ 0 0 0) v) (post := fun v => post v (up2 σ 0 0 0)) Γ.1 0 h3 (fun j k g1 g2 hp hn => ?_) (fun k hp => ?_)
    · have hj : j < Γ.1 := by omega
      show u_X11_key_34 Γ post a1 (k + 1) (up2 σ 0 0 0) (nI j)
      unfold u_X11_key_34 w_lp_Jx4a65c_size_8abf5
      rw [O0.p]
      refine ⟨fun c => absurd c (nI_ge hj (by omega)), fun _ => sy_best O0 Y S G hw e ?_⟩
      have hk := key_is (x := x) (w := w) hP hF hj
      unfold frR
      rw [em]
      exact ⟨fun c => hp (hk.mp c), fun c => hn (fun z => c (hk.mpr z))⟩
    · show u_X11_key_34 Γ post a1 (k + 1) (up2 σ 0 0 0) (nI (0 + Γ.1))
      unfold u_X11_key_34 w_lp_Jx4a65c_size_8abf5
      rw [O0.p, Nat.zero_add]
      exact ⟨fun _ => hp, fun c => absurd (le_self _) c⟩
end ASKB
