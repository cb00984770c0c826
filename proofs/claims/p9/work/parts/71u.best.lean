/-! THE BEST SET, EXACTLY: what some players know; set -/
section BEST5
variable {Tm : MS} {Γ : RG} {σ τ ρ : MS} {a a1 a2 b : Int32}
/-- how many of the first n, of the set a, know the song s; K their songs -/
def knC (K : Nat → Int32) (a : Int32) (s : Nat) : Nat → Nat
  | 0 => 0
  | n + 1 => knC K a s n + if bt a n = true ∧ bt (K n) s = true then 1 else 0
def knP (K : Nat → Int32) (a : Int32) (n s : Nat) : Prop := 2 ≤ knC K a s n ∨ (knC K a s n = 1 ∧ bcI a = 1)
theorem knC_le {K : Nat → Int32} {a : Int32} {s : Nat} : ∀ n, knC K a s n ≤ n
  | 0 => Nat.le_refl _
  | n + 1 => by
    have := knC_le (K := K) (a := a) (s := s) n
    unfold knC
    split <;> omega
theorem knC_cg {K L : Nat → Int32} {a : Int32} {s : Nat} : ∀ n, (∀ p, p < n → K p = L p) → knC K a s n = knC L a s n
  | 0, _ => rfl
  | n + 1, h => by
    unfold knC
    rw [knC_cg n (fun p hp => h p (by omega)), h n (by omega)]
theorem kn_bt {σ : MS} {a : Int32} {s : Nat} : ∀ n, bt (kn σ a n).1 s = decide (1 ≤ knC (fun p => σ (29 + p) 1) a s n) ∧ bt (kn σ a n).2 s = decide (2 ≤ knC (fun p => σ (29 + p) 1) a s n)
  | 0 => by
    unfold kn knC
    exact ⟨(b_0 s).trans (decide_eq_false (by omega)).symm, (b_0 s).trans (decide_eq_false (by omega)).symm⟩
  | n + 1 => by
    obtain ⟨i1, i2⟩ := kn_bt (σ := σ) (a := a) (s := s) n
    unfold kn knC
    by_cases c : bt a n = true
    · rw [if_pos c]
      dsimp only
      rw [b_or, b_or, b_and, i1, i2]
      cases d : bt (σ (29 + n) 1) s with
      | true =>
        rw [if_pos ⟨c, rfl⟩]
        constructor
        · rw [Bool.or_true, decide_eq_true (by omega)]
        · rw [Bool.and_true, Bool.eq_iff_iff, Bool.or_eq_true, decide_eq_true_iff, decide_eq_true_iff, decide_eq_true_iff]
          omega
      | false =>
        rw [if_neg (fun z => by cases z.2), Nat.add_zero, Bool.or_false, Bool.and_false, Bool.or_false]
        exact ⟨rfl, rfl⟩
    · rw [if_neg c, if_neg (fun z => c z.1), Nat.add_zero]
      exact ⟨i1, i2⟩
theorem playF_bt {σ : MS} {a : Int32} {n s : Nat} : bt (playF σ a n) s = true ↔ knP (fun p => σ (29 + p) 1) a n s := by
  obtain ⟨i1, i2⟩ := kn_bt (σ := σ) (a := a) (s := s) n
  unfold playF knP
  by_cases c : bcI a = 1
  · rw [if_pos c, i1, decide_eq_true_iff]
    constructor
    · intro h
      rcases Nat.lt_or_ge (knC (fun p => σ (29 + p) 1) a s n) 2 with d | d
      · exact Or.inr ⟨by omega, c⟩
      · exact Or.inl d
    · rintro (h | h) <;> omega
  · rw [if_neg c, i2, decide_eq_true_iff]
    constructor
    · exact Or.inl
    · rintro (h | h)
      · exact h
      · exact absurd h.2 c
theorem sx_isKnown {post : Int32 → MS → Prop} {s : Nat} (O : rOk Tm Γ σ) (hs : s < 16) (h1 : knP (fun p => σ (13 + p) 1) a1 Γ.1 s → post 1 σ) (h0 : ¬ knP (fun p => σ (13 + p) 1) a1 Γ.1 s → post 0 σ) : w_X11_isKnown Γ post σ a1 (nI s) := by
  have hP := O.hP
  unfold w_X11_isKnown
  have := inv_loop (fun k (q : Int32 × Int32) => u_X11_isKnown_5 Γ post a1 (nI s) k σ q.1 q.2) (fun j q => q.1 = nI (knC (fun p => σ (13 + p) 1) a1 s j) ∧ q.2 = nI j) Γ.1 (by
    rintro ⟨x, v⟩ ⟨rfl, rfl⟩
    have hc := knC_le (K := fun p => σ (13 + p) 1) (a := a1) (s := s) Γ.1
    unfold knP at h1 h0
    show u_X11_isKnown_5 Γ post a1 (nI s) 1 σ (nI (knC (fun p => σ (13 + p) 1) a1 s Γ.1)) (nI Γ.1)
    generalize knC (fun p => σ (13 + p) 1) a1 s Γ.1 = cc at h1 h0 hc
    unfold u_X11_isKnown_5 w_lp_Jx4a65c_size_8abf5
    rw [O.p]
    refine ⟨fun _ => ⟨fun c => h1 (Or.inl ?_), fun c => ⟨fun d => sx_bc ⟨fun e => h1 (Or.inr ⟨?_, e⟩), fun e => h0 (fun z => ?_)⟩, fun d => h0 (fun z => ?_)⟩⟩, fun c => absurd (le_self _) c⟩
    · rcases Nat.lt_or_ge cc 2 with g | g
      · exact absurd (show nI 2 ≤ nI cc from c) (nI_ge g (by decide))
      · exact g
    · exact (nI_eq (by omega) (by decide)).mp (show nI cc = nI 1 from d)
    · rcases z with z | z
      · exact c (show nI 2 ≤ nI cc from nI_le' z (by omega))
      · exact e z.2
    · rcases z with z | z
      · exact c (show nI 2 ≤ nI cc from nI_le' z (by omega))
      · exact d (by rw [z.1]; rfl)) (by
    rintro j k ⟨x, v⟩ hj ⟨rfl, rfl⟩ ih
    have st : ∀ w, w = nI (knC (fun p => σ (13 + p) 1) a1 s (j + 1)) → u_X11_isKnown_5 Γ post a1 (nI s) k σ w (nI j + 1) := fun w e => by rw [nI_1, e]; exact ih (_, nI (j + 1)) ⟨rfl, rfl⟩
    show u_X11_isKnown_5 Γ post a1 (nI s) (k + 1) σ (nI (knC (fun p => σ (13 + p) 1) a1 s j)) (nI j)
    unfold u_X11_isKnown_5 w_lp_Jx4a65c_size_8abf5
    rw [O.p]
    unfold knC at st
    refine ⟨fun c => absurd c (nI_ge hj (by omega)), fun _ => sx_isIn (by omega) ⟨fun c => ?_, fun c => sf_pget O hj rfl ⟨⟨by omega, hj⟩, sx_isIn (by omega) ⟨fun d => ?_, fun d => ?_⟩⟩⟩⟩
    · refine st _ ?_
      rw [if_neg (fun z => by rw [b01_0.mp c] at z; cases z.1)]
      show _ + nI 0 = _
      rw [nI_add]
    · refine st _ ?_
      rw [if_neg (fun z => by have y := z.2; rw [b01_0.mp d] at y; cases y)]
      show _ + nI 0 = _
      rw [nI_add]
    · refine st _ ?_
      rw [if_pos ⟨b01_1.mp c, b01_1.mp d⟩]
      show _ + nI 1 = _
      rw [nI_add]) 0 (by omega) (0, 0) ⟨nI_0.symm, nI_0.symm⟩
  exact this
theorem rwSum_cg {f g : Nat → Int32} {R : Nat → Nat} : ∀ n, (∀ i, i < n → f (R i) = g (R i)) → rwSum f R n = rwSum g R n
  | 0, _ => rfl
  | n + 1, h => by
    unfold rwSum
    rw [rwSum_cg n (fun i hi => h i (by omega)), h n (by omega)]
theorem rwSum_R {f : Nat → Int32} {R Q : Nat → Nat} : ∀ n, (∀ i, i < n → R i = Q i) → rwSum f R n = rwSum f Q n
  | 0, _ => rfl
  | n + 1, h => by
    unfold rwSum
    rw [rwSum_R n (fun i hi => h i (by omega)), h n (by omega)]
/-- set: what it answers; p says which songs can be played -/
theorem sx_set {p : Int32} {post : Int32 → MS → Prop} (O : rOk Tm Γ σ) (hp : ∀ s, s < 16 → (bt p s = true ↔ knP (fun q => σ (13 + q) 1) a1 Γ.1 s))
    (h1 : ¬ (0 ≤ a1 ∧ a1 < nI (2 ^ Γ.1)) → ∀ τ, rOk Tm Γ τ → τ 0 0 = 1 → post 0 τ)
    (h2 : 0 ≤ a1 ∧ a1 < nI (2 ^ Γ.1) → ∀ (len : Nat) (R G : Nat → Nat), len ≤ 16 → gOk (up2 σ 0 0 0) (fun s => bt p s = true) G → rwOk (up2 σ 0 0 0) (fun s => bt p s = true) G len R → ∀ τ, rOk Tm Γ τ → τ 0 0 = 0 → post (if a2 = 0 then nI len else rwSum (fun s => up2 σ 0 0 0 9 s) R len) τ) : w_X11_set Γ post σ a1 a2 := by
  unfold w_X11_set u_X11_set_22 w_lp_Jx4a65c_size_8abf5
  have hP := O.hP
  have O := O.up (k := 0) (j := 0) (v := 0) (by unfold rPr; omega)
  have z0 : up2 σ 0 0 0 0 0 = 0 := up2_same
  have kq : ∀ q j, up2 σ 0 0 0 (13 + q) j = σ (13 + q) j := fun q j => up2_off (by omega)
  rw [O.p]
  dsimp only
  rw [shl1 Γ.1 hP]
  refine ⟨fun c => sx_refuse O (h1 (fun z => Int32.not_lt.mpr z.1 c)), fun c => ⟨fun d => ?_, fun d => sx_refuse O (h1 (fun z => d z.2))⟩⟩
  have h2 := h2 ⟨Int32.not_lt.mp c, d⟩
  have kn : ∀ (τ : MS) (s : Nat) (post' : Int32 → MS → Prop), s < 16 → (∀ k, k < 64 → τ k = up2 σ 0 0 0 k) → rOk Tm Γ τ → (bt p s = true → post' 1 τ) → (¬ bt p s = true → post' 0 τ) → w_X11_isKnown Γ post' τ a1 (nI s) := fun τ s post' hs hlo O' g1 g0 => by
    have e : knC (fun q => τ (13 + q) 1) a1 s Γ.1 = knC (fun q => σ (13 + q) 1) a1 s Γ.1 := knC_cg _ (fun q hq => by rw [hlo (13 + q) (by omega)]; exact kq q 1)
    have e2 : knP (fun q => τ (13 + q) 1) a1 Γ.1 s ↔ bt p s = true := by
      rw [hp s hs]
      unfold knP
      rw [e]
    exact sx_isKnown O' hs (fun z => g1 (e2.mp z)) (fun z => g0 (fun y => z (e2.mpr y)))
  refine ⟨fun e => ?_, fun e => ?_⟩
  · refine sx_bestSet O kn (fun len f τ R G hlo O' hl hG hrw hf => ?_)
    have := h2 len R G hl hG hrw (rw0 (mrg τ (up2 σ 0 0 0)) 64 f) (O'.mrg.rw0 (by decide)) (by rw [rw0_ne (by decide), mrg_lo (by decide), hlo 0 (by decide)]; exact z0)
    rw [if_pos e] at this
    exact this
  · unfold w_X11_minutesOf
    refine sx_bestSet O kn (fun len f τ R G hlo O' hl hG hrw hf => ?_)
    have O2 : rOk Tm Γ (rw0 (mrg τ (up2 σ 0 0 0)) 64 f) := O'.mrg.rw0 (by decide)
    have hz : rw0 (mrg τ (up2 σ 0 0 0)) 64 f 0 0 = 0 := by rw [rw0_ne (by decide), mrg_lo (by decide), hlo 0 (by decide)]; exact z0
    have h9 : ∀ s, rw0 (mrg τ (up2 σ 0 0 0)) 64 f 9 s = up2 σ 0 0 0 9 s := fun s => by rw [rw0_ne (by decide), mrg_lo (by decide), hlo 9 (by decide)]
    have fin := h2 len R G hl hG hrw _ O2 hz
    rw [if_neg e] at fin
    have := inv_loop (fun k (q : Int32 × Int32) => u_X11_minutesOf_15 Γ post a1 k (rw0 (mrg τ (up2 σ 0 0 0)) 64 f) q.1 (nI len) q.2 len) (fun j q => q.1 = rwSum (fun s => up2 σ 0 0 0 9 s) R j ∧ q.2 = nI j) len (by
      rintro ⟨x, v⟩ ⟨rfl, rfl⟩
      show u_X11_minutesOf_15 Γ post a1 1 (rw0 (mrg τ (up2 σ 0 0 0)) 64 f) _ (nI len) (nI len) len
      unfold u_X11_minutesOf_15
      exact ⟨fun _ => fin, fun c => absurd (le_self _) c⟩) (by
      rintro j k ⟨x, v⟩ hj ⟨rfl, rfl⟩ ih
      have cj : (nI j).toNatClampNeg = j := nI_clamp (by omega)
      obtain ⟨hs, es⟩ := hf j hj
      show u_X11_minutesOf_15 Γ post a1 (k + 1) (rw0 (mrg τ (up2 σ 0 0 0)) 64 f) _ (nI len) (nI j) len
      unfold u_X11_minutesOf_15
      rw [cj, rw0_eq, es]
      refine ⟨fun c => absurd c (nI_ge hj (by omega)), fun _ => ⟨vp_in_nI hj (by omega), vp_in_nI hs (by decide), ?_⟩⟩
      rw [nI_1 j, nI_clamp (by omega), h9]
      exact ih (_, nI (j + 1)) ⟨rfl, rfl⟩) 0 (by omega) (0, 0) ⟨rfl, nI_0.symm⟩
    exact this
end BEST5
