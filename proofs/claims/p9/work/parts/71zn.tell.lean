/-! WHAT IS TOLD, ON BOTH SIDES -/
section TELLB
variable {x y z : MS} {Tm : MS} {Γ : RG} {σ τ ρ : MS} {lay : Nat → Nat} {a a0 a1 a2 a3 a4 a5 a6 b c : Int32} {w P B W T : Nat}
theorem up2_cg {x y : MS} {a b k j : Nat} {v : Int32} (h : x k j = y k j) : up2 x a b v k j = up2 y a b v k j := by
  by_cases z : k = a ∧ j = b
  · obtain ⟨rfl, rfl⟩ := z; rw [up2_same, up2_same]
  · rw [up2_off z, up2_off z]; exact h
theorem tU_pl {p j k i : Nat} {v : Int32} (hP : Γ.1 ≤ 10) (hW : Γ.2.2.1 ≤ 14) (hp : p < Γ.1) (hk : rTd Γ k i) : tR (up2 x (29 + p) j v) k i = up2 (tR x) (13 + p) j v k i := by
  rcases tR_leaf hk hP hW with ⟨_, _, l⟩ | ⟨_, _, l⟩ | ⟨g1, g2, g3, l⟩ | ⟨g1, g2, g3, l⟩ | ⟨g1, g2, g3, l⟩ | ⟨g1, g2, g3, l⟩ | ⟨g1, g2, g3, l⟩
  · rw [l, up2_off (by omega), up2_off (by omega), l]
  · rw [l, up2_off (by omega), up2_off (by omega), l]
  · rw [l, up2_off (by omega), up2_off (by omega), l]
  · rw [l, up2_off (by omega), up2_off (by omega), l]
  · rw [l]
    by_cases z : k = 13 + p ∧ i = j
    · obtain ⟨rfl, rfl⟩ := z
      rw [show 13 + p - 13 = p by omega, up2_same, up2_same]
    · rw [up2_off (by omega), up2_off z, l]
  · rw [l, up2_off (by omega), up2_off (by omega), l]
  · rw [l, up2_off (by omega), up2_off (by omega), l]
theorem tU_sg {s j k i : Nat} {v : Int32} (hP : Γ.1 ≤ 10) (hW : Γ.2.2.1 ≤ 14) (hs : s < 16) (hj : j < 4) (hk : rTd Γ k i) : tR (up2 x (39 + s) j v) k i = up2 (tR x) (7 + j) s v k i := by
  rcases tR_leaf hk hP hW with ⟨_, _, l⟩ | ⟨_, _, l⟩ | ⟨g1, g2, g3, l⟩ | ⟨g1, g2, g3, l⟩ | ⟨g1, g2, g3, l⟩ | ⟨g1, g2, g3, l⟩ | ⟨g1, g2, g3, l⟩
  · rw [l, up2_off (by omega), up2_off (by omega), l]
  · rw [l, up2_off (by omega), up2_off (by omega), l]
  · rw [l]
    by_cases z : k = 7 + j ∧ i = s
    · obtain ⟨rfl, rfl⟩ := z
      rw [show 7 + j - 7 = j by omega, up2_same, up2_same]
    · rw [up2_off (by omega), up2_off z, l]
  · rw [l, up2_off (by omega), up2_off (by omega), l]
  · rw [l, up2_off (by omega), up2_off (by omega), l]
  · rw [l, up2_off (by omega), up2_off (by omega), l]
  · rw [l, up2_off (by omega), up2_off (by omega), l]
theorem sy_learn {post : Int32 → MS → Prop} (O : rOk (tR x) Γ σ)
    (h1 : (∀ p, p < Γ.1 → a1 ≠ nI p) → ∀ τ, rOk (tR x) Γ τ → τ 0 0 = 1 → post 0 τ)
    (h2 : ∀ p, p < Γ.1 → a1 = nI p → ¬ (0 ≤ a2 ∧ a2 < 65536) → ∀ τ, rOk (tR x) Γ τ → τ 0 0 = 2 → post 0 τ)
    (h3 : ∀ p, p < Γ.1 → a1 = nI p → 0 ≤ a2 ∧ a2 < 65536 → ∀ τ, rOk (tR (up2 x (29 + p) 1 (x (29 + p) 1 ||| a2))) Γ τ → τ 0 0 = 0 → post (bcI (x (29 + p) 1 ||| a2)) τ) : w_X11_learn Γ post σ a1 a2 := by
  have hP := O.hP
  refine sf_learn O h1 h2 (fun p hp e ok τ O' z => ?_)
  rw [tR_pl (by omega)] at O' ⊢
  exact h3 p hp e ok τ (O'.reT (fun k i hk => tU_pl hP O.hW hp hk)) z
theorem sy_song {post : Int32 → MS → Prop} (O : rOk (tR x) Γ σ)
    (h1 : (∀ s, s < 16 → a1 ≠ nI s) → ∀ τ, rOk (tR x) Γ τ → τ 0 0 = 1 → post 0 τ)
    (h2 : ∀ s, s < 16 → a1 = nI s → ¬ sgOkR a2 a3 a4 → ∀ τ, rOk (tR x) Γ τ → τ 0 0 = 2 → post 0 τ)
    (h3 : ∀ s, s < 16 → a1 = nI s → sgOkR a2 a3 a4 → ∀ τ, rOk (tR (songS x s a2 a3 a4)) Γ τ → τ 0 0 = 0 → post (x (39 + s) 2) τ) : w_X11_song Γ post σ a1 a2 a3 a4 := by
  have hP := O.hP
  have hW := O.hW
  refine sf_song O h1 h2 (fun s hs e ok τ O' z => ?_)
  refine h3 s hs e ok τ (O'.reT (fun k i hk => ?_)) z
  unfold songS sgT
  exact (tU_sg (j := 2) hP hW hs (by decide) hk).trans (up2_cg ((tU_sg (j := 1) hP hW hs (by decide) hk).trans (up2_cg (tU_sg (j := 0) hP hW hs (by decide) hk))))
theorem sy_feud {post : Int32 → MS → Prop} (O : rOk (tR x) Γ σ)
    (h1 : ((∀ p, p < Γ.1 → a1 ≠ nI p) ∨ (∀ p, p < Γ.1 → a2 ≠ nI p)) → ∀ τ, rOk (tR x) Γ τ → τ 0 0 = 1 → post 0 τ)
    (h2 : ∀ p, p < Γ.1 → a1 = nI p → a2 = nI p → ∀ τ, rOk (tR x) Γ τ → τ 0 0 = 2 → post 0 τ)
    (h3 : ∀ p q, p < Γ.1 → q < Γ.1 → a1 = nI p → a2 = nI q → p ≠ q → ∀ τ, rOk (tR (up2 (up2 x (29 + p) 4 (fdV (x (29 + p) 4) q a3)) (29 + q) 4 (fdV (x (29 + q) 4) p a3))) Γ τ → τ 0 0 = 0 → post (b01 (bt (x (29 + p) 4) q)) τ) : w_X11_feud Γ post σ a1 a2 a3 := by
  have hP := O.hP
  have hW := O.hW
  refine sf_feud O h1 h2 (fun p q hp hq e e2 hne τ O' z => ?_)
  unfold fedT at O'
  rw [tR_pl (by omega), tR_pl (by omega)] at O'
  rw [tR_pl (by omega)]
  exact h3 p q hp hq e e2 hne τ (O'.reT (fun k i hk => (tU_pl hP hW hq hk).trans (up2_cg (tU_pl hP hW hp hk)))) z
theorem wy_tR (O : rOk (tR x) Γ σ) : Wy x σ := fun a b ha hb => ⟨O.dr ha hb, O.rd ha hb⟩
theorem sy_road {post : Int32 → MS → Prop} (O : rOk (tR x) Γ σ)
    (h1 : ((∀ t, t < 6 → a1 ≠ nI t) ∨ (∀ t, t < 6 → a2 ≠ nI t)) → ∀ τ, rOk (tR x) Γ τ → τ 0 0 = 1 → post 0 τ)
    (h2 : ∀ i j, i < 6 → j < 6 → a1 = nI i → a2 = nI j → (i = j ∨ rIsF a3 0 9 = 0) → ∀ τ, rOk (tR x) Γ τ → τ 0 0 = 2 → post 0 τ)
    (h3 : ∀ i j, i < 6 → j < 6 → a1 = nI i → a2 = nI j → i ≠ j → ¬ rIsF a3 0 9 = 0 → ∀ τ, rOk (tR (layS x i j a3)) Γ τ → τ 0 0 = 0 → post (layS x i j a3 (23 + i) j) τ) : w_X11_road Γ post σ a1 a2 a3 := by
  have hP := O.hP
  have hW := O.hW
  refine sf_road O (wy_tR O) h1 h2 (fun i j hi hj e e2 hne hr τ O' Y' => ?_)
  obtain ⟨O1, z⟩ := O'
  refine h3 i j hi hj e e2 hne hr τ (O1.reT (fun k i' hk => ?_)) z
  have ne : ∀ k' j', (k' < 17 ∨ 29 ≤ k') → layS x i j a3 k' j' = x k' j' := fun k' j' h => by rw [lay_k hi hj h]
  have t := O1.tld hk
  -- what the reference has there
  have key : ∀ v, tR (layS x i j a3) k i' = v → τ k i' = v → tR (layS x i j a3) k i' = w12 (rdT (tR x) i j a3) τ k i' := fun v h1 h2 => by rw [h1, ← h2, t]
  rcases tR_leaf hk hP hW with ⟨g1, g2, l⟩ | ⟨g1, g2, l⟩ | ⟨g1, g2, g3, l⟩ | ⟨g1, g2, g3, l⟩ | ⟨g1, g2, g3, l⟩ | ⟨g1, g2, g3, l⟩ | ⟨g1, g2, g3, l⟩
  · unfold w12 rdT
    rw [if_neg (by omega), up2_off (by omega), up2_off (by omega), l, l, ne _ _ (by omega)]
  · unfold w12 rdT
    rw [if_neg (by omega), up2_off (by omega), up2_off (by omega), l, l, ne _ _ (by omega)]
  · unfold w12 rdT
    rw [if_neg (by omega), up2_off (by omega), up2_off (by omega), l, l, ne _ _ (by omega)]
  · refine key _ rfl ?_
    rw [l]
    obtain ⟨q1, q2⟩ := Y' (i' / 6) (i' % 6) (by omega) (by omega)
    rw [show i' / 6 * 6 + i' % 6 = i' by omega] at q1 q2
    rcases (by omega : k = 11 ∨ k = 12) with e | e
    · subst e
      rw [show 17 + 6 * (11 - 11) + i' / 6 = 17 + i' / 6 by omega]
      exact q2
    · subst e
      rw [show 17 + 6 * (12 - 11) + i' / 6 = 23 + i' / 6 by omega]
      exact q1
  · unfold w12 rdT
    rw [if_neg (by omega), up2_off (by omega), up2_off (by omega), l, l, ne _ _ (by omega)]
  · unfold w12 rdT
    rw [if_neg (by omega), up2_off (by omega), up2_off (by omega), l, l, ne _ _ (by omega)]
  · unfold w12 rdT
    rw [if_neg (by omega), up2_off (by omega), up2_off (by omega), l, l, ne _ _ (by omega)]
/-- one more player on both sides -/
theorem rOk.play {t : Nat} (h : rOk (tR x) Γ σ) (hP : Γ.1 < 10) (ht : t < 6) (ez : a3 = nI t) (f4 : x (29 + Γ.1) 4 = 0) (f5 : x (29 + Γ.1) 5 = 0) (fo : ∀ d, d < 366 → bt (x 6 d) Γ.1 = false) : rOk (tR (telP x Γ.1 a1 a2 a3 a4)) (Γ.1 + 1, Γ.2) (rpS σ Γ.1 a1 a2 a3 a4) := by
  have hW := h.hW
  have lo : ∀ k j, k ≠ 1 → k ≠ 13 + Γ.1 → k ≠ 23 + Γ.1 → rpS σ Γ.1 a1 a2 a3 a4 k j = σ k j := fun k j h1 h2 h3 => by
    unfold rpS
    rw [if_neg h1, if_neg h2, if_neg h3]
  have ne : ∀ k j, ¬ (k = 29 + Γ.1 ∧ j < 4) → ¬ (k = 0 ∧ j = 6) → telP x Γ.1 a1 a2 a3 a4 k j = x k j := fun k j h1 h2 => by
    unfold telP
    rw [up2_off h2, up2_off (by omega), up2_off (by omega), up2_off (by omega), up2_off (by omega)]
  have old := h.2
  obtain ⟨⟨h1, h2, h3, h4, h5, h6, h7, h0, h8, h9⟩, htd⟩ := h
  refine ⟨⟨by show Γ.1 + 1 ≤ 10; omega, h2, h3, rfl, (lo _ _ (by decide) (by omega) (by omega)).trans h5, (lo _ _ (by decide) (by omega) (by omega)).trans h6, by rw [lo _ _ (by decide) (by omega) (by omega)]; exact h7, fun s hs => by rw [lo _ _ (by decide) (by omega) (by omega)]; exact h0 s hs, fun p hp => ?_, fun w hw => ?_⟩, fun k j hk => ?_⟩
  · have hp : p < Γ.1 + 1 := hp
    rcases Nat.eq_or_lt_of_le (Nat.le_of_lt_succ hp) with e | e
    · refine ⟨t, ht, ?_⟩
      unfold rpS
      rw [if_neg (by omega), if_pos (by omega), if_neg (by decide), if_neg (by decide), if_pos rfl]
      exact ez
    · rw [lo _ _ (by omega) (by omega) (by omega)]; exact h8 p e
  · have hw : w < Γ.2.2.1 := hw
    rw [lo _ _ (by omega) (by omega) (by omega), lo _ _ (by omega) (by omega) (by omega), lo _ _ (by omega) (by omega) (by omega)]
    exact h9 w hw
  · have hk0 : (k = 0 ∧ (j = 1 ∨ j = 2)) ∨ ((k = 7 ∨ k = 8 ∨ k = 9 ∨ k = 10) ∧ j < 16) ∨ ((k = 11 ∨ k = 12) ∧ j < 36) ∨ (13 ≤ k ∧ k < 13 + (Γ.1 + 1) ∧ j < 6) ∨ (23 ≤ k ∧ k < 23 + (Γ.1 + 1) ∧ j < 366) ∨ (33 ≤ k ∧ k < 33 + Γ.2.2.1 ∧ k < 47 ∧ j < 12) := hk
    by_cases q1 : k = 13 + Γ.1
    · subst q1
      have hj : j < 6 := by omega
      rw [tR_pl (by omega)]
      unfold rpS
      rw [if_neg (by omega), if_pos rfl]
      rcases (by omega : j = 0 ∨ j = 1 ∨ j = 2 ∨ j = 3 ∨ j = 4 ∨ j = 5) with e | e | e | e | e | e
      · subst e
        unfold telP
        rw [up2_off (by omega), up2_off (by omega), up2_off (by omega), up2_off (by omega), up2_same]
        rfl
      · subst e
        unfold telP
        rw [up2_off (by omega), up2_off (by omega), up2_off (by omega), up2_same]
        rfl
      · subst e
        unfold telP
        rw [up2_off (by omega), up2_off (by omega), up2_same]
        rfl
      · subst e
        unfold telP
        rw [up2_off (by omega), up2_same]
        rfl
      · subst e
        rw [ne _ _ (by omega) (by omega), f4]
        rfl
      · subst e
        rw [ne _ _ (by omega) (by omega), f5]
        rfl
    · by_cases q2 : k = 23 + Γ.1
      · subst q2
        have hj : j < 366 := by omega
        rw [tR_off (by omega), ne _ _ (by omega) (by omega), fo j hj]
        unfold rpS
        rw [if_neg (by omega), if_neg (by omega), if_pos rfl]
        rfl
      · have hk2 : rTd Γ k j := by unfold rTd; omega
        rw [lo k j (by omega) q1 q2, htd k j hk2]
        rcases tR_leaf hk2 h1 hW with ⟨g1, g2, l⟩ | ⟨g1, g2, l⟩ | ⟨g1, g2, g3, l⟩ | ⟨g1, g2, g3, l⟩ | ⟨g1, g2, g3, l⟩ | ⟨g1, g2, g3, l⟩ | ⟨g1, g2, g3, l⟩
        · rw [l, l, ne _ _ (by omega) (by omega)]
        · rw [l, l, ne _ _ (by omega) (by omega)]
        · rw [l, l, ne _ _ (by omega) (by omega)]
        · rw [l, l, ne _ _ (by omega) (by omega)]
        · rw [l, l, ne _ _ (by omega) (by omega)]
        · rw [l, l, ne _ _ (by omega) (by omega)]
        · rw [l, l, ne _ _ (by omega) (by omega)]
theorem sy_player {post : Int32 → RY → Prop} (O : rOk (tR x) Γ σ) (f4 : ∀ p, Γ.1 ≤ p → p < 10 → x (29 + p) 4 = 0 ∧ x (29 + p) 5 = 0) (fo : FO x Γ.1)
    (h1 : (a3 < 0 ∨ 5 < a3) → ∀ τ, rOk (tR x) Γ τ → τ 0 0 = 1 → post 0 (lay, Γ, τ))
    (h2 : ¬ (a3 < 0 ∨ 5 < a3) → (a1 < 1 ∨ 63 < a1) ∨ (a2 < 0 ∨ 65535 < a2) ∨ (a4 < 1 ∨ 99 < a4) → ∀ τ, rOk (tR x) Γ τ → τ 0 0 = 2 → post 0 (lay, Γ, τ))
    (h3 : ¬ (a3 < 0 ∨ 5 < a3) → ¬ ((a1 < 1 ∨ 63 < a1) ∨ (a2 < 0 ∨ 65535 < a2) ∨ (a4 < 1 ∨ 99 < a4)) → Γ.1 = 10 → ∀ τ, rOk (tR x) Γ τ → τ 0 0 = 3 → post 0 (lay, Γ, τ))
    (h4 : ¬ (a3 < 0 ∨ 5 < a3) → ¬ ((a1 < 1 ∨ 63 < a1) ∨ (a2 < 0 ∨ 65535 < a2) ∨ (a4 < 1 ∨ 99 < a4)) → Γ.1 < 10 → ∀ lay' τ, rOk (tR (telP x Γ.1 a1 a2 a3 a4)) (Γ.1 + 1, Γ.2) τ → τ 0 0 = 0 → post (nI Γ.1) (lay', (Γ.1 + 1, Γ.2), τ)) : w_X11_player lay Γ post σ a1 a2 a3 a4 := by
  have O0 := O.up (k := 0) (j := 0) (v := 0) (by unfold rPr; omega)
  have hP := O.hP
  unfold w_X11_player
  refine law_X11_is ⟨fun c => sx_refuse O0 (h1 (rIsF_0.mp c)), fun n1 => ?_⟩
  obtain ⟨t, -, ht, et⟩ := rIs_rg (lo := 0) (hi := 5) (by decide) n1 (by decide)
  replace n1 : ¬ (a3 < 0 ∨ 5 < a3) := fun z => n1 (rIsF_0.mpr z)
  refine law_X11_is ⟨fun c => sx_refuse O0 (h2 n1 (Or.inl (rIsF_0.mp c))), fun n2 => ?_⟩
  refine law_X11_areSongs ⟨fun c => sx_refuse O0 (h2 n1 (Or.inr (Or.inl (rIsF_0.mp c)))), fun n3 => ?_⟩
  refine law_X11_is ⟨fun c => sx_refuse O0 (h2 n1 (Or.inr (Or.inr (rIsF_0.mp c)))), fun n4 => ?_⟩
  have n5 : ¬ ((a1 < 1 ∨ 63 < a1) ∨ (a2 < 0 ∨ 65535 < a2) ∨ (a4 < 1 ∨ 99 < a4)) := by
    rintro (z | z | z)
    · exact n2 (rIsF_0.mpr z)
    · exact n3 (rIsF_0.mpr z)
    · exact n4 (rIsF_0.mpr z)
  unfold w_lp_Jx4a65c_size_8abf5
  rw [O0.p]
  by_cases c : Γ.1 = 10
  · refine ⟨fun _ => sx_refuse O0 (h3 n1 n5 c), fun z => absurd ?_ z⟩
    rw [c]
    decide +kernel
  · have hlt : Γ.1 < 10 := by omega
    refine ⟨fun z => ?_, fun _ => ⟨hlt, O0.p, fun lay' => h4 n1 n5 hlt lay' _ (O0.play hlt (by omega) et (f4 _ (Nat.le_refl _) hlt).1 (f4 _ (Nat.le_refl _) hlt).2 (fun d hd => fo d hd _ (Nat.le_refl _))) ?_⟩⟩
    · have z' : nI Γ.1 = nI 10 := z
      exact absurd ((nI_eq (by omega) (by decide)).mp z') c
    · unfold rpS
      rw [if_neg (by decide), if_neg (by omega), if_neg (by omega), up2_same]
/-- one more wedding on both sides -/
theorem rOk.wed {b d t : Nat} (h : rOk (tR x) Γ σ) (hW : Γ.2.2.1 < 14) (hb : b < Γ.2.1) (ex : a1 = nI b) (hd : d ≤ 365) (ey : a2 = nI d) (ht : t < 6) (ez : a3 = nI t) (hz : ∀ j, 7 ≤ j → j < 12 → x (73 + Γ.2.2.1) j = 0) : rOk (tR (askS x Γ.2.2.1 a1 a2 a3 a4 a5 a6)) (Γ.1, Γ.2.1, Γ.2.2.1 + 1, Γ.2.2.2) (rwS σ Γ.2.2.1 a1 a2 a3 a4 a5 a6 (x 0 9)) := by
  have hP := h.hP
  have lo : ∀ k j, k ≠ 3 → k ≠ 33 + Γ.2.2.1 → rwS σ Γ.2.2.1 a1 a2 a3 a4 a5 a6 (x 0 9) k j = σ k j := fun k j h1 h2 => by
    unfold rwS
    rw [if_neg h1, if_neg h2]
  have ne : ∀ k j, ¬ (k = 73 + Γ.2.2.1 ∧ j < 7) → ¬ (k = 0 ∧ j = 8) → askS x Γ.2.2.1 a1 a2 a3 a4 a5 a6 k j = x k j := fun k j h1 h2 => by
    unfold askS
    rw [up2_off h2, up2_off (by omega), up2_off (by omega), up2_off (by omega), up2_off (by omega), up2_off (by omega), up2_off (by omega), up2_off (by omega)]
  obtain ⟨⟨h1, h2, h3, h4, h5, h6, h7, h0, h8, h9⟩, htd⟩ := h
  have g : ∀ j, rwS σ Γ.2.2.1 a1 a2 a3 a4 a5 a6 (x 0 9) (33 + Γ.2.2.1) j = (if j = 0 then a1 else if j = 1 then a2 else if j = 2 then a3 else if j = 3 then a4 else if j = 4 then a5 else if j = 5 then a6 else if j = 6 then x 0 9 else 0) := fun j => by
    unfold rwS
    rw [if_neg (by omega), if_pos rfl]
  refine ⟨⟨h1, h2, by show Γ.2.2.1 + 1 ≤ 14; omega, (lo _ _ (by decide) (by omega)).trans h4, (lo _ _ (by decide) (by omega)).trans h5, rfl, by rw [lo _ _ (by decide) (by omega)]; exact h7, fun s hs => by rw [lo _ _ (by decide) (by omega)]; exact h0 s hs, fun p hp => ?_, fun i hi => ?_⟩, fun k j hk => ?_⟩
  · have hp : p < Γ.1 := hp
    rw [lo _ _ (by omega) (by omega)]; exact h8 p hp
  · have hi : i < Γ.2.2.1 + 1 := hi
    rcases Nat.eq_or_lt_of_le (Nat.le_of_lt_succ hi) with e | e
    · subst e
      rw [g 0, g 1, g 2]
      exact ⟨⟨b, hb, (if_pos rfl).trans ex⟩, ⟨d, hd, ((if_neg (by decide)).trans (if_pos rfl)).trans ey⟩, t, ht, ((if_neg (by decide)).trans ((if_neg (by decide)).trans (if_pos rfl))).trans ez⟩
    · rw [lo _ _ (by omega) (by omega), lo _ _ (by omega) (by omega), lo _ _ (by omega) (by omega)]; exact h9 i e
  · have hk0 : (k = 0 ∧ (j = 1 ∨ j = 2)) ∨ ((k = 7 ∨ k = 8 ∨ k = 9 ∨ k = 10) ∧ j < 16) ∨ ((k = 11 ∨ k = 12) ∧ j < 36) ∨ (13 ≤ k ∧ k < 13 + Γ.1 ∧ j < 6) ∨ (23 ≤ k ∧ k < 23 + Γ.1 ∧ j < 366) ∨ (33 ≤ k ∧ k < 33 + (Γ.2.2.1 + 1) ∧ k < 47 ∧ j < 12) := hk
    by_cases q1 : k = 33 + Γ.2.2.1
    · subst q1
      have hj : j < 12 := by omega
      rw [tR_wd, g j]
      by_cases c7 : 7 ≤ j
      · rw [if_neg (by omega), if_neg (by omega), if_neg (by omega), if_neg (by omega), if_neg (by omega), if_neg (by omega), if_neg (by omega), ne _ _ (by omega) (by omega), hz j c7 hj]
      · rcases (by omega : j = 0 ∨ j = 1 ∨ j = 2 ∨ j = 3 ∨ j = 4 ∨ j = 5 ∨ j = 6) with e | e | e | e | e | e | e
        · subst e
          unfold askS
          rw [up2_off (by omega), up2_off (by omega), up2_off (by omega), up2_off (by omega), up2_off (by omega), up2_off (by omega), up2_off (by omega), up2_same]
          rfl
        · subst e
          unfold askS
          rw [up2_off (by omega), up2_off (by omega), up2_off (by omega), up2_off (by omega), up2_off (by omega), up2_off (by omega), up2_same]
          rfl
        · subst e
          unfold askS
          rw [up2_off (by omega), up2_off (by omega), up2_off (by omega), up2_off (by omega), up2_off (by omega), up2_same]
          rfl
        · subst e
          unfold askS
          rw [up2_off (by omega), up2_off (by omega), up2_off (by omega), up2_off (by omega), up2_same]
          rfl
        · subst e
          unfold askS
          rw [up2_off (by omega), up2_off (by omega), up2_off (by omega), up2_same]
          rfl
        · subst e
          unfold askS
          rw [up2_off (by omega), up2_off (by omega), up2_same]
          rfl
        · subst e
          unfold askS
          rw [up2_off (by omega), up2_same]
          rfl
    · have hk2 : rTd Γ k j := by unfold rTd; omega
      rw [lo k j (by omega) q1, htd k j hk2]
      rcases tR_leaf hk2 hP h3 with ⟨g1, g2, l⟩ | ⟨g1, g2, l⟩ | ⟨g1, g2, g3, l⟩ | ⟨g1, g2, g3, l⟩ | ⟨g1, g2, g3, l⟩ | ⟨g1, g2, g3, l⟩ | ⟨g1, g2, g3, l⟩
      · rw [l, l, ne _ _ (by omega) (by omega)]
      · rw [l, l, ne _ _ (by omega) (by omega)]
      · rw [l, l, ne _ _ (by omega) (by omega)]
      · rw [l, l, ne _ _ (by omega) (by omega)]
      · rw [l, l, ne _ _ (by omega) (by omega)]
      · rw [l, l, ne _ _ (by omega) (by omega)]
      · rw [l, l, ne _ _ (by omega) (by omega)]
theorem ask_ok {d s l g : Int32} : askOk x d s l g ↔ ¬ (d < x 0 9 ∨ 365 < d) ∧ ¬ rIsF s 10 22 = 0 ∧ ¬ rIsF l 1 6 = 0 ∧ ¬ 24 < s + l ∧ ¬ rIsF g 0 65535 = 0 := by
  unfold askOk hoursOk
  rw [decide_eq_true_iff, rIsF_0, rIsF_0, sg_iff, Decidable.not_not]
  constructor
  · rintro ⟨h1, h2, ⟨h3, h4, h5, h6, h7⟩, h8⟩
    exact ⟨fun z => z.elim h1 h2, fun z => z.elim h3 h4, fun z => z.elim h5 h6, h7, h8⟩
  · rintro ⟨h1, h2, h3, h4, h5⟩
    exact ⟨fun z => h1 (Or.inl z), fun z => h1 (Or.inr z), ⟨fun z => h2 (Or.inl z), fun z => h2 (Or.inr z), fun z => h3 (Or.inl z), fun z => h3 (Or.inr z), h4⟩, h5⟩
theorem rfix_x {τ : MS} {i : Nat} (O : rOk (tR x) Γ τ) (hi : i < Γ.2.2.1) : rFix τ a1 a2 i ↔ (x (73 + i) 7 = 1 ∧ x (73 + i) 0 = a1 ∧ x (73 + i) 1 = a2) := by
  unfold rFix
  rw [O.wd (j := 7) hi (by decide), O.wd (j := 0) hi (by decide), O.wd (j := 1) hi (by decide)]
theorem sy_ask {post : Int32 → RY → Prop} (Oc : Ok x Γ.1 Γ.2.1 Γ.2.2.1 T) (O : rOk (tR x) Γ σ) (hz : ∀ w, Γ.2.2.1 ≤ w → w < 14 → ∀ j, 7 ≤ j → j < 12 → x (73 + w) j = 0)
    (h1 : ((∀ k, k < Γ.2.1 → a1 ≠ nI k) ∨ (∀ t, t < 6 → a3 ≠ nI t)) → ∀ τ, rOk (tR x) Γ τ → τ 0 0 = 1 → post 0 (lay, Γ, τ))
    (h2 : (∃ k, k < Γ.2.1 ∧ a1 = nI k) → (∃ t, t < 6 ∧ a3 = nI t) → ¬ askOk x a2 a4 a5 a6 → ∀ τ, rOk (tR x) Γ τ → τ 0 0 = 2 → post 0 (lay, Γ, τ))
    (h3 : (∃ k, k < Γ.2.1 ∧ a1 = nI k) → (∃ t, t < 6 ∧ a3 = nI t) → askOk x a2 a4 a5 a6 → (Γ.2.2.1 = 14 ∨ taken x a1 a2 Γ.2.2.1 = true) → ∀ τ, rOk (tR x) Γ τ → τ 0 0 = 3 → post 0 (lay, Γ, τ))
    (h4 : (∃ k, k < Γ.2.1 ∧ a1 = nI k) → (∃ t, t < 6 ∧ a3 = nI t) → askOk x a2 a4 a5 a6 → Γ.2.2.1 < 14 → taken x a1 a2 Γ.2.2.1 = false → ∀ lay' τ, rOk (tR (askS x Γ.2.2.1 a1 a2 a3 a4 a5 a6)) (Γ.1, Γ.2.1, Γ.2.2.1 + 1, Γ.2.2.2) τ → τ 0 0 = 0 → post (nI Γ.2.2.1) (lay', (Γ.1, Γ.2.1, Γ.2.2.1 + 1, Γ.2.2.2), τ)) : w_X11_ask lay Γ post σ a1 a2 a3 a4 a5 a6 := by
  have O0 := O.up (k := 0) (j := 0) (v := 0) (by unfold rPr; omega)
  have hW := O.hW
  unfold w_X11_ask
  refine sx_isBand O0 (fun no => ⟨fun _ => sx_refuse O0 (h1 (Or.inl no)), fun c => absurd rfl c⟩) (fun b r hb eb hr => ⟨fun c => absurd c hr, fun _ => ?_⟩)
  have g1 : ∃ k, k < Γ.2.1 ∧ a1 = nI k := ⟨b, hb, eb⟩
  refine sx_isTown (fun no => ⟨fun _ => sx_refuse O0 (h1 (Or.inr no)), fun c => absurd rfl c⟩) (fun t r ht et hr => ⟨fun c => absurd c hr, fun _ => ?_⟩)
  have g2 : ∃ t, t < 6 ∧ a3 = nI t := ⟨t, ht, et⟩
  have bad : ¬ askOk x a2 a4 a5 a6 → w_X11_refuse Γ (fun x σ9 => post x (lay, Γ, σ9)) (up2 σ 0 0 0) 2 := fun z => sx_refuse O0 (h2 g1 g2 z)
  have eT : up2 σ 0 0 0 0 1 = x 0 9 := O0.tdy
  refine law_X11_isDay ⟨fun c => bad (fun z => ?_), fun n0 => ?_⟩
  · rw [eT] at c
    exact (ask_ok.mp z).1 (rIsF_0.mp c)
  rw [eT] at n0
  refine law_X11_is ⟨fun c => bad (fun z => (ask_ok.mp z).2.1 c), fun n1 => law_X11_is ⟨fun c => bad (fun z => (ask_ok.mp z).2.2.1 c), fun n2 => ⟨fun c => bad (fun z => (ask_ok.mp z).2.2.2.1 c), fun n3 => law_X11_areSongs ⟨fun c => bad (fun z => (ask_ok.mp z).2.2.2.2 c), fun n4 => ?_⟩⟩⟩⟩
  have ok : askOk x a2 a4 a5 a6 := ask_ok.mpr ⟨fun z => n0 (rIsF_0.mpr z), n1, n2, n3, n4⟩
  obtain ⟨d, hd, ed⟩ : ∃ d, d ≤ 365 ∧ a2 = nI d := by
    have e := Oc.h9
    have hT := Oc.hT
    rw [e] at n0
    obtain ⟨d, _, hd, ed⟩ := rIs_rg (lo := T) (hi := 365) (by decide) n0 (by omega)
    exact ⟨d, hd, ed⟩
  unfold w_lw_Jx4a65c_size_8abf5
  rw [O0.w]
  refine ⟨fun c => sx_refuse O0 (h3 g1 g2 ok (Or.inl ?_)), fun z => ?_⟩
  · exact (nI_eq (show Γ.2.2.1 < 2 ^ 31 by omega) (by decide)).mp (show nI Γ.2.2.1 = nI 14 from c)
  have hlt : Γ.2.2.1 < 14 := by
    rcases Nat.lt_or_ge Γ.2.2.1 14 with d | d
    · exact d
    · exact absurd (show nI Γ.2.2.1 = nI 14 by rw [show Γ.2.2.1 = 14 by omega]) z
  refine law_X11_isFixed hW O0.w (fun d => ⟨fun _ => sx_refuse O0 (h3 g1 g2 ok (Or.inr ?_)), fun z => absurd z (by decide)⟩) (fun d2 => ⟨fun z => absurd rfl z, fun _ => ⟨hlt, O0.w, fun lay' => ?_⟩⟩)
  · obtain ⟨i, hi, q⟩ := d
    exact (taken_i _).mpr ⟨i, hi, (rfix_x O0 hi).mp q⟩
  · rw [eT]
    refine h4 g1 g2 ok hlt ?_ lay' _ (O0.wed hlt hb eb hd ed ht et (hz _ (Nat.le_refl _) hlt)) ?_
    · exact Bool.eq_false_iff.mpr (fun q => by
        obtain ⟨i, hi, q⟩ := (taken_i _).mp q
        exact d2 ⟨i, hi, (rfix_x O0 hi).mpr q⟩)
    · unfold rwS
      rw [if_neg (by decide), if_neg (by omega), up2_same]
end TELLB
