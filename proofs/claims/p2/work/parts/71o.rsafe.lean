/-! THE REFERENCE IS SAFE: players, bands, weddings more; the texts; a new one -/
section RSAFE15
variable {Γ : RG} {σ τ ρ : MS} {lay : Nat → Nat} {a a0 a1 a2 a3 a4 a5 a6 b c : Int32}
theorem rOk.play {t : Nat} {x y z : Int32} (h : rOk Γ σ) (hP : Γ.1 < 10) (ht : t < 6) (ez : z = nI t) : rOk (Γ.1 + 1, Γ.2) (rpS σ Γ.1 x y z a) := by
  have lo : ∀ k j, k ≠ 1 → k ≠ 13 + Γ.1 → k ≠ 23 + Γ.1 → rpS σ Γ.1 x y z a k j = σ k j := fun k j h1 h2 h3 => by
    unfold rpS
    rw [if_neg h1, if_neg h2, if_neg h3]
  obtain ⟨h1, h2, h3, h4, h5, h6, h7, h0, h8, h9⟩ := h
  refine ⟨by show Γ.1 + 1 ≤ 10; omega, h2, h3, rfl, (lo _ _ (by decide) (by omega) (by omega)).trans h5, (lo _ _ (by decide) (by omega) (by omega)).trans h6, by rw [lo _ _ (by decide) (by omega) (by omega)]; exact h7, fun s hs => by rw [lo _ _ (by decide) (by omega) (by omega)]; exact h0 s hs, fun p hp => ?_, fun w hw => ?_⟩
  · have hp : p < Γ.1 + 1 := hp
    rcases Nat.eq_or_lt_of_le (Nat.le_of_lt_succ hp) with e | e
    · refine ⟨t, ht, ?_⟩
      unfold rpS
      rw [if_neg (by omega), if_pos (by omega), if_neg (by decide), if_neg (by decide), if_pos rfl]
      exact ez
    · rw [lo _ _ (by omega) (by omega) (by omega)]; exact h8 p e
  · have hw : w < Γ.2.2.1 := hw
    rw [lo _ _ (by omega) (by omega) (by omega), lo _ _ (by omega) (by omega) (by omega), lo _ _ (by omega) (by omega) (by omega)]
    exact h9 w hw
theorem rOk.wed {b d t : Nat} {x y z u v w o : Int32} (h : rOk Γ σ) (hW : Γ.2.2.1 < 14) (hb : b < Γ.2.1) (ex : x = nI b) (hd : d ≤ 365) (ey : y = nI d) (ht : t < 6) (ez : z = nI t) : rOk (Γ.1, Γ.2.1, Γ.2.2.1 + 1, Γ.2.2.2) (rwS σ Γ.2.2.1 x y z u v w o) := by
  have lo : ∀ k j, k ≠ 3 → k ≠ 33 + Γ.2.2.1 → rwS σ Γ.2.2.1 x y z u v w o k j = σ k j := fun k j h1 h2 => by
    unfold rwS
    rw [if_neg h1, if_neg h2]
  obtain ⟨h1, h2, h3, h4, h5, h6, h7, h0, h8, h9⟩ := h
  refine ⟨h1, h2, by show Γ.2.2.1 + 1 ≤ 14; omega, (lo _ _ (by decide) (by omega)).trans h4, (lo _ _ (by decide) (by omega)).trans h5, rfl, by rw [lo _ _ (by decide) (by omega)]; exact h7, fun s hs => by rw [lo _ _ (by decide) (by omega)]; exact h0 s hs, fun p hp => ?_, fun i hi => ?_⟩
  · have hp : p < Γ.1 := hp
    rw [lo _ _ (by omega) (by omega)]; exact h8 p hp
  · have hi : i < Γ.2.2.1 + 1 := hi
    rcases Nat.eq_or_lt_of_le (Nat.le_of_lt_succ hi) with e | e
    · subst e
      have g : ∀ j, rwS σ Γ.2.2.1 x y z u v w o (33 + Γ.2.2.1) j = (if j = 0 then x else if j = 1 then y else if j = 2 then z else if j = 3 then u else if j = 4 then v else if j = 5 then w else if j = 6 then o else 0) := fun j => by
        unfold rwS
        rw [if_neg (by omega), if_pos rfl]
      rw [g 0, g 1, g 2]
      exact ⟨⟨b, hb, (if_pos rfl).trans ex⟩, ⟨d, hd, ((if_neg (by decide)).trans (if_pos rfl)).trans ey⟩, t, ht, ((if_neg (by decide)).trans ((if_neg (by decide)).trans (if_pos rfl))).trans ez⟩
    · rw [lo _ _ (by omega) (by omega), lo _ _ (by omega) (by omega), lo _ _ (by omega) (by omega)]; exact h9 i e
theorem rOk.bnd {y : Nat} {x : Int32} (h : rOk Γ σ) (hB : Γ.2.1 < 6) : rOk (Γ.1, Γ.2.1 + 1, Γ.2.2.1, Γ.2.2.2.1, va_up Γ.2.2.2.2.1 Γ.2.1 y, va_up Γ.2.2.2.2.2 Γ.2.1 x) (rbS σ Γ.2.1) := by
  have lo : ∀ k j, k ≠ 2 → rbS σ Γ.2.1 k j = σ k j := fun k j h1 => by
    unfold rbS
    rw [if_neg h1]
  obtain ⟨h1, h2, h3, h4, h5, h6, h7, h0, h8, h9⟩ := h
  refine ⟨h1, by show Γ.2.1 + 1 ≤ 6; omega, h3, (lo _ _ (by decide)).trans h4, rfl, (lo _ _ (by decide)).trans h6, by rw [lo _ _ (by decide)]; exact h7, fun s hs => by rw [lo _ _ (by decide)]; exact h0 s hs, fun p hp => ?_, fun w hw => ?_⟩
  · have hp : p < Γ.1 := hp
    rw [lo _ _ (by omega)]; exact h8 p hp
  · have hw : w < Γ.2.2.1 := hw
    rw [lo _ _ (by omega), lo _ _ (by omega), lo _ _ (by omega)]
    obtain ⟨⟨b, hb, eb⟩, hd, ht⟩ := h9 w hw
    exact ⟨⟨b, Nat.lt_succ_of_lt hb, eb⟩, hd, ht⟩
theorem sf_player {post : Int32 → RY → Prop} (O : rOk Γ σ)
    (h1 : (a3 < 0 ∨ 5 < a3) → rOk Γ (up2 (up2 σ 0 0 0) 0 0 1) → post 0 (lay, Γ, up2 (up2 σ 0 0 0) 0 0 1))
    (h2 : ¬ (a3 < 0 ∨ 5 < a3) → (a1 < 1 ∨ 63 < a1) ∨ (a2 < 0 ∨ 65535 < a2) ∨ (a4 < 1 ∨ 99 < a4) → rOk Γ (up2 (up2 σ 0 0 0) 0 0 2) → post 0 (lay, Γ, up2 (up2 σ 0 0 0) 0 0 2))
    (h3 : ¬ (a3 < 0 ∨ 5 < a3) → ¬ ((a1 < 1 ∨ 63 < a1) ∨ (a2 < 0 ∨ 65535 < a2) ∨ (a4 < 1 ∨ 99 < a4)) → Γ.1 = 10 → rOk Γ (up2 (up2 σ 0 0 0) 0 0 3) → post 0 (lay, Γ, up2 (up2 σ 0 0 0) 0 0 3))
    (h4 : ¬ (a3 < 0 ∨ 5 < a3) → ¬ ((a1 < 1 ∨ 63 < a1) ∨ (a2 < 0 ∨ 65535 < a2) ∨ (a4 < 1 ∨ 99 < a4)) → Γ.1 < 10 → ∀ lay', rOk (Γ.1 + 1, Γ.2) (rpS (up2 σ 0 0 0) Γ.1 a1 a2 a3 a4) → post (nI Γ.1) (lay', (Γ.1 + 1, Γ.2), rpS (up2 σ 0 0 0) Γ.1 a1 a2 a3 a4)) : w_X11_player lay Γ post σ a1 a2 a3 a4 := by
  have O0 := O.up (k := 0) (j := 0) (v := 0) (by unfold rPr; omega)
  have Ou : ∀ v : Int32, rOk Γ (up2 (up2 σ 0 0 0) 0 0 v) := fun v => O0.up (by unfold rPr; omega)
  have hP := O.hP
  unfold w_X11_player
  refine law_X11_is ⟨fun c => law_X11_refuse (h1 (rIsF_0.mp c) (Ou 1)), fun n1 => ?_⟩
  obtain ⟨t, -, ht, et⟩ := rIs_rg (lo := 0) (hi := 5) (by decide) n1 (by decide)
  replace n1 : ¬ (a3 < 0 ∨ 5 < a3) := fun z => n1 (rIsF_0.mpr z)
  refine law_X11_is ⟨fun c => law_X11_refuse (h2 n1 (Or.inl (rIsF_0.mp c)) (Ou 2)), fun n2 => ?_⟩
  refine law_X11_areSongs ⟨fun c => law_X11_refuse (h2 n1 (Or.inr (Or.inl (rIsF_0.mp c))) (Ou 2)), fun n3 => ?_⟩
  refine law_X11_is ⟨fun c => law_X11_refuse (h2 n1 (Or.inr (Or.inr (rIsF_0.mp c))) (Ou 2)), fun n4 => ?_⟩
  have n5 : ¬ ((a1 < 1 ∨ 63 < a1) ∨ (a2 < 0 ∨ 65535 < a2) ∨ (a4 < 1 ∨ 99 < a4)) := by
    rintro (z | z | z)
    · exact n2 (rIsF_0.mpr z)
    · exact n3 (rIsF_0.mpr z)
    · exact n4 (rIsF_0.mpr z)
  unfold w_lp_Jx4a65c_size_8abf5
  rw [O0.p]
  by_cases c : Γ.1 = 10
  · refine ⟨fun _ => law_X11_refuse (h3 n1 n5 c (Ou 3)), fun z => absurd ?_ z⟩
    rw [c]
    decide +kernel
  · have hlt : Γ.1 < 10 := by omega
    refine ⟨fun z => ?_, fun _ => ⟨hlt, O0.p, fun lay' => h4 n1 n5 hlt lay' (O0.play hlt (by omega) et)⟩⟩
    have z' : nI Γ.1 = nI 10 := z
    exact absurd ((nI_eq (by omega) (by decide)).mp z') c
theorem sf_ask {post : Int32 → RY → Prop} (O : rOk Γ σ) (h0 : ∀ r τ, rOk Γ τ → post r (lay, Γ, τ)) (h4 : ∀ (r : Int32) (lay' : Nat → Nat) (Γ' : RG) (τ : MS), Γ'.1 = Γ.1 → Γ'.2.1 = Γ.2.1 → Γ'.2.2.2 = Γ.2.2.2 → rOk Γ' τ → post r (lay', Γ', τ)) : w_X11_ask lay Γ post σ a1 a2 a3 a4 a5 a6 := by
  have O0 := O.up (k := 0) (j := 0) (v := 0) (by unfold rPr; omega)
  have rf : ∀ {v : Int32}, w_X11_refuse Γ (fun x σ9 => post x (lay, Γ, σ9)) (up2 σ 0 0 0) v := sf_refuse O0 (fun r τ O' => h0 r τ O')
  have hW := O.hW
  unfold w_X11_ask
  refine sf_isBand O0 ⟨fun _ => rf, fun c => absurd rfl c⟩ (fun b r hb eb hr => ⟨fun c => absurd c hr, fun _ => ?_⟩)
  refine sf_isTown ⟨fun _ => rf, fun c => absurd rfl c⟩ (fun t r ht et hr => ⟨fun c => absurd c hr, fun _ => ?_⟩)
  refine sf_isDay O0 ⟨fun _ => rf, fun c => absurd rfl c⟩ (fun d r hd ed hr => ⟨fun c => absurd c hr, fun _ => ?_⟩)
  refine sf_is (fun r => ⟨fun _ => rf, fun _ => sf_is (fun r => ⟨fun _ => rf, fun _ => ⟨fun _ => rf, fun _ => sf_areSongs (fun r => ⟨fun _ => rf, fun _ => ?_⟩)⟩⟩)⟩)
  unfold w_lw_Jx4a65c_size_8abf5
  rw [O0.w]
  refine ⟨fun _ => rf, fun z => ?_⟩
  have hlt : Γ.2.2.1 < 14 := by
    rcases Nat.lt_or_ge Γ.2.2.1 14 with d | d
    · exact d
    · exact absurd (show nI Γ.2.2.1 = nI 14 by rw [show Γ.2.2.1 = 14 by omega]) z
  exact law_X11_isFixed hW O0.w (fun d => ⟨fun _ => rf, fun z => absurd z (by decide)⟩) (fun d => ⟨fun z => absurd rfl z, fun _ => ⟨hlt, O0.w, fun lay' => h4 _ _ _ _ rfl rfl rfl (O0.wed hlt hb eb hd ed ht et)⟩⟩)
theorem sf_band {post : Int32 → RY → Prop} (O : rOk Γ σ) (h0 : ∀ r τ, rOk Γ τ → post r (lay, Γ, τ)) (h4 : ∀ (r : Int32) (lay' : Nat → Nat) (Γ' : RG) (τ : MS), Γ'.1 = Γ.1 → Γ'.2.2.2.1 = Γ.2.2.2.1 → rOk Γ' τ → post r (lay', Γ', τ)) : w_X11_band lay Γ post σ a1 := by
  have O0 := O.up (k := 0) (j := 0) (v := 0) (by unfold rPr; omega)
  have rf : ∀ {v : Int32}, w_X11_refuse Γ (fun x σ9 => post x (lay, Γ, σ9)) (up2 σ 0 0 0) v := sf_refuse O0 (fun r τ O' => h0 r τ O')
  have hB := O.hB
  unfold w_X11_band
  refine sf_is (fun r => ⟨fun _ => rf, fun _ => law_X11_needed_ ⟨fun _ => rf, fun _ => ?_⟩⟩)
  unfold w_lb_Jx4a65c_size_8abf5
  rw [O0.b]
  refine ⟨fun _ => rf, fun z => ?_⟩
  have hlt : Γ.2.1 < 6 := by
    rcases Nat.lt_or_ge Γ.2.1 6 with d | d
    · exact d
    · exact absurd (show nI Γ.2.1 = nI 6 by rw [show Γ.2.1 = 6 by omega]) z
  exact ⟨hlt, O0.b, fun lay' y => h4 _ _ _ _ rfl rfl (O0.bnd hlt)⟩
theorem sf_tell {post : MS → Prop} (O : rOk Γ σ) (h : ∀ τ, rOk Γ τ → post τ) : w_X11_tell Γ post σ a1 := by
  have hW := O.hW
  unfold w_X11_tell
  have O0 := O.up (k := 0) (j := 0) (v := 0) (by unfold rPr; omega)
  refine sf_isWedding O ⟨fun _ => h _ (O.up (by unfold rPr; omega)), fun c => absurd rfl c⟩ (fun w r hw e hr => ⟨fun c => absurd c hr, fun _ => sf_wget O0 hw e ⟨⟨by omega, hw⟩, ?_⟩⟩)
  obtain ⟨d, hd, ed⟩ := O0.day hw
  obtain ⟨t, ht, et⟩ := O0.town hw
  exact ⟨w, d, t, by omega, e, by omega, ed, by omega, et, O0.p, h _ O0⟩
theorem sf_songs {post : MS → Prop} (O : rOk Γ σ) (h : ∀ τ, rOk Γ τ → post τ) : w_X11_songs Γ post σ a1 := by
  have hW := O.hW
  unfold w_X11_songs
  have O0 := O.up (k := 0) (j := 0) (v := 0) (by unfold rPr; omega)
  refine sf_isWedding O ⟨fun _ => h _ (O.up (by unfold rPr; omega)), fun c => absurd rfl c⟩ (fun w r hw e hr => ⟨fun c => absurd c hr, fun _ => sf_wget O0 hw e ⟨⟨by omega, hw⟩, sf_bestSet O0 (fun len f τ O' hl hf => ⟨hl, fun i hi => ?_, h _ O'⟩)⟩⟩)
  obtain ⟨s, hs, es⟩ := hf i hi
  exact ⟨s, by omega, es⟩
theorem sf_thrown {post : Int32 → MS → Prop} (h : post (σ 0 0) σ) : w_X11_thrown Γ post σ := law_X11_thrown h
theorem sf_init {ea : Nat} {post : MS → Prop} (h : ∀ τ, rOk (rG0 ea) τ → post τ) : ∃ k, u_X11_init_87 (rG0 ea) post k (fun _ _ => 0) 0 := by
  have := inv_loop (fun k (q : MS × Int32) => u_X11_init_87 (rG0 ea) post k q.1 q.2) (fun j q => ((∀ k i, k ≠ 7 → k ≠ 8 → k ≠ 9 → q.1 k i = 0) ∧ ∀ s, s < j → q.1 9 s = 3) ∧ q.2 = nI j) 16 (by
    rintro ⟨τ, v⟩ ⟨⟨h0, h3⟩, rfl⟩
    have h0 : ∀ k i, k ≠ 7 → k ≠ 8 → k ≠ 9 → τ k i = 0 := h0
    have h3 : ∀ s, s < 16 → τ 9 s = 3 := h3
    show u_X11_init_87 (rG0 ea) post 1 τ (nI 16)
    unfold u_X11_init_87
    refine ⟨fun _ => sf_drive ?_ h, fun c => absurd (le_self (nI 16)) c⟩
    exact ⟨Nat.zero_le _, Nat.zero_le _, Nat.zero_le _, h0 _ _ (by decide) (by decide) (by decide), h0 _ _ (by decide) (by decide) (by decide), h0 _ _ (by decide) (by decide) (by decide), ⟨0, by decide, h0 _ _ (by decide) (by decide) (by decide)⟩, fun s hs => ⟨3, by decide, by decide, h3 s hs⟩, fun p hp => absurd hp (Nat.not_lt_zero _), fun w hw => absurd hw (Nat.not_lt_zero _)⟩) (by
    rintro j k ⟨τ, v⟩ hj ⟨⟨h0, h3⟩, rfl⟩ ih
    have h0 : ∀ k i, k ≠ 7 → k ≠ 8 → k ≠ 9 → τ k i = 0 := h0
    have h3 : ∀ s, s < j → τ 9 s = 3 := h3
    have cj : (nI j).toNatClampNeg = j := nI_clamp (by omega)
    show u_X11_init_87 (rG0 ea) post (k + 1) τ (nI j)
    unfold u_X11_init_87
    refine ⟨fun c => absurd (show nI 16 ≤ nI j from c) (nI_ge hj (by decide)), fun _ => ⟨vp_in_nI hj (by decide), ?_⟩⟩
    rw [cj, nI_1 j]
    refine ih (up2 (up2 (up2 τ 7 j (nI j - nI j / 12 * 12)) 8 j 5) 9 j 3, nI (j + 1)) ⟨⟨fun k i h7 h8 h9 => ?_, fun s hs => ?_⟩, rfl⟩
    · show up2 (up2 (up2 τ 7 j (nI j - nI j / 12 * 12)) 8 j 5) 9 j 3 k i = 0
      rw [up2_at (Or.inl h9), up2_at (Or.inl h8), up2_at (Or.inl h7)]; exact h0 k i h7 h8 h9
    · rcases Nat.eq_or_lt_of_le (Nat.le_of_lt_succ hs) with e | e
      · show up2 _ 9 j 3 9 s = 3
        rw [e, up2_same]
      · show up2 _ 9 j 3 9 s = 3
        rw [up2_at (Or.inr (by omega)), up2_at (Or.inl (by decide)), up2_at (Or.inl (by decide))]; exact h3 s e) 0 (by omega) (_, 0) ⟨⟨fun _ _ _ _ _ => rfl, fun s hs => absurd hs (Nat.not_lt_zero _)⟩, nI_0.symm⟩
  exact this
end RSAFE15
