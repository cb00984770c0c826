/-! THE REFERENCE IS SAFE: players, bands, weddings more; the texts; a new one -/
section RSAFE15
variable {Tm : MS} {Γ : RG} {σ τ ρ : MS} {lay : Nat → Nat} {a a0 a1 a2 a3 a4 a5 a6 b c : Int32}
/-- a player told -/
def pyT (Tm : MS) (P : Nat) (y : Int32) : MS := up2 (up2 Tm (13 + P) 1 y) (13 + P) 4 0
theorem rOk.play {t : Nat} {x y z : Int32} (h : rOk Tm Γ σ) (hP : Γ.1 < 10) (ht : t < 6) (ez : z = nI t) : rOk (pyT Tm Γ.1 y) (Γ.1 + 1, Γ.2) (rpS σ Γ.1 x y z a) := by
  have lo : ∀ k j, k ≠ 1 → k ≠ 13 + Γ.1 → k ≠ 23 + Γ.1 → rpS σ Γ.1 x y z a k j = σ k j := fun k j h1 h2 h3 => by
    unfold rpS
    rw [if_neg h1, if_neg h2, if_neg h3]
  obtain ⟨⟨h1, h2, h3, h4, h5, h6, h7, h0, h8, h9⟩, htd⟩ := h
  refine ⟨⟨by show Γ.1 + 1 ≤ 10; omega, h2, h3, rfl, (lo _ _ (by decide) (by omega) (by omega)).trans h5, (lo _ _ (by decide) (by omega) (by omega)).trans h6, by rw [lo _ _ (by decide) (by omega) (by omega)]; exact h7, fun s hs => by rw [lo _ _ (by decide) (by omega) (by omega)]; exact h0 s hs, fun p hp => ?_, fun w hw => ?_⟩, fun k j hk => ?_⟩
  · have hp : p < Γ.1 + 1 := hp
    rcases Nat.eq_or_lt_of_le (Nat.le_of_lt_succ hp) with e | e
    · refine ⟨t, ht, ?_⟩
      unfold rpS
      rw [if_neg (by omega), if_pos (by omega), if_neg (by decide), if_neg (by decide), if_pos rfl]
      exact ez
    · rw [lo _ _ (by omega) (by omega) (by omega)]; exact h8 p e
  · have hw : w < Γ.2.2.1 := hw
    rw [lo _ _ (by omega) (by omega) (by omega), lo _ _ (by omega) (by omega) (by omega), lo _ _ (by omega) (by omega) (by omega)]
    exact h9 w hw
  · have hk : (k = 0 ∧ j = 1) ∨ ((k = 7 ∨ k = 8 ∨ k = 9) ∧ j < 16) ∨ ((k = 11 ∨ k = 12) ∧ j < 36) ∨ (13 ≤ k ∧ k < 13 + (Γ.1 + 1) ∧ (j = 1 ∨ j = 4)) := hk
    unfold pyT
    by_cases q4 : k = 13 + Γ.1 ∧ j = 4
    · obtain ⟨rfl, rfl⟩ := q4
      rw [up2_same]
      unfold rpS
      rw [if_neg (by omega), if_pos rfl, if_neg (by decide), if_neg (by decide), if_neg (by decide), if_neg (by decide)]
    · rw [up2_off q4]
      by_cases q1 : k = 13 + Γ.1 ∧ j = 1
      · obtain ⟨rfl, rfl⟩ := q1
        rw [up2_same]
        unfold rpS
        rw [if_neg (by omega), if_pos rfl, if_neg (by decide), if_pos rfl]
      · rw [up2_off q1, lo k j (by omega) (by omega) (by omega)]
        exact htd k j (by unfold rTd; omega)
theorem rOk.wed {b d t : Nat} {x y z u v w o : Int32} (h : rOk Tm Γ σ) (hW : Γ.2.2.1 < 14) (hb : b < Γ.2.1) (ex : x = nI b) (hd : d ≤ 365) (ey : y = nI d) (ht : t < 6) (ez : z = nI t) : rOk Tm (Γ.1, Γ.2.1, Γ.2.2.1 + 1, Γ.2.2.2) (rwS σ Γ.2.2.1 x y z u v w o) := by
  have lo : ∀ k j, k ≠ 3 → k ≠ 33 + Γ.2.2.1 → rwS σ Γ.2.2.1 x y z u v w o k j = σ k j := fun k j h1 h2 => by
    unfold rwS
    rw [if_neg h1, if_neg h2]
  obtain ⟨⟨h1, h2, h3, h4, h5, h6, h7, h0, h8, h9⟩, htd⟩ := h
  refine ⟨⟨h1, h2, by show Γ.2.2.1 + 1 ≤ 14; omega, (lo _ _ (by decide) (by omega)).trans h4, (lo _ _ (by decide) (by omega)).trans h5, rfl, by rw [lo _ _ (by decide) (by omega)]; exact h7, fun s hs => by rw [lo _ _ (by decide) (by omega)]; exact h0 s hs, fun p hp => ?_, fun i hi => ?_⟩, fun k j hk => (lo k j (by unfold rTd at hk; dsimp only at hk; omega) (by unfold rTd at hk; dsimp only at hk; omega)).trans (htd k j hk)⟩
  · have hp : p < Γ.1 := hp
    rw [lo _ _ (by omega) (by omega)]; exact h8 p hp
  · have hi : i < Γ.2.2.1 + 1 := hi
    rcases Nat.eq_or_lt_of_le (Nat.le_of_lt_succ hi) with e | e
    · subst e
      have g : ∀ j, rwS σ Γ.2.2.1 x y z u v w o (33 + Γ.2.2.1) j = (if j = 0 then x else if j = 1 then y else if j = 2 then z else if j = 3 then u else if j = 4 then v else if j = 5 then w else if j = 6 then o else 0) := fun j => by
        unfold rwS
        rw [if_neg (by omega), if_pos rfl]
      rw [g 0, g 1, g 2]
      exact ⟨⟨b, hb, (if_pos rfl).trans ex⟩, ⟨d, hd, ((if_neg (by decide)).trans (if_pos rfl)).trans ey⟩, t, ht, ((if_neg (by decide)).trans ((if_neg (by decide)).trans (if_pos rfl))).trans ez⟩
    · rw [lo _ _ (by omega) (by omega), lo _ _ (by omega) (by omega), lo _ _ (by omega) (by omega)]; exact h9 i e
theorem rOk.bnd {y : Nat} {x : Int32} (h : rOk Tm Γ σ) (hB : Γ.2.1 < 6) : rOk Tm (Γ.1, Γ.2.1 + 1, Γ.2.2.1, Γ.2.2.2.1, va_up Γ.2.2.2.2.1 Γ.2.1 y, va_up Γ.2.2.2.2.2 Γ.2.1 x) (rbS σ Γ.2.1) := by
  have lo : ∀ k j, k ≠ 2 → rbS σ Γ.2.1 k j = σ k j := fun k j h1 => by
    unfold rbS
    rw [if_neg h1]
  obtain ⟨⟨h1, h2, h3, h4, h5, h6, h7, h0, h8, h9⟩, htd⟩ := h
  refine ⟨⟨h1, by show Γ.2.1 + 1 ≤ 6; omega, h3, (lo _ _ (by decide)).trans h4, rfl, (lo _ _ (by decide)).trans h6, by rw [lo _ _ (by decide)]; exact h7, fun s hs => by rw [lo _ _ (by decide)]; exact h0 s hs, fun p hp => ?_, fun w hw => ?_⟩, fun k j hk => (lo k j (by unfold rTd at hk; dsimp only at hk; omega)).trans (htd k j hk)⟩
  · have hp : p < Γ.1 := hp
    rw [lo _ _ (by omega)]; exact h8 p hp
  · have hw : w < Γ.2.2.1 := hw
    rw [lo _ _ (by omega), lo _ _ (by omega), lo _ _ (by omega)]
    obtain ⟨⟨b, hb, eb⟩, hd, ht⟩ := h9 w hw
    exact ⟨⟨b, Nat.lt_succ_of_lt hb, eb⟩, hd, ht⟩
theorem sf_player {post : Int32 → RY → Prop} (O : rOk Tm Γ σ)
    (h1 : (a3 < 0 ∨ 5 < a3) → rOk Tm Γ (up2 (up2 σ 0 0 0) 0 0 1) → post 0 (lay, Γ, up2 (up2 σ 0 0 0) 0 0 1))
    (h2 : ¬ (a3 < 0 ∨ 5 < a3) → (a1 < 1 ∨ 63 < a1) ∨ (a2 < 0 ∨ 65535 < a2) ∨ (a4 < 1 ∨ 99 < a4) → rOk Tm Γ (up2 (up2 σ 0 0 0) 0 0 2) → post 0 (lay, Γ, up2 (up2 σ 0 0 0) 0 0 2))
    (h3 : ¬ (a3 < 0 ∨ 5 < a3) → ¬ ((a1 < 1 ∨ 63 < a1) ∨ (a2 < 0 ∨ 65535 < a2) ∨ (a4 < 1 ∨ 99 < a4)) → Γ.1 = 10 → rOk Tm Γ (up2 (up2 σ 0 0 0) 0 0 3) → post 0 (lay, Γ, up2 (up2 σ 0 0 0) 0 0 3))
    (h4 : ¬ (a3 < 0 ∨ 5 < a3) → ¬ ((a1 < 1 ∨ 63 < a1) ∨ (a2 < 0 ∨ 65535 < a2) ∨ (a4 < 1 ∨ 99 < a4)) → Γ.1 < 10 → ∀ lay', rOk (pyT Tm Γ.1 a2) (Γ.1 + 1, Γ.2) (rpS (up2 σ 0 0 0) Γ.1 a1 a2 a3 a4) → post (nI Γ.1) (lay', (Γ.1 + 1, Γ.2), rpS (up2 σ 0 0 0) Γ.1 a1 a2 a3 a4)) : w_X11_player lay Γ post σ a1 a2 a3 a4 := by
  have O0 := O.up (k := 0) (j := 0) (v := 0) (by unfold rPr; omega)
  have Ou : ∀ v : Int32, rOk Tm Γ (up2 (up2 σ 0 0 0) 0 0 v) := fun v => O0.up (by unfold rPr; omega)
  have hP := O.hP
  unfold w_X11_player
  refine law_X11_is ⟨fun c => law_X11_refuse (h1 (rIsF_0.mp c) (Ou 1)), fun n1 => ?_⟩
  obtain ⟨t, -, ht, et⟩ := rIs_rg (lo := 0) (hi := 5) (by decide) n1 (by decide)
  replace n1 : ¬ (a3 < 0 ∨ 5 < a3) := fun z => n1 (rIsF_0.mpr z)
  refine law_X11_is ⟨fun c => law_X11_refuse (h2 n1 (Or.inl (rIsF_0.mp c)) (Ou 2)), fun n2 => ?_⟩
  refine law_X11_areSongs ⟨fun c => law_X11_refuse (h2 n1 (Or.inr (Or.inl (rIsF_0.mp c))) (Ou 2)), fun n3 => ?_⟩
  refine law_X11_is ⟨fun c => law_X11_refuse (h2 n1 (Or.inr (Or.inr (rIsF_0.mp c))) (Ou 2)), fun n4 => ?_⟩
  have n5 : ¬ ((a1 < 1 ∨ 63 < a1) ∨ (a2 < 0 ∨ 65535 < a2) ∨ (a4 < 1 ∨ 99 < a4)) := by
    rintro (z | z | z)
    · exact n2 (rIsF_0.mpr z)
    · exact n3 (rIsF_0.mpr z)
    · exact n4 (rIsF_0.mpr z)
  unfold w_lp_Jx4a65c_size_8abf5
  rw [O0.p]
  by_cases c : Γ.1 = 10
  · refine ⟨fun _ => law_X11_refuse (h3 n1 n5 c (Ou 3)), fun z => absurd ?_ z⟩
    rw [c]
    decide +kernel
  · have hlt : Γ.1 < 10 := by omega
    refine ⟨fun z => ?_, fun _ => ⟨hlt, O0.p, fun lay' => h4 n1 n5 hlt lay' (O0.play hlt (by omega) et)⟩⟩
    have z' : nI Γ.1 = nI 10 := z
    exact absurd ((nI_eq (by omega) (by decide)).mp z') c
theorem sf_ask {post : Int32 → RY → Prop} (O : rOk Tm Γ σ) (h0 : ∀ r τ, rOk Tm Γ τ → post r (lay, Γ, τ)) (h4 : ∀ (r : Int32) (lay' : Nat → Nat) (Γ' : RG) (τ : MS), Γ'.1 = Γ.1 → Γ'.2.1 = Γ.2.1 → Γ'.2.2.2 = Γ.2.2.2 → rOk Tm Γ' τ → post r (lay', Γ', τ)) : w_X11_ask lay Γ post σ a1 a2 a3 a4 a5 a6 := by
  have O0 := O.up (k := 0) (j := 0) (v := 0) (by unfold rPr; omega)
  have rf : ∀ {v : Int32}, w_X11_refuse Γ (fun x σ9 => post x (lay, Γ, σ9)) (up2 σ 0 0 0) v := sf_refuse O0 (fun r τ O' => h0 r τ O')
  have hW := O.hW
  unfold w_X11_ask
  refine sf_isBand O0 ⟨fun _ => rf, fun c => absurd rfl c⟩ (fun b r hb eb hr => ⟨fun c => absurd c hr, fun _ => ?_⟩)
  refine sf_isTown ⟨fun _ => rf, fun c => absurd rfl c⟩ (fun t r ht et hr => ⟨fun c => absurd c hr, fun _ => ?_⟩)
  refine sf_isDay O0 ⟨fun _ => rf, fun c => absurd rfl c⟩ (fun d r hd ed hr => ⟨fun c => absurd c hr, fun _ => ?_⟩)
  refine sf_is (fun r => ⟨fun _ => rf, fun _ => sf_is (fun r => ⟨fun _ => rf, fun _ => ⟨fun _ => rf, fun _ => sf_areSongs (fun r => ⟨fun _ => rf, fun _ => ?_⟩)⟩⟩)⟩)
  unfold w_lw_Jx4a65c_size_8abf5
  rw [O0.w]
  refine ⟨fun _ => rf, fun z => ?_⟩
  have hlt : Γ.2.2.1 < 14 := by
    rcases Nat.lt_or_ge Γ.2.2.1 14 with d | d
    · exact d
    · exact absurd (show nI Γ.2.2.1 = nI 14 by rw [show Γ.2.2.1 = 14 by omega]) z
  exact law_X11_isFixed hW O0.w (fun d => ⟨fun _ => rf, fun z => absurd z (by decide)⟩) (fun d => ⟨fun z => absurd rfl z, fun _ => ⟨hlt, O0.w, fun lay' => h4 _ _ _ _ rfl rfl rfl (O0.wed hlt hb eb hd ed ht et)⟩⟩)
theorem sz_need (a : Int32) : ∀ n, szI a n = (rNeeds a n, rD3 a n)
  | 0 => rfl
  | n + 1 => by
    unfold szI
    rw [sz_need a n]
    rfl
/-- band: what it answers -/
theorem sf_band {post : Int32 → RY → Prop} (O : rOk Tm Γ σ)
    (h1 : (rIsF a1 1 728 = 0 ∨ ¬ rNeeds a1 6 ≤ 5) → ∀ τ, rOk Tm Γ τ → τ 0 0 = 1 → post 0 (lay, Γ, τ))
    (h2 : ¬ rIsF a1 1 728 = 0 → rNeeds a1 6 ≤ 5 → Γ.2.1 = 6 → ∀ τ, rOk Tm Γ τ → τ 0 0 = 2 → post 0 (lay, Γ, τ))
    (h4 : ¬ rIsF a1 1 728 = 0 → rNeeds a1 6 ≤ 5 → Γ.2.1 < 6 → ∀ (lay' : Nat → Nat) (Γ' : RG) (τ : MS), Γ'.1 = Γ.1 → Γ'.2.1 = Γ.2.1 + 1 → Γ'.2.2.2.1 = Γ.2.2.2.1 → rOk Tm Γ' τ → τ 0 0 = 0 → post (nI Γ.2.1) (lay', Γ', τ)) : w_X11_band lay Γ post σ a1 := by
  have O0 := O.up (k := 0) (j := 0) (v := 0) (by unfold rPr; omega)
  have hB := O.hB
  unfold w_X11_band
  refine law_X11_is ⟨fun c => sx_refuse O0 (h1 (Or.inl c)), fun n1 => law_X11_needed_ ⟨fun c => sx_refuse O0 (h1 (Or.inr c)), fun n2 => ?_⟩⟩
  have n2 : rNeeds a1 6 ≤ 5 := Decidable.byContradiction fun z => by first | exact n2 z | exact z n2 | exact absurd n2 (by simpa using z)
  unfold w_lb_Jx4a65c_size_8abf5
  rw [O0.b]
  refine ⟨fun c => sx_refuse O0 (h2 n1 n2 ?_), fun z => ?_⟩
  · exact (nI_eq (show Γ.2.1 < 2 ^ 31 by omega) (by decide)).mp (show nI Γ.2.1 = nI 6 from c)
  have hlt : Γ.2.1 < 6 := by
    rcases Nat.lt_or_ge Γ.2.1 6 with d | d
    · exact d
    · exact absurd (show nI Γ.2.1 = nI 6 by rw [show Γ.2.1 = 6 by omega]) z
  refine ⟨hlt, O0.b, fun lay' y => h4 n1 n2 hlt _ _ _ rfl rfl rfl (O0.bnd hlt) ?_⟩
  unfold rbS
  rw [if_neg (by decide), up2_same]
theorem sf_tell {post : MS → Prop} (O : rOk Tm Γ σ) (h : ∀ τ, rOk Tm Γ τ → post τ) : w_X11_tell Γ post σ a1 := by
  have hW := O.hW
  unfold w_X11_tell
  have O0 := O.up (k := 0) (j := 0) (v := 0) (by unfold rPr; omega)
  refine sf_isWedding O ⟨fun _ => h _ (O.up (by unfold rPr; omega)), fun c => absurd rfl c⟩ (fun w r hw e hr => ⟨fun c => absurd c hr, fun _ => sf_wget O0 hw e ⟨⟨by omega, hw⟩, ?_⟩⟩)
  obtain ⟨d, hd, ed⟩ := O0.day hw
  obtain ⟨t, ht, et⟩ := O0.town hw
  exact ⟨w, d, t, by omega, e, by omega, ed, by omega, et, O0.p, h _ O0⟩
theorem sf_songs {post : MS → Prop} (O : rOk Tm Γ σ) (h : ∀ τ, rOk Tm Γ τ → post τ) : w_X11_songs Γ post σ a1 := by
  have hW := O.hW
  unfold w_X11_songs
  have O0 := O.up (k := 0) (j := 0) (v := 0) (by unfold rPr; omega)
  refine sf_isWedding O ⟨fun _ => h _ (O.up (by unfold rPr; omega)), fun c => absurd rfl c⟩ (fun w r hw e hr => ⟨fun c => absurd c hr, fun _ => sf_wget O0 hw e ⟨⟨by omega, hw⟩, sf_bestSet O0 (fun len f τ O' hl hf => ⟨hl, fun i hi => ?_, h _ O'⟩)⟩⟩)
  obtain ⟨s, hs, es⟩ := hf i hi
  exact ⟨s, by omega, es⟩
theorem sf_thrown {post : Int32 → MS → Prop} (h : post (σ 0 0) σ) : w_X11_thrown Γ post σ := law_X11_thrown h
/-- no roads: no ways -/
def Dg (y : MS) : Prop := ∀ a b, a < 6 → b < 6 → y (23 + a) b = if a = b then 0 else -1
theorem dg_shB {y : MS} {o a b : Nat} (h : Dg y) (ho : o < 6) (ha : a < 6) (hb : b < 6) : Dg (shB y o a b) := by
  unfold shB
  split
  · exact h
  · next c =>
    have e1 : a = o := Decidable.byContradiction fun z => c (Or.inl (by rw [h a o ha ho, if_neg z]))
    have e2 : o = b := Decidable.byContradiction fun z => c (Or.inr (by rw [h o b ho hb, if_neg z]))
    subst e1
    subst e2
    intro u v hu hv
    by_cases q : u = a ∧ v = a
    · obtain ⟨rfl, rfl⟩ := q
      rw [up2_same, h v v hv hv, if_pos rfl]
      decide
    · rw [up2_off (by omega)]
      exact h u v hu hv
theorem dg_shA {y : MS} {o a : Nat} (h : Dg y) (ho : o < 6) (ha : a < 6) : ∀ n, n ≤ 6 → Dg (shA y o a n)
  | 0, _ => h
  | n + 1, hn => dg_shB (dg_shA h ho ha n (by omega)) ho ha (by omega)
theorem dg_shO {y : MS} {o : Nat} (h : Dg y) (ho : o < 6) : ∀ n, n ≤ 6 → Dg (shO y o n)
  | 0, _ => h
  | n + 1, hn => dg_shA (dg_shO h ho n (by omega)) ho (by omega) 6 (Nat.le_refl _)
theorem dg_ov {y : MS} (h : Dg y) : ∀ n, n ≤ 6 → Dg (ovS y n)
  | 0, _ => h
  | n + 1, hn => dg_shO (dg_ov h n (by omega)) (by omega) 6 (Nat.le_refl _)
theorem lyB_17 (x : MS) (a : Nat) {c d : Nat} (hc : c < 6) : ∀ n, lyB x a n (17 + c) d = x (17 + c) d
  | 0 => rfl
  | n + 1 => by
    unfold lyB
    rw [up2_off (by omega)]
    exact lyB_17 x a hc n
theorem lyA_17 (x : MS) {c d : Nat} (hc : c < 6) : ∀ n, lyA x n (17 + c) d = x (17 + c) d
  | 0 => rfl
  | n + 1 => by
    unfold lyA
    rw [lyB_17 _ _ hc]
    exact lyA_17 x hc n
theorem lyB_ne (x : MS) {a c d : Nat} (h : c ≠ a) : ∀ n, lyB x a n (23 + c) d = x (23 + c) d
  | 0 => rfl
  | n + 1 => by
    unfold lyB
    rw [up2_off (by omega)]
    exact lyB_ne x h n
theorem lyV_17 {x y : MS} {a d : Nat} (h : y (17 + a) d = x (17 + a) d) : lyV y a d = lyV x a d := by
  unfold lyV
  rw [h]
theorem lyB_23 (x : MS) {a d : Nat} (ha : a < 6) : ∀ n, d < n → lyB x a n (23 + a) d = lyV x a d
  | 0, h => absurd h (Nat.not_lt_zero _)
  | n + 1, h => by
    unfold lyB
    by_cases q : d = n
    · subst q
      rw [up2_same]
      exact lyV_17 (lyB_17 x a ha d)
    · rw [up2_off (by omega)]
      exact lyB_23 x ha n (by omega)
theorem lyA_23 (x : MS) {c d : Nat} (hd : d < 6) : ∀ n, n ≤ 6 → c < n → lyA x n (23 + c) d = lyV x c d
  | 0, _, h => absurd h (Nat.not_lt_zero _)
  | n + 1, hn, h => by
    unfold lyA
    by_cases q : c = n
    · subst q
      rw [lyB_23 _ (by omega) 6 hd]
      exact lyV_17 (lyA_17 x (by omega) c)
    · rw [lyB_ne _ q]
      exact lyA_23 x hd n (by omega) (by omega)
theorem dg_lyA {x : MS} (h0 : ∀ c d, c < 6 → d < 6 → x (17 + c) d = 0) : Dg (lyA x 6) := fun c d hc hd => by
  rw [lyA_23 x hd 6 (Nat.le_refl _) hc]
  unfold lyV
  rw [h0 c d hc hd, if_pos rfl]
/-- what a new one has been told -/
def nwT : MS := fun k j => if k = 7 then nI j - nI j / 12 * 12 else if k = 8 then 5 else if k = 9 then 3 else if k = 12 then (if j / 6 = j % 6 then 0 else -1) else 0
theorem sf_init {ea : Nat} {post : MS → Prop} (h : ∀ τ, rOk nwT (rG0 ea) τ → post τ) : ∃ k, u_X11_init_87 (rG0 ea) post k (fun _ _ => 0) 0 := by
  have := inv_loop (fun k (q : MS × Int32) => u_X11_init_87 (rG0 ea) post k q.1 q.2) (fun j q => ((∀ k i, k ≠ 7 → k ≠ 8 → k ≠ 9 → q.1 k i = 0) ∧ ∀ s, s < j → q.1 9 s = 3 ∧ q.1 8 s = 5 ∧ q.1 7 s = nI s - nI s / 12 * 12) ∧ q.2 = nI j) 16 (by
    rintro ⟨τ, v⟩ ⟨⟨h0, h3⟩, rfl⟩
    have h0 : ∀ k i, k ≠ 7 → k ≠ 8 → k ≠ 9 → τ k i = 0 := h0
    have h3 : ∀ s, s < 16 → τ 9 s = 3 ∧ τ 8 s = 5 ∧ τ 7 s = nI s - nI s / 12 * 12 := h3
    show u_X11_init_87 (rG0 ea) post 1 τ (nI 16)
    unfold u_X11_init_87
    refine ⟨fun _ => ?_, fun c => absurd (le_self (nI 16)) c⟩
    have O : rOk τ (rG0 ea) τ := ⟨⟨Nat.zero_le _, Nat.zero_le _, Nat.zero_le _, h0 _ _ (by decide) (by decide) (by decide), h0 _ _ (by decide) (by decide) (by decide), h0 _ _ (by decide) (by decide) (by decide), ⟨0, by decide, h0 _ _ (by decide) (by decide) (by decide)⟩, fun s hs => ⟨3, by decide, by decide, (h3 s hs).1⟩, fun p hp => absurd hp (Nat.not_lt_zero _), fun w hw => absurd hw (Nat.not_lt_zero _)⟩, fun _ _ _ => rfl⟩
    -- the roads of a class without any, its ways as they are
    have O2 : rO12 τ 0 (rG0 ea) τ := rO12.of O (h0 _ _ (by decide) (by decide) (by decide))
    have e12 : ∀ v : MS, rO12 τ 0 (rG0 ea) v → (∀ a b, a < 6 → b < 6 → v 12 (a * 6 + b) = if a = b then 0 else -1) → post v := fun v hv e => h v (hv.1.reT (fun k j hk => by
      unfold w12 nwT
      have hk : (k = 0 ∧ j = 1) ∨ ((k = 7 ∨ k = 8 ∨ k = 9) ∧ j < 16) ∨ ((k = 11 ∨ k = 12) ∧ j < 36) ∨ (13 ≤ k ∧ k < 13 + 0 ∧ (j = 1 ∨ j = 4)) := hk
      by_cases q7 : k = 7
      · subst q7; rw [if_pos rfl, if_neg (by decide)]; exact (h3 j (by omega)).2.2.symm
      · by_cases q8 : k = 8
        · subst q8; rw [if_neg (by decide), if_pos rfl, if_neg (by decide)]; exact (h3 j (by omega)).2.1.symm
        · by_cases q9 : k = 9
          · subst q9; rw [if_neg (by decide), if_neg (by decide), if_pos rfl, if_neg (by decide)]; exact (h3 j (by omega)).1.symm
          · rw [if_neg q7, if_neg q8, if_neg q9]
            by_cases q12 : k = 12
            · subst q12
              rw [if_pos rfl, if_pos rfl]
              have := e (j / 6) (j % 6) (by omega) (by omega)
              rw [show j / 6 * 6 + j % 6 = j by omega] at this
              exact this.symm
            · rw [if_neg q12, if_neg q12]; exact (h0 _ _ q7 q8 q9).symm))
    exact sf_drive (x := fun _ _ => 0) O2 (fun a b _ _ => ⟨h0 _ _ (by decide) (by decide) (by decide), h0 _ _ (by decide) (by decide) (by decide)⟩) (fun v hv hw => e12 v hv (fun a b ha hb => (hw a b ha hb).1.trans (dg_ov (dg_lyA (fun _ _ _ _ => rfl)) 6 (Nat.le_refl _) a b ha hb)))) (by
    rintro j k ⟨τ, v⟩ hj ⟨⟨h0, h3⟩, rfl⟩ ih
    have h0 : ∀ k i, k ≠ 7 → k ≠ 8 → k ≠ 9 → τ k i = 0 := h0
    have h3 : ∀ s, s < j → τ 9 s = 3 ∧ τ 8 s = 5 ∧ τ 7 s = nI s - nI s / 12 * 12 := h3
    have cj : (nI j).toNatClampNeg = j := nI_clamp (by omega)
    show u_X11_init_87 (rG0 ea) post (k + 1) τ (nI j)
    unfold u_X11_init_87
    refine ⟨fun c => absurd (show nI 16 ≤ nI j from c) (nI_ge hj (by decide)), fun _ => ⟨vp_in_nI hj (by decide), ?_⟩⟩
    rw [cj, nI_1 j]
    refine ih (up2 (up2 (up2 τ 7 j (nI j - nI j / 12 * 12)) 8 j 5) 9 j 3, nI (j + 1)) ⟨⟨fun k i h7 h8 h9 => ?_, fun s hs => ?_⟩, rfl⟩
    · show up2 (up2 (up2 τ 7 j (nI j - nI j / 12 * 12)) 8 j 5) 9 j 3 k i = 0
      rw [up2_at (Or.inl h9), up2_at (Or.inl h8), up2_at (Or.inl h7)]; exact h0 k i h7 h8 h9
    · rcases Nat.eq_or_lt_of_le (Nat.le_of_lt_succ hs) with e | e
      · show up2 (up2 (up2 τ 7 j (nI j - nI j / 12 * 12)) 8 j 5) 9 j 3 9 s = 3 ∧ up2 (up2 (up2 τ 7 j (nI j - nI j / 12 * 12)) 8 j 5) 9 j 3 8 s = 5 ∧ up2 (up2 (up2 τ 7 j (nI j - nI j / 12 * 12)) 8 j 5) 9 j 3 7 s = nI s - nI s / 12 * 12
        rw [e]
        exact ⟨up2_same, by rw [up2_off (by omega), up2_same], by rw [up2_off (by omega), up2_off (by omega), up2_same]⟩
      · show up2 (up2 (up2 τ 7 j (nI j - nI j / 12 * 12)) 8 j 5) 9 j 3 9 s = 3 ∧ up2 (up2 (up2 τ 7 j (nI j - nI j / 12 * 12)) 8 j 5) 9 j 3 8 s = 5 ∧ up2 (up2 (up2 τ 7 j (nI j - nI j / 12 * 12)) 8 j 5) 9 j 3 7 s = nI s - nI s / 12 * 12
        refine ⟨?_, ?_, ?_⟩
        · rw [up2_off (by omega), up2_off (by omega), up2_off (by omega)]; exact (h3 s e).1
        · rw [up2_off (by omega), up2_off (by omega), up2_off (by omega)]; exact (h3 s e).2.1
        · rw [up2_off (by omega), up2_off (by omega), up2_off (by omega)]; exact (h3 s e).2.2) 0 (by omega) (_, 0) ⟨⟨fun _ _ _ _ _ => rfl, fun s hs => absurd hs (Nat.not_lt_zero _)⟩, nI_0.symm⟩
  exact this
end RSAFE15
