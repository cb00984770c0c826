/-! THE REFERENCE IS SAFE: days go by -/
section RSAFE14
variable {Tm : MS} {Γ : RG} {σ τ ρ : MS} {a a0 a1 a2 a3 a4 b c : Int32}
/-- what playing leaves alone: today, the list of weddings, the weddings' states -/
def kPr (k j : Nat) : Prop := (k = 0 ∧ j ≤ 1) ∨ (k = 3 ∧ j = 0) ∨ (33 ≤ k ∧ k < 47 ∧ j = 7)
def kp (σ τ : MS) : Prop := ∀ k j, kPr k j → τ k j = σ k j
theorem kp.rfl' : kp σ σ := fun _ _ _ => rfl
theorem kp.up {k j : Nat} {v : Int32} (h : kp σ τ) (hk : ¬ kPr k j) : kp σ (up2 τ k j v) := fun k' j' hp => by
  rw [up2_at]
  · exact h k' j' hp
  · by_cases e : k' = k
    · by_cases e2 : j' = j
      · subst e; subst e2; exact absurd hp hk
      · exact Or.inr e2
    · exact Or.inl e
theorem kp.low (h : kp σ τ) (e : ∀ k, k < 64 → ρ k = τ k) : kp σ ρ := fun k j hp => by
  rw [e k (by unfold kPr at hp; omega)]
  exact h k j hp
theorem kp.rw0 {k : Nat} {f : Nat → Int32} (h : kp σ τ) (hk : 64 ≤ k) : kp σ (rw0 τ k f) := h.low (fun i hi => rw0_ne (by omega))
theorem kp.mrg (h : kp σ τ) : kp σ (mrg τ ρ) := h.low (fun i hi => mrg_lo hi)
theorem sf_playNowF {post : MS → Prop} {w : Nat} (O : rOk Tm Γ σ) (hw : w < Γ.2.2.1) (h : ∀ τ, rOk Tm Γ τ → kp σ τ → post (up2 τ (33 + w) 7 2)) : w_X11_playNow Γ post σ w := by
  have hP := O.hP
  have hW := O.hW
  have d108 : ∀ (len : Nat) (f : Nat → Int32) (τ : MS), len ≤ 16 → (∀ i, i < len → ∃ s, s < 16 ∧ f i = nI s) → rOk Tm Γ τ → kp σ τ → τ 64 = f → ∃ k, u_X11_playNow_108 Γ post w k τ (nI len) 0 len := by
    intro len f τ hl hf O K hτ
    have := inv_loop (fun k (q : MS × Int32) => u_X11_playNow_108 Γ post w k q.1 (nI len) q.2 len) (fun j q => (rOk Tm Γ q.1 ∧ kp σ q.1 ∧ q.1 64 = f) ∧ q.2 = nI j) len (by
      rintro ⟨τ, v⟩ ⟨⟨O, K, e⟩, rfl⟩
      show u_X11_playNow_108 Γ post w 1 τ (nI len) (nI len) len
      unfold u_X11_playNow_108
      exact ⟨fun _ => h _ O K, fun c => absurd (le_self _) c⟩) (by
      rintro j k ⟨τ, v⟩ hj ⟨⟨O, K, e⟩, rfl⟩ ih
      have O : rOk Tm Γ τ := O
      have e : τ 64 = f := e
      have K : kp σ τ := K
      have cj : (nI j).toNatClampNeg = j := nI_clamp (by omega)
      obtain ⟨s, hs, es⟩ := hf j hj
      have nx : ∀ τ', rOk Tm Γ τ' → kp σ τ' → τ' 64 = f → u_X11_playNow_108 Γ post w k τ' (nI len) (nI (j + 1)) len := fun τ' O' K' e' => ih (τ', nI (j + 1)) ⟨⟨O', K', e'⟩, rfl⟩
      show u_X11_playNow_108 Γ post w (k + 1) τ (nI len) (nI j) len
      unfold u_X11_playNow_108
      rw [cj, e, es]
      have vs : vp_in (nI s) 16 := vp_in_nI hs (by decide)
      refine ⟨fun c => absurd c (nI_ge hj (by omega)), fun _ => ⟨vp_in_nI hj (by omega), vs, vs, ?_⟩⟩
      rw [nI_1 j]
      exact nx _ (O.up (by unfold rPr; omega)) (K.up (by unfold kPr; omega)) (funext (fun i => (up2_at (Or.inl (show 64 ≠ 10 by decide))).trans (congrFun e i)))) 0 (by omega) (τ, 0) ⟨⟨O, K, hτ⟩, nI_0.symm⟩
    exact this
  unfold w_X11_playNow
  refine sf_gain O hw (fun r => sf_quarters (fun r2 => sf_fees (O.up (by unfold rPr; omega)) (fun r3 => ?_)))
  have O2 := (O.up (k := 0) (j := 2) (v := σ 0 2 + r) (by unfold rPr; omega)).up (k := 33 + w) (j := 11) (v := up2 σ 0 2 (σ 0 2 + r) (33 + w) 9 + r2 * r3 / 4) (by unfold rPr; omega)
  have K2 : kp σ (up2 (up2 σ 0 2 (σ 0 2 + r)) (33 + w) 11 (up2 σ 0 2 (σ 0 2 + r) (33 + w) 9 + r2 * r3 / 4)) := (kp.rfl'.up (by unfold kPr; omega)).up (by unfold kPr; omega)
  have := inv_loop (fun k (q : MS × Int32) => u_X11_playNow_40 Γ post w k q.1 q.2) (fun j q => (rOk Tm Γ q.1 ∧ kp σ q.1) ∧ q.2 = nI j) Γ.1 (by
    rintro ⟨τ, v⟩ ⟨⟨O, K⟩, rfl⟩
    have O : rOk Tm Γ τ := O
    have K : kp σ τ := K
    show u_X11_playNow_40 Γ post w 1 τ (nI Γ.1)
    unfold u_X11_playNow_40 w_lp_Jx4a65c_size_8abf5
    rw [O.p]
    exact ⟨fun _ => sf_bestSetF O (fun len f τ' hlo O' hl hf => d108 len f _ hl hf (O'.mrg.rw0 (by decide)) ((K.low hlo).mrg.rw0 (by decide)) rw0_eq), fun c => absurd (le_self _) c⟩) (by
    rintro j k ⟨τ, v⟩ hj ⟨⟨O, K⟩, rfl⟩ ih
    have O : rOk Tm Γ τ := O
    have K : kp σ τ := K
    have nx : ∀ τ', rOk Tm Γ τ' → kp σ τ' → u_X11_playNow_40 Γ post w k τ' (nI j + 1) := fun τ' O' K' => by rw [nI_1]; exact ih (τ', nI (j + 1)) ⟨⟨O', K'⟩, rfl⟩
    show u_X11_playNow_40 Γ post w (k + 1) τ (nI j)
    unfold u_X11_playNow_40 w_lp_Jx4a65c_size_8abf5
    rw [O.p]
    exact ⟨fun c => absurd c (nI_ge hj (by omega)), fun _ => sf_isIn (fun r4 => ⟨fun _ => nx _ O K, fun _ => sf_pget O hj rfl ⟨⟨by omega, hj⟩, sf_earnedAt O hj rfl hw (fun r5 => nx _ (O.up (by unfold rPr; omega)) (K.up (by unfold kPr; omega)))⟩⟩)⟩) 0 (by omega) (_, 0) ⟨⟨O2, K2⟩, nI_0.symm⟩
  exact this
/-- how many are fixed -/
noncomputable def cntF (Γ : RG) (τ : MS) : Nat := cnt (fun w => τ (33 + w) 7 = 1) Γ.2.2.1
theorem cntF_le {Γ : RG} {σ τ : MS} (h : ∀ w, w < Γ.2.2.1 → τ (33 + w) 7 = 1 → σ (33 + w) 7 = 1) : cntF Γ τ ≤ cntF Γ σ := cnt_mono _ h
/-- what was told, but today is T -/
def dyT (Tm : MS) (T : Nat) : MS := up2 Tm 0 1 (nI T)
theorem rOk.dy {T : Nat} (h : rOk Tm Γ σ) (e : σ 0 1 = nI T) : rOk (dyT Tm T) Γ σ := h.reT (fun k j hk => by
  unfold dyT
  by_cases z : k = 0 ∧ j = 1
  · obtain ⟨rfl, rfl⟩ := z
    rw [up2_same, ← h.2 0 1 hk]; exact e.symm
  · rw [up2_off z])
theorem rOk.setT {T S : Nat} {v : Int32} (h : rOk (dyT Tm S) Γ σ) (hT : T ≤ 365) (e : v = nI T) : rOk (dyT Tm T) Γ (up2 σ 0 1 v) := by
  have ne : ∀ k i, k ≠ 0 → up2 σ 0 1 v k i = σ k i := fun k i hk => up2_at (Or.inl hk)
  obtain ⟨⟨h1, h2, h3, h4, h5, h6, h7, h0, h8, h9⟩, ht⟩ := h
  refine ⟨⟨h1, h2, h3, by rw [ne _ _ (by omega)]; exact h4, by rw [ne _ _ (by omega)]; exact h5, by rw [ne _ _ (by omega)]; exact h6, ⟨T, hT, by rw [up2_same]; exact e⟩, fun s hs => by rw [ne _ _ (by omega)]; exact h0 s hs, fun p hp => by rw [ne _ _ (by omega)]; exact h8 p hp, fun w hw => by rw [ne _ _ (by omega), ne _ _ (by omega), ne _ _ (by omega)]; exact h9 w hw⟩, fun k j hk => ?_⟩
  unfold dyT
  by_cases z : k = 0 ∧ j = 1
  · obtain ⟨rfl, rfl⟩ := z
    rw [up2_same, up2_same]; exact e
  · rw [up2_off z, up2_off z]
    have := ht k j hk
    unfold dyT at this
    rw [up2_off z] at this
    exact this
/-- a day's walks: at wedding j, today T, what may still be played is no less than what is fixed -/
def psI (Tm : MS) (Γ : RG) (T j : Nat) (τ : MS) : Prop := itI (dyT Tm T) Γ j τ ∧ τ 0 1 = nI T ∧ cntF Γ τ ≤ gh τ ∧ gh τ ≤ 14 ∧ τ 0 0 = 0
theorem psI.start {T : Nat} (O : rOk (dyT Tm T) Γ τ) (e : τ 0 1 = nI T) (h1 : cntF Γ τ ≤ gh τ) (h2 : gh τ ≤ 14) (hz : τ 0 0 = 0) : psI Tm Γ T 0 (rw0 τ 64 (itR (τ 3 0))) := by
  have hW := O.hW
  have eg : gh (rw0 τ 64 (itR (τ 3 0))) = gh τ := gh_rw0 (by decide)
  refine ⟨itI.start O, by rw [rw0_ne (by decide)]; exact e, ?_, by rw [eg]; exact h2, by rw [rw0_ne (by decide)]; exact hz⟩
  rw [eg]
  exact Nat.le_trans (cntF_le (fun w hw c => by rw [rw0_ne (by omega)] at c; exact c)) h1
theorem psI.next {T j : Nat} (h : psI Tm Γ T j τ) : psI Tm Γ T (j + 1) (up2 (up2 τ 64 0 (nI (j + 1))) 64 1 (nI j)) := by
  have hW := h.1.1.hW
  have eg : gh (up2 (up2 τ 64 0 (nI (j + 1))) 64 1 (nI j)) = gh τ := (gh_up (by decide)).trans (gh_up (by decide))
  refine ⟨h.1.next, by rw [up2_at (Or.inl (by decide)), up2_at (Or.inl (by decide))]; exact h.2.1, ?_, by rw [eg]; exact h.2.2.2.1, by rw [up2_at (Or.inl (by decide)), up2_at (Or.inl (by decide))]; exact h.2.2.2.2⟩
  rw [eg]
  exact Nat.le_trans (cntF_le (fun w hw c => by rw [up2_at (Or.inl (by omega)), up2_at (Or.inl (by omega))] at c; exact c)) h.2.2.1
theorem psI.end3 {T j w : Nat} (h : psI Tm Γ T j τ) (hw : w < Γ.2.2.1) : psI Tm Γ T j (up2 τ (33 + w) 7 3) := by
  have hW := h.1.1.hW
  have eg : gh (up2 τ (33 + w) 7 3) = gh τ := gh_up (by omega)
  refine ⟨h.1.up (by unfold rPr; omega) (by omega) (by omega), by rw [up2_at (Or.inl (by omega))]; exact h.2.1, ?_, by rw [eg]; exact h.2.2.2.1, by rw [up2_at (Or.inl (by omega))]; exact h.2.2.2.2⟩
  rw [eg]
  refine Nat.le_trans (cntF_le (fun w' hw' c => ?_)) h.2.2.1
  by_cases z : w' = w
  · rw [z, up2_same] at c; exact absurd c (by decide)
  · rw [up2_at (Or.inl (by omega))] at c; exact c
theorem psI.played {T j w : Nat} {σ' : MS} (h : psI Tm Γ T j τ) (hw : w < Γ.2.2.1) (e1 : τ (33 + w) 7 = 1) (O : rOk (dyT Tm T) Γ σ') (K : kp τ σ') : ∃ b, gh τ = b + 1 ∧ b < 1000 ∧ psI Tm Γ T j (up2 (mrg (up2 σ' (33 + w) 7 2) τ) 62 0 (nI b)) := by
  have hW := h.1.1.hW
  have hg := h.2.2.2.1
  have lo : ∀ k i, k < 62 → up2 (mrg (up2 σ' (33 + w) 7 2) τ) 62 0 (nI (gh τ - 1)) k i = up2 σ' (33 + w) 7 2 k i := fun k i hk => by rw [up2_at (Or.inl (by omega)), mrg_lo (by omega)]
  have hi : ∀ i, up2 (mrg (up2 σ' (33 + w) 7 2) τ) 62 0 (nI (gh τ - 1)) 64 i = τ 64 i := fun i => by rw [up2_at (Or.inl (by omega)), mrg_hi (by omega)]
  have c1 : cntF Γ (up2 (mrg (up2 σ' (33 + w) 7 2) τ) 62 0 (nI (gh τ - 1))) + 1 ≤ cntF Γ τ := by
    refine cnt_lt _ (fun w' hw' c => ?_) ⟨w, hw, ?_, e1⟩
    · rw [lo _ _ (by omega)] at c
      by_cases z : w' = w
      · rw [z, up2_same] at c; exact absurd c (by decide)
      · rw [up2_at (Or.inl (by omega)), K _ _ (by unfold kPr; omega)] at c; exact c
    · rw [lo _ _ (by omega), up2_same]; decide
  have c2 := h.2.2.1
  have eg : gh (up2 (mrg (up2 σ' (33 + w) 7 2) τ) 62 0 (nI (gh τ - 1))) = gh τ - 1 := gh_set (by omega)
  refine ⟨gh τ - 1, by omega, by omega, ⟨⟨((O.up (by unfold rPr; omega)).mrg).up (by unfold rPr; omega), by rw [hi]; exact h.1.2.1, ?_⟩, ?_, by rw [eg]; omega, by rw [eg]; omega, ?_⟩⟩
  · rw [hi, lo _ _ (by omega), up2_at (Or.inl (by omega)), K _ _ (by unfold kPr; omega)]; exact h.1.2.2
  · rw [lo _ _ (by omega), up2_at (Or.inl (by omega)), K _ _ (by unfold kPr; omega)]; exact h.2.1
  · rw [lo _ _ (by omega), up2_at (Or.inl (by omega)), K _ _ (by unfold kPr; omega)]; exact h.2.2.2.2
/-- pass: what it answers; today is later then -/
theorem sf_pass {post : Int32 → MS → Prop} {S : Nat} (O : rOk Tm Γ σ) (eS : Tm 0 1 = nI S) (hS : S ≤ 365)
    (hx1 : (∀ d, 1 ≤ d → d ≤ 60 → a1 ≠ nI d) → ∀ τ, rOk Tm Γ τ → τ 0 0 = 1 → post 0 τ)
    (hx2 : ∀ d, 1 ≤ d → d ≤ 60 → a1 = nI d → 365 < S + d → ∀ τ, rOk Tm Γ τ → τ 0 0 = 2 → post 0 τ)
    (h : ∀ d, 1 ≤ d → d ≤ 60 → a1 = nI d → S + d ≤ 365 → ∀ τ, rOk (dyT Tm (S + d)) Γ τ → τ 0 0 = 0 → post (nI (S + d)) τ) : w_X11_pass Γ post σ a1 := by
  have hW := O.hW
  have d179 : ∀ (K41 : MS → Int32 → Prop) v2 T, (∀ τ, rOk (dyT Tm T) Γ τ → τ 0 1 = nI T → cntF Γ τ ≤ gh τ → gh τ ≤ 14 → τ 0 0 = 0 → K41 τ (v2 + 1)) → ∀ τ, psI Tm Γ T 0 τ → ∃ k, u_X11_pass_179 Γ post a1 K41 k τ v2 := by
    intro K41 v2 T hK τ I
    refine inv_loop (fun k (q : MS) => u_X11_pass_179 Γ post a1 K41 k q v2) (fun j q => psI Tm Γ T j q) Γ.2.2.1 (fun τ I => ?_) (fun j k τ hj I ih => ?_) 0 (by omega) _ I
    · show u_X11_pass_179 Γ post a1 K41 1 τ v2
      unfold u_X11_pass_179
      exact ⟨fun _ => hK _ I.1.1 I.2.1 I.2.2.1 I.2.2.2.1 I.2.2.2.2, fun c => absurd I.1.fin c⟩
    · have nx : ∀ {τ'}, psI Tm Γ T (j + 1) τ' → u_X11_pass_179 Γ post a1 K41 k τ' v2 := fun I' => ih _ I'
      show u_X11_pass_179 Γ post a1 K41 (k + 1) τ v2
      unfold u_X11_pass_179
      exact ⟨fun c => absurd c (I.1.go hj), fun _ => ⟨j, ⟨I.1.2.1, hj⟩, I.1.2.2, I.1.1.w, fun _ => ⟨fun _ => nx I.next, fun _ => nx (I.next.end3 hj)⟩, fun _ => nx I.next⟩⟩
  have d112 : ∀ (K41 : MS → Int32 → Prop) v2 T, T + 1 ≤ 365 → (∀ τ, rOk (dyT Tm (T + 1)) Γ τ → τ 0 1 = nI (T + 1) → cntF Γ τ ≤ gh τ → gh τ ≤ 14 → τ 0 0 = 0 → K41 τ (v2 + 1)) → ∀ τ, psI Tm Γ T 0 τ → ∃ k, u_X11_pass_112 Γ post a1 K41 k τ v2 := by
    intro K41 v2 T hT hK τ I
    refine inv_loop (fun k (q : MS) => u_X11_pass_112 Γ post a1 K41 k q v2) (fun j q => psI Tm Γ T j q) Γ.2.2.1 (fun τ I => ?_) (fun j k τ hj I ih => ?_) 0 (by omega) _ I
    · show u_X11_pass_112 Γ post a1 K41 1 τ v2
      unfold u_X11_pass_112
      refine ⟨fun _ => d179 K41 v2 (T + 1) hK _ (psI.start (I.1.1.setT hT (by rw [I.2.1, nI_1])) (by rw [up2_same, I.2.1, nI_1]) ?_ ?_ (by rw [up2_off (by omega)]; exact I.2.2.2.2)), fun c => absurd I.1.fin c⟩
      · rw [gh_up (by decide)]
        exact Nat.le_trans (cntF_le (fun w hw c => by rw [up2_at (Or.inl (by omega))] at c; exact c)) I.2.2.1
      · rw [gh_up (by decide)]; exact I.2.2.2.1
    · have nx : ∀ {τ'}, psI Tm Γ T (j + 1) τ' → u_X11_pass_112 Γ post a1 K41 k τ' v2 := fun I' => ih _ I'
      show u_X11_pass_112 Γ post a1 K41 (k + 1) τ v2
      unfold u_X11_pass_112
      exact ⟨fun c => absurd c (I.1.go hj), fun _ => ⟨j, ⟨I.1.2.1, hj⟩, I.1.2.2, I.1.1.w, fun _ => ⟨fun _ => nx (I.next.end3 hj), fun _ => nx I.next⟩, fun _ => nx I.next⟩⟩
  have d54 : ∀ (K41 : MS → Int32 → Prop) v2 T, T + 1 ≤ 365 → (∀ τ, rOk (dyT Tm (T + 1)) Γ τ → τ 0 1 = nI (T + 1) → cntF Γ τ ≤ gh τ → gh τ ≤ 14 → τ 0 0 = 0 → K41 τ (v2 + 1)) → ∀ τ, psI Tm Γ T 0 τ → ∃ k, u_X11_pass_54 Γ post a1 K41 k τ v2 := by
    intro K41 v2 T hT hK τ I
    refine inv_loop (fun k (q : MS) => u_X11_pass_54 Γ post a1 K41 k q v2) (fun j q => psI Tm Γ T j q) Γ.2.2.1 (fun τ I => ?_) (fun j k τ hj I ih => ?_) 0 (by omega) _ I
    · show u_X11_pass_54 Γ post a1 K41 1 τ v2
      unfold u_X11_pass_54
      exact ⟨fun _ => d112 K41 v2 T hT hK _ (psI.start I.1.1 I.2.1 I.2.2.1 I.2.2.2.1 I.2.2.2.2), fun c => absurd I.1.fin c⟩
    · have nx : ∀ {τ'}, psI Tm Γ T (j + 1) τ' → u_X11_pass_54 Γ post a1 K41 k τ' v2 := fun I' => ih _ I'
      show u_X11_pass_54 Γ post a1 K41 (k + 1) τ v2
      unfold u_X11_pass_54
      refine ⟨fun c => absurd c (I.1.go hj), fun _ => ⟨j, ⟨I.1.2.1, hj⟩, I.1.2.2, I.1.1.w, fun e1 => ⟨fun _ => ?_, fun _ => nx I.next⟩, fun _ => nx I.next⟩⟩
      have I2 := I.next
      obtain ⟨b, hb, hb2, _⟩ := I2.played hj e1 I2.1.1 kp.rfl'
      refine ⟨b, hb, hb2, sf_playNowF I2.1.1 hj (fun σ' O' K' => ?_)⟩
      obtain ⟨b', hb', -, I3⟩ := I2.played hj e1 O' K'
      obtain rfl : b = b' := by omega
      exact nx I3
  unfold w_X11_pass
  have O := O.up (k := 0) (j := 0) (v := 0) (by unfold rPr; omega)
  have eT : up2 σ 0 0 0 0 1 = nI S := (O.tld (by unfold rTd; omega)).trans eS
  refine law_X11_is ⟨fun c => sx_refuse O (hx1 (fun d h1 h2 => rIs_nor (lo := 1) (hi := 60) (by decide) c d h1 h2)), fun c => ?_⟩
  obtain ⟨n, h1, h60, rfl⟩ := rIs_rg (lo := 1) (hi := 60) (by decide) c (by decide)
  rw [eT, nI_add]
  refine ⟨fun hd => ?_, fun hd => sx_refuse O (hx2 n h1 h60 rfl (by
    rcases Nat.lt_or_ge 365 (S + n) with d | d
    · exact d
    · exact absurd (nI_le0 d (by decide)) hd))⟩
  have hTn : S + n ≤ 365 := by
    rcases Nat.lt_or_ge 365 (S + n) with d | d
    · exact absurd hd (nI_ge d (by omega))
    · exact d
  have g0 : gh (up2 (up2 σ 0 0 0) 62 0 (nI 14)) = 14 := gh_set (by decide)
  have := inv_loop_b (fun k (q : MS × Int32) => u_X11_pass_41 Γ post (nI n) k q.1 q.2) (fun j q => (rOk (dyT Tm (S + j)) Γ q.1 ∧ q.1 0 1 = nI (S + j) ∧ cntF Γ q.1 ≤ gh q.1 ∧ gh q.1 ≤ 14 ∧ q.1 0 0 = 0) ∧ q.2 = nI j) n 61 (by omega) (by
    rintro ⟨τ, v⟩ ⟨⟨O, e, _, _, z⟩, rfl⟩
    have e : τ 0 1 = nI (S + n) := e
    show u_X11_pass_41 Γ post (nI n) 1 τ (nI n)
    unfold u_X11_pass_41
    rw [e]
    exact ⟨fun _ => h n h1 h60 rfl hTn _ O z, fun c => absurd (le_self _) c⟩) (by
    rintro j k ⟨τ, v⟩ hj ⟨⟨O, e, g1, g2, z⟩, rfl⟩ ih
    show u_X11_pass_41 Γ post (nI n) (k + 1) τ (nI j)
    unfold u_X11_pass_41
    refine ⟨fun c => absurd c (nI_ge hj (by omega)), fun _ => d54 _ (nI j) (S + j) (by omega) (fun τ' O' e' h1 h2 z' => ?_) _ (psI.start O e g1 g2 z)⟩
    rw [nI_1]
    exact ih (τ', nI (j + 1)) ⟨⟨O', e', h1, h2, z'⟩, rfl⟩) (up2 (up2 σ 0 0 0) 62 0 (nI 14), 0) ⟨⟨(O.up (k := 62) (j := 0) (v := nI 14) (by unfold rPr; omega)).dy (by rw [up2_at (Or.inl (by decide))]; exact eT), by show up2 (up2 σ 0 0 0) 62 0 (nI 14) 0 1 = nI (S + 0); rw [up2_at (Or.inl (by decide))]; exact eT, by show cntF Γ _ ≤ gh (up2 (up2 σ 0 0 0) 62 0 (nI 14)); rw [g0]; exact Nat.le_trans (cnt_le _) hW, by show gh (up2 (up2 σ 0 0 0) 62 0 (nI 14)) ≤ 14; rw [g0]; exact Nat.le_refl _, by show up2 (up2 σ 0 0 0) 62 0 (nI 14) 0 0 = 0; rw [up2_off (by omega), up2_same]⟩, nI_0.symm⟩
  exact this
end RSAFE14
