/-! THE REFERENCE IS SAFE: roads, feuds, who is free, what is known, costs -/
section RSAFE2
variable {Γ : RG} {σ τ : MS} {a a0 a1 a2 a3 a4 : Int32}
theorem ix36 {i j : Nat} (hi : i < 6) (hj : j < 6) : vp_in (nI i * 6 + nI j) 36 := by
  rw [show (nI i * 6 + nI j : Int32) = nI (i * 6 + j) from by rw [show (6 : Int32) = nI 6 from rfl, ← nI_add]; congr 1; exact (Int32.ofNat_mul i 6).symm]
  exact vp_in_nI (by omega) (by decide)
theorem sf_driveOf {post : Int32 → MS → Prop} (h1 : ∃ t, t < 6 ∧ a1 = nI t) (h2 : ∃ t, t < 6 ∧ a2 = nI t) (h : ∀ r, post r σ) : w_X11_driveOf Γ post σ a1 a2 := by
  obtain ⟨i, hi, rfl⟩ := h1
  obtain ⟨j, hj, rfl⟩ := h2
  exact ⟨ix36 hi hj, h _⟩
theorem sf_drive {post : MS → Prop} (O : rOk Γ σ) (h : ∀ τ, rOk Γ τ → post τ) : w_X11_drive Γ post σ := by
  have up12 : ∀ {τ : MS} {j : Nat} {v : Int32}, rOk Γ τ → rOk Γ (up2 τ 12 j v) := fun O => O.up (by unfold rPr; omega)
  -- the relaxing
  have h95 : ∀ (K79 : MS → Int32 → Prop) (K87 : MS → Int32 → Int32 → Prop) (o i : Nat), o < 6 → i < 6 → (∀ τ, rOk Γ τ → K87 τ (nI o) (nI i + 1)) → ∀ τ, rOk Γ τ → ∃ k, u_X11_drive_95 Γ post K79 K87 k τ (nI o) (nI i) 0 := by
    intro K79 K87 o i ho hi hK τ O
    refine inv_loop (fun k (q : MS × Int32) => u_X11_drive_95 Γ post K79 K87 k q.1 (nI o) (nI i) q.2) (fun j q => rOk Γ q.1 ∧ q.2 = nI j) 6 ?_ ?_ 0 (by omega) (τ, 0) ⟨O, nI_0.symm⟩
    · rintro ⟨τ, v⟩ ⟨O, rfl⟩
      show u_X11_drive_95 Γ post K79 K87 1 τ (nI o) (nI i) (nI 6)
      rw [u_X11_drive_95]
      exact ⟨fun _ => hK τ O, fun c => absurd (le_self (nI 6)) c⟩
    · rintro j k ⟨τ, v⟩ hj ⟨O, rfl⟩ ih
      have nx : ∀ τ', rOk Γ τ' → u_X11_drive_95 Γ post K79 K87 k τ' (nI o) (nI i) (nI j + 1) := fun τ' O' => by rw [nI_1]; exact ih (τ', nI (j + 1)) ⟨O', rfl⟩
      show u_X11_drive_95 Γ post K79 K87 (k + 1) τ (nI o) (nI i) (nI j)
      rw [u_X11_drive_95]
      refine ⟨fun c => absurd (show nI 6 ≤ nI j from c) (nI_ge hj (by decide)), fun _ => ⟨ix36 hi ho, ix36 ho hj, ix36 hi hj, fun _ => nx τ O, fun _ => ⟨fun _ => nx τ O, fun _ => ⟨fun _ => ⟨ix36 hi hj, nx _ (up12 O)⟩, fun _ => ⟨fun _ => nx τ O, fun _ => ⟨ix36 hi hj, nx _ (up12 O)⟩⟩⟩⟩⟩⟩
  have h87 : ∀ (K79 : MS → Int32 → Prop) (o : Nat), o < 6 → (∀ τ, rOk Γ τ → K79 τ (nI o + 1)) → ∀ τ, rOk Γ τ → ∃ k, u_X11_drive_87 Γ post K79 k τ (nI o) 0 := by
    intro K79 o ho hK τ O
    refine inv_loop (fun k (q : MS × Int32) => u_X11_drive_87 Γ post K79 k q.1 (nI o) q.2) (fun j q => rOk Γ q.1 ∧ q.2 = nI j) 6 ?_ ?_ 0 (by omega) (τ, 0) ⟨O, nI_0.symm⟩
    · rintro ⟨τ, v⟩ ⟨O, rfl⟩
      show u_X11_drive_87 Γ post K79 1 τ (nI o) (nI 6)
      rw [u_X11_drive_87]
      exact ⟨fun _ => hK τ O, fun c => absurd (le_self (nI 6)) c⟩
    · rintro j k ⟨τ, v⟩ hj ⟨O, rfl⟩ ih
      show u_X11_drive_87 Γ post K79 (k + 1) τ (nI o) (nI j)
      rw [u_X11_drive_87]
      refine ⟨fun c => absurd (show nI 6 ≤ nI j from c) (nI_ge hj (by decide)), fun _ => h95 _ _ o j ho hj (fun τ' O' => ?_) τ O⟩
      rw [nI_1]
      exact ih (τ', nI (j + 1)) ⟨O', rfl⟩
  have h79 : ∀ τ, rOk Γ τ → ∃ k, u_X11_drive_79 Γ post k τ 0 := by
    intro τ O
    refine inv_loop (fun k (q : MS × Int32) => u_X11_drive_79 Γ post k q.1 q.2) (fun j q => rOk Γ q.1 ∧ q.2 = nI j) 6 ?_ ?_ 0 (by omega) (τ, 0) ⟨O, nI_0.symm⟩
    · rintro ⟨τ, v⟩ ⟨O, rfl⟩
      show u_X11_drive_79 Γ post 1 τ (nI 6)
      rw [u_X11_drive_79]
      exact ⟨fun _ => h τ O, fun c => absurd (le_self (nI 6)) c⟩
    · rintro j k ⟨τ, v⟩ hj ⟨O, rfl⟩ ih
      show u_X11_drive_79 Γ post (k + 1) τ (nI j)
      rw [u_X11_drive_79]
      refine ⟨fun c => absurd (show nI 6 ≤ nI j from c) (nI_ge hj (by decide)), fun _ => h87 _ j hj (fun τ' O' => ?_) τ O⟩
      rw [nI_1]
      exact ih (τ', nI (j + 1)) ⟨O', rfl⟩
  have h10 : ∀ (K2 : MS → Int32 → Prop) (o : Nat), o < 6 → (∀ τ, rOk Γ τ → K2 τ (nI o + 1)) → ∀ τ, rOk Γ τ → ∃ k, u_X11_drive_10 Γ post K2 k τ (nI o) 0 := by
    intro K2 o ho hK τ O
    refine inv_loop (fun k (q : MS × Int32) => u_X11_drive_10 Γ post K2 k q.1 (nI o) q.2) (fun j q => rOk Γ q.1 ∧ q.2 = nI j) 6 ?_ ?_ 0 (by omega) (τ, 0) ⟨O, nI_0.symm⟩
    · rintro ⟨τ, v⟩ ⟨O, rfl⟩
      show u_X11_drive_10 Γ post K2 1 τ (nI o) (nI 6)
      rw [u_X11_drive_10]
      exact ⟨fun _ => hK τ O, fun c => absurd (le_self (nI 6)) c⟩
    · rintro j k ⟨τ, v⟩ hj ⟨O, rfl⟩ ih
      have nx : ∀ τ', rOk Γ τ' → u_X11_drive_10 Γ post K2 k τ' (nI o) (nI j + 1) := fun τ' O' => by rw [nI_1]; exact ih (τ', nI (j + 1)) ⟨O', rfl⟩
      have hx := ix36 ho hj
      show u_X11_drive_10 Γ post K2 (k + 1) τ (nI o) (nI j)
      rw [u_X11_drive_10]
      exact ⟨fun c => absurd (show nI 6 ≤ nI j from c) (nI_ge hj (by decide)), fun _ => ⟨fun _ => ⟨hx, nx _ (up12 O)⟩, fun _ => ⟨hx, fun _ => ⟨hx, nx _ (up12 O)⟩, fun _ => ⟨hx, hx, nx _ (up12 O)⟩⟩⟩⟩
  unfold w_X11_drive
  refine inv_loop (fun k (q : MS × Int32) => u_X11_drive_2 Γ post k q.1 q.2) (fun j q => rOk Γ q.1 ∧ q.2 = nI j) 6 ?_ ?_ 0 (by omega) (σ, 0) ⟨O, nI_0.symm⟩
  · rintro ⟨τ, v⟩ ⟨O, rfl⟩
    show u_X11_drive_2 Γ post 1 τ (nI 6)
    rw [u_X11_drive_2]
    exact ⟨fun _ => h79 τ O, fun c => absurd (le_self (nI 6)) c⟩
  · rintro j k ⟨τ, v⟩ hj ⟨O, rfl⟩ ih
    show u_X11_drive_2 Γ post (k + 1) τ (nI j)
    rw [u_X11_drive_2]
    refine ⟨fun c => absurd (show nI 6 ≤ nI j from c) (nI_ge hj (by decide)), fun _ => h10 _ j hj (fun τ' O' => ?_) τ O⟩
    rw [nI_1]
    exact ih (τ', nI (j + 1)) ⟨O', rfl⟩
theorem sf_road {post : Int32 → MS → Prop} (O : rOk Γ σ) (h : ∀ r τ, rOk Γ τ → post r τ) : w_X11_road Γ post σ a1 a2 a3 := by
  unfold w_X11_road u_X11_road_19 u_X11_road_40
  have O := O.up (k := 0) (j := 0) (v := 0) (by unfold rPr; omega)
  refine sf_isTown ⟨fun _ => sf_refuse O h, fun c => absurd rfl c⟩ (fun t r ht e hr => ⟨fun c => absurd c hr, fun _ => sf_isTown ⟨fun _ => sf_refuse O h, fun c => absurd rfl c⟩ (fun t2 r2 ht2 e2 hr2 => ⟨fun c => absurd c hr2, fun _ => ⟨fun _ => sf_refuse O h, fun _ => sf_is (fun r3 => ⟨fun _ => sf_refuse O h, fun _ => ?_⟩)⟩⟩)⟩)
  subst e
  subst e2
  exact ⟨ix36 ht ht2, ix36 ht2 ht, sf_drive ((O.up (by unfold rPr; omega)).up (by unfold rPr; omega)) (fun τ O' => sf_driveOf ⟨t, ht, rfl⟩ ⟨t2, ht2, rfl⟩ (fun r => h r τ O'))⟩
theorem sf_isIn01 {post : Int32 → MS → Prop} (h0 : post 0 σ) (h1 : post 1 σ) : w_X11_isIn Γ post σ a0 a1 := ⟨fun _ => h1, fun _ => h0⟩
theorem sf_feud {post : Int32 → MS → Prop} (O : rOk Γ σ) (h : ∀ r τ, rOk Γ τ → post r τ) : w_X11_feud Γ post σ a1 a2 a3 := by
  have hP := O.hP
  have no : ∀ {t0 : Int32}, ¬ t0 ≤ 0 → u_X11_feud_31 Γ post a1 a2 a3 σ t0 := fun {t0} ht => by
    unfold u_X11_feud_31
    rw [up2_same]
    exact ⟨fun c => absurd c ht, fun _ => h _ _ (O.up (by unfold rPr; omega))⟩
  have bad : u_X11_feud_17 Γ post a1 a2 a3 σ := no (by decide)
  unfold w_X11_feud
  refine sf_isPlayer O ⟨fun _ => bad, fun c => absurd rfl c⟩ (fun p r hp e hr => ⟨fun c => absurd c hr, fun _ => sf_isPlayer O ⟨fun _ => bad, fun c => absurd rfl c⟩ (fun p2 r2 hp2 e2 hr2 => ⟨fun c => absurd c hr2, fun _ => ⟨fun _ => no (by decide), fun _ => ?_⟩⟩)⟩)
  unfold u_X11_feud_31
  have O := O.up (k := 0) (j := 0) (v := 0) (by unfold rPr; omega)
  refine ⟨fun _ => sf_pget O hp e ⟨⟨by omega, hp⟩, sf_pget O hp2 e2 ⟨⟨by omega, hp2⟩, ?_⟩⟩, fun _ => h _ _ O⟩
  have fin : ∀ v6 t0, narrow .boolean (.int v6) = .int v6 → u_X11_feud_109 Γ post a1 a2 a3 (up2 σ 0 0 0) p2 v6 t0 p := fun v6 t0 hv => by
    unfold u_X11_feud_109
    exact ⟨fun _ => ⟨hv, h _ _ ((O.up (by unfold rPr; omega)).up (by unfold rPr; omega))⟩, fun _ => ⟨hv, h _ _ ((O.up (by unfold rPr; omega)).up (by unfold rPr; omega))⟩⟩
  exact sf_isIn01 ⟨fun _ => fin 0 _ rfl, fun _ => fin 0 _ rfl⟩ ⟨fun _ => fin 1 _ rfl, fun _ => fin 1 _ rfl⟩
/-- loops over players, weddings, where nothing changes: what the turn does with its own numbers -/
theorem pl_loop {S : Type} (O : rOk Γ σ) (U : Nat → S → Int32 → Prop) (hz : ∀ s, U 1 s (nI Γ.1)) (hs : ∀ i k s, i < Γ.1 → (∀ s', U k s' (nI i + 1)) → U (k + 1) s (nI i)) (s : S) : ∃ k, U k s 0 := by
  have := inv_loop (fun k (q : S × Int32) => U k q.1 q.2) (fun j q => q.2 = nI j) Γ.1 (by rintro ⟨s, v⟩ rfl; exact hz s) (by rintro j k ⟨s, v⟩ hj rfl ih; exact hs j k s hj (fun s' => by rw [nI_1]; exact ih (s', nI (j + 1)) rfl)) 0 (by omega) (s, 0) nI_0.symm
  exact this
theorem wd_loop {S : Type} (O : rOk Γ σ) (U : Nat → S → Int32 → Prop) (hz : ∀ s, U 1 s (nI Γ.2.2.1)) (hs : ∀ i k s, i < Γ.2.2.1 → (∀ s', U k s' (nI i + 1)) → U (k + 1) s (nI i)) (s : S) : ∃ k, U k s 0 := by
  have := inv_loop (fun k (q : S × Int32) => U k q.1 q.2) (fun j q => q.2 = nI j) Γ.2.2.1 (by rintro ⟨s, v⟩ rfl; exact hz s) (by rintro j k ⟨s, v⟩ hj rfl ih; exact hs j k s hj (fun s' => by rw [nI_1]; exact ih (s', nI (j + 1)) rfl)) 0 (by omega) (s, 0) nI_0.symm
  exact this
theorem sf_isPeaceful {post : Int32 → MS → Prop} (O : rOk Γ σ) (h : ∀ r, post r σ) : w_X11_isPeaceful Γ post σ a1 := by
  have hP := O.hP
  unfold w_X11_isPeaceful
  refine pl_loop (S := Unit) O (fun k _ v => u_X11_isPeaceful_2 Γ post a1 k σ v) (fun _ => ?_) (fun i k _ hi ih => ?_) ()
  · unfold u_X11_isPeaceful_2 w_lp_Jx4a65c_size_8abf5
    rw [O.p]
    exact ⟨fun _ => h 1, fun c => absurd (le_self _) c⟩
  · unfold u_X11_isPeaceful_2 w_lp_Jx4a65c_size_8abf5
    rw [O.p]
    exact ⟨fun c => absurd c (nI_ge hi (by omega)), fun _ => sf_isIn (fun r => ⟨fun _ => ih (), fun _ => sf_pget O hi rfl ⟨⟨by omega, hi⟩, fun _ => ih (), fun _ => h 0⟩⟩)⟩
theorem sf_isKnown {post : Int32 → MS → Prop} (O : rOk Γ σ) (h : ∀ r, post r σ) : w_X11_isKnown Γ post σ a1 a2 := by
  have hP := O.hP
  unfold w_X11_isKnown
  refine pl_loop (S := Int32) O (fun k s v => u_X11_isKnown_5 Γ post a1 a2 k σ s v) (fun s => ?_) (fun i k s hi ih => ?_) 0
  · unfold u_X11_isKnown_5 w_lp_Jx4a65c_size_8abf5
    rw [O.p]
    exact ⟨fun _ => ⟨fun _ => h 1, fun _ => ⟨fun _ => sf_bc (fun r => ⟨fun _ => h 1, fun _ => h 0⟩), fun _ => h 0⟩⟩, fun c => absurd (le_self _) c⟩
  · unfold u_X11_isKnown_5 w_lp_Jx4a65c_size_8abf5
    rw [O.p]
    exact ⟨fun c => absurd c (nI_ge hi (by omega)), fun _ => sf_isIn (fun r => ⟨fun _ => ih _, fun _ => sf_pget O hi rfl ⟨⟨by omega, hi⟩, sf_isIn (fun r2 => ⟨fun _ => ih _, fun _ => ih _⟩)⟩⟩)⟩
theorem sf_areKnown {post : Int32 → MS → Prop} (O : rOk Γ σ) (h : ∀ r, post r σ) : w_X11_areKnown Γ post σ a1 a2 := by
  unfold w_X11_areKnown
  refine up_loop (fun k (v : Int32) => u_X11_areKnown_2 Γ post a1 a2 k σ v) (fun i => nI i) 16 ?_ (fun i k hi ih => ?_)
  · show u_X11_areKnown_2 Γ post a1 a2 1 σ (nI 16)
    unfold u_X11_areKnown_2
    exact ⟨fun _ => h 1, fun c => absurd (le_self (nI 16)) c⟩
  · have ih : u_X11_areKnown_2 Γ post a1 a2 k σ (nI (i + 1)) := ih
    rw [← nI_1 i] at ih
    show u_X11_areKnown_2 Γ post a1 a2 (k + 1) σ (nI i)
    unfold u_X11_areKnown_2
    exact ⟨fun c => absurd (show nI 16 ≤ nI i from c) (nI_ge hi (by decide)), fun _ => sf_isIn (fun r => ⟨fun _ => ih, fun _ => sf_isKnown O (fun r2 => ⟨fun _ => h 0, fun _ => ih⟩)⟩)⟩
theorem sf_cost {post : Int32 → MS → Prop} {p w : Nat} (O : rOk Γ σ) (hp : p < Γ.1) (e : a1 = nI p) (hw : w < Γ.2.2.1) (h : ∀ r, post r σ) : w_X11_cost Γ post σ a1 w := by
  have hP := O.hP
  unfold w_X11_cost
  exact sf_pget O hp e ⟨⟨by omega, hp⟩, sf_driveOf (O.home hp) (O.town hw) (fun r => ⟨fun _ => h _, fun _ => h _⟩)⟩
theorem sf_costOf {post : Int32 → MS → Prop} {w : Nat} (O : rOk Γ σ) (hw : w < Γ.2.2.1) (h : ∀ r, post r σ) : w_X11_costOf Γ post σ a1 w := by
  have hP := O.hP
  unfold w_X11_costOf
  refine pl_loop (S := Int32) O (fun k s v => u_X11_costOf_5 Γ post a1 w k σ s v) (fun s => ?_) (fun i k s hi ih => ?_) 0
  · unfold u_X11_costOf_5 w_lp_Jx4a65c_size_8abf5
    rw [O.p]
    exact ⟨fun _ => h _, fun c => absurd (le_self _) c⟩
  · unfold u_X11_costOf_5 w_lp_Jx4a65c_size_8abf5
    rw [O.p]
    exact ⟨fun c => absurd c (nI_ge hi (by omega)), fun _ => sf_isIn (fun r => ⟨fun _ => ih _, fun _ => sf_cost O hi rfl hw (fun r2 => ih _)⟩)⟩
theorem sf_quarters {post : Int32 → MS → Prop} {w : Nat} (h : ∀ r, post r σ) : w_X10_quarters Γ post σ w := fun _ _ => h _
theorem sf_owed {post : Int32 → MS → Prop} {w : Nat} (h : ∀ r, post r σ) : w_X11_owed Γ post σ w := ⟨fun _ => ⟨fun _ => ⟨fun _ => h _, fun _ => h _⟩, fun _ => h _⟩, fun _ => h _⟩
theorem sf_cancel {post : Int32 → MS → Prop} (O : rOk Γ σ) (h : ∀ r τ, rOk Γ τ → post r τ) : w_X11_cancel Γ post σ a1 := by
  have hW := O.hW
  unfold w_X11_cancel
  have O := O.up (k := 0) (j := 0) (v := 0) (by unfold rPr; omega)
  refine sf_isWedding O ⟨fun _ => sf_refuse O h, fun c => absurd rfl c⟩ (fun w r hw e hr => ⟨fun c => absurd c hr, fun _ => sf_wget O hw e ⟨⟨by omega, hw⟩, ?_⟩⟩)
  have fin : ∀ t0, u_X11_cancel_62 Γ post a1 (up2 σ 0 0 0) w t0 := fun t0 y hy => h _ _ (((O.up (by unfold rPr; omega)).up (by unfold rPr; omega)).up (by unfold rPr; omega))
  exact ⟨fun _ => ⟨fun _ => sf_owed (fun r => fin r), fun _ => fin 0⟩, fun _ => sf_refuse O h⟩
theorem sf_late {post : Int32 → MS → Prop} (O : rOk Γ σ) (h : ∀ r τ, rOk Γ τ → post r τ) : w_X11_late Γ post σ a1 a2 := by
  have hW := O.hW
  unfold w_X11_late
  have O := O.up (k := 0) (j := 0) (v := 0) (by unfold rPr; omega)
  refine sf_isWedding O ⟨fun _ => sf_refuse O h, fun c => absurd rfl c⟩ (fun w r hw e hr => ⟨fun c => absurd c hr, fun _ => sf_is (fun r2 => ⟨fun _ => sf_refuse O h, fun _ => sf_wget O hw e ⟨⟨by omega, hw⟩, fun _ => sf_quarters (fun r3 => h _ _ (O.up (by unfold rPr; omega))), fun _ => sf_refuse O h⟩⟩)⟩)
end RSAFE2
