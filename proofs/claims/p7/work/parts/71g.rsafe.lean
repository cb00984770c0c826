/-! THE REFERENCE IS SAFE: fixing a wedding, trying some, the plan of a day -/
section RSAFE7
variable {Tm : MS} {Γ : RG} {σ τ : MS} {a a0 a1 a2 a3 a4 b c : Int32}
/-- the walk over the weddings is at number j -/
def itI (Tm : MS) (Γ : RG) (j : Nat) (τ : MS) : Prop := rOk Tm Γ τ ∧ τ 64 0 = nI j ∧ τ 64 2 = τ 3 0
theorem itI.next {j : Nat} (h : itI Tm Γ j τ) : itI Tm Γ (j + 1) (up2 (up2 τ 64 0 (nI (j + 1))) 64 1 (nI j)) := by
  obtain ⟨O, h1, h2⟩ := h
  refine ⟨(O.up (by unfold rPr; omega)).up (by unfold rPr; omega), ?_, ?_⟩
  · rw [up2_at (Or.inr (by decide)), up2_same]
  · rw [up2_at (Or.inr (by decide)), up2_at (Or.inr (by decide)), up2_at (Or.inl (by decide)), up2_at (Or.inl (by decide))]; exact h2
theorem itI.up {j k i : Nat} {v : Int32} (h : itI Tm Γ j τ) (hp : ¬ rPr k i) (h3 : k ≠ 3) (h64 : k ≠ 64) : itI Tm Γ j (up2 τ k i v) := by
  obtain ⟨O, h1, h2⟩ := h
  refine ⟨O.up hp, ?_, ?_⟩
  · rw [up2_at (Or.inl (Ne.symm h64))]; exact h1
  · rw [up2_at (Or.inl (Ne.symm h64)), up2_at (Or.inl (Ne.symm h3))]; exact h2
theorem itI.start (O : rOk Tm Γ τ) : itI Tm Γ 0 (rw0 τ 64 (itR (τ 3 0))) := by
  refine ⟨O.rw0 (by decide), ?_, ?_⟩
  · rw [rw0_eq]; rfl
  · rw [rw0_eq, rw0_ne (by decide)]; rfl
theorem itI.fin (h : itI Tm Γ Γ.2.2.1 τ) : b01 (!decide (τ 64 0 = τ 3 2)) = 0 := by
  rw [h.2.1, h.1.w, decide_eq_true rfl]; rfl
theorem itI.go {j : Nat} (h : itI Tm Γ j τ) (hj : j < Γ.2.2.1) : ¬ b01 (!decide (τ 64 0 = τ 3 2)) = 0 := by
  have hW := h.1.hW
  have ne : ¬ nI j = nI Γ.2.2.1 := fun e => absurd (show nI Γ.2.2.1 ≤ nI j by rw [e]; exact le_self _) (nI_ge hj (by omega))
  rw [h.2.1, h.1.w, decide_eq_false ne]
  decide
theorem sf_fix {post : Int32 → MS → Prop} (O : rOk Tm Γ σ) (h : ∀ r τ, rOk Tm Γ τ → post r τ) : w_X11_fix Γ post σ a1 := by
  have hW := O.hW
  have d77 : ∀ (w : Nat) (τ : MS), rOk Tm Γ τ → ∃ k, u_X11_fix_77 Γ post a1 k (rw0 τ 64 (itR (τ 3 0))) w := by
    intro w τ O
    refine inv_loop (fun k (q : MS) => u_X11_fix_77 Γ post a1 k q w) (fun j q => itI Tm Γ j q) Γ.2.2.1 (fun τ I => ?_) (fun j k τ hj I ih => ?_) 0 (by omega) _ (itI.start O)
    · show u_X11_fix_77 Γ post a1 1 τ w
      unfold u_X11_fix_77
      exact ⟨fun _ => h _ _ I.1, fun c => absurd I.fin c⟩
    · have nx : ∀ {τ'}, itI Tm Γ (j + 1) τ' → u_X11_fix_77 Γ post a1 k τ' w := fun I' => ih _ I'
      show u_X11_fix_77 Γ post a1 (k + 1) τ w
      unfold u_X11_fix_77
      refine ⟨fun c => absurd c (I.go hj), fun _ => ⟨j, ⟨I.2.1, hj⟩, I.2.2, I.1.w, fun _ => ⟨fun _ => ⟨fun _ => nx (I.next.up (by unfold rPr; omega) (by omega) (by omega)), fun _ => nx I.next⟩, fun _ => nx I.next⟩, fun _ => nx I.next⟩⟩
  have d38 : ∀ w τ t0, w < Γ.2.2.1 → a1 = nI w → rOk Tm Γ τ → u_X11_fix_38 Γ post a1 τ t0 := by
    intro w τ t0 hw e O
    unfold u_X11_fix_38
    exact ⟨fun _ => sf_refuse O h, fun _ => sf_fixNow O hw e (fun τ' O' => sf_wget O' hw e ⟨⟨by omega, hw⟩, d77 _ _ O'⟩)⟩
  unfold w_X11_fix
  have O := O.up (k := 0) (j := 0) (v := 0) (by unfold rPr; omega)
  exact sf_isWedding O ⟨fun _ => sf_refuse O h, fun c => absurd rfl c⟩ (fun w r hw e hr => ⟨fun c => absurd c hr, fun _ => sf_place O hw e (fun r2 => ⟨fun _ => sf_best O hw e (fun r3 => d38 w _ _ hw e O), fun _ => d38 w _ _ hw e O⟩)⟩)
/-- the first n of af are weddings -/
def afW (Γ : RG) (af : Nat → Int32) (n : Nat) : Prop := ∀ i, i < n → ∃ w, w < Γ.2.2.1 ∧ af i = nI w
theorem sf_tried {post : Int32 → MS → Prop} {af : Nat → Int32} {n : Nat} (O : rOk Tm Γ σ) (hn : n ≤ 3) (e : a3 = nI n) (hf : afW Γ af n) (h : ∀ r τ, rOk Tm Γ τ → post r τ) : w_X11_tried Γ post σ af a2 a3 := by
  have hW := O.hW
  have d115 : ∀ x m z τ, rOk Tm Γ τ → ∃ k, u_X11_tried_115 Γ post af a2 a3 k τ x m z 0 := by
    intro x m z τ O
    have := inv_loop (fun k (q : MS × Int32) => u_X11_tried_115 Γ post af a2 a3 k q.1 x m z q.2) (fun j q => rOk Tm Γ q.1 ∧ q.2 = nI j) n (by
      rintro ⟨τ, v⟩ ⟨O, rfl⟩
      show u_X11_tried_115 Γ post af a2 a3 1 τ x m z (nI n)
      unfold u_X11_tried_115
      rw [e]
      exact ⟨fun _ => h _ _ (rOk.up O (by unfold rPr; omega)), fun c => absurd (le_self _) c⟩) (by
      rintro j k ⟨τ, v⟩ hj ⟨O, rfl⟩ ih
      have O : rOk Tm Γ τ := O
      have nx : ∀ τ', rOk Tm Γ τ' → u_X11_tried_115 Γ post af a2 a3 k τ' x m z (nI j + 1) := fun τ' O' => by rw [nI_1]; exact ih (τ', nI (j + 1)) ⟨O', rfl⟩
      obtain ⟨w, hw, ew⟩ := hf j hj
      have hcl : (nI j).toNatClampNeg = j := nI_clamp (by omega)
      show u_X11_tried_115 Γ post af a2 a3 (k + 1) τ x m z (nI j)
      unfold u_X11_tried_115
      refine ⟨fun c => absurd (e ▸ c) (nI_ge hj (by omega)), fun _ => sf_isIn (fun r => ⟨fun _ => nx _ O, fun _ => ⟨vp_in_nI (by omega) (by decide), sf_wget O hw (by rw [hcl]; exact ew) ⟨⟨by omega, hw⟩, nx _ ?_⟩⟩⟩)⟩
      exact (((O.up (by unfold rPr; omega)).up (by unfold rPr; omega)).up (by unfold rPr; omega)).up (by unfold rPr; omega)) 0 (by omega) (τ, 0) ⟨O, nI_0.symm⟩
    exact this
  unfold w_X11_tried
  have := inv_loop (fun k (q : MS × Int32 × Int32 × Int32) => u_X11_tried_15 Γ post af a2 a3 k q.1 q.2.1 q.2.2.1 (σ 0 2) q.2.2.2) (fun j q => rOk Tm Γ q.1 ∧ q.2.2.2 = nI j) n (by
    rintro ⟨τ, x, m, v⟩ ⟨O, rfl⟩
    have O : rOk Tm Γ τ := O
    show u_X11_tried_15 Γ post af a2 a3 1 τ x m (σ 0 2) (nI n)
    unfold u_X11_tried_15
    rw [e]
    exact ⟨fun _ => e ▸ d115 _ _ _ _ O, fun c => absurd (le_self _) c⟩) (by
    rintro j k ⟨τ, x, m, v⟩ hj ⟨O, rfl⟩ ih
    have O : rOk Tm Γ τ := O
    have nx : ∀ τ' x m, rOk Tm Γ τ' → u_X11_tried_15 Γ post af a2 a3 k τ' x m (σ 0 2) (nI j + 1) := fun τ' x m O' => by rw [nI_1]; exact ih (τ', x, m, nI (j + 1)) ⟨O', rfl⟩
    obtain ⟨w, hw, ew⟩ := hf j hj
    have hcl : (nI j).toNatClampNeg = j := nI_clamp (by omega)
    have ew' : af (Int32.toNatClampNeg (nI j)) = nI w := by rw [hcl]; exact ew
    have hv : vp_in (nI j) 3 := vp_in_nI (by omega) (by decide)
    have d56 : ∀ x r, u_X11_tried_56 Γ post af a2 a3 (fun σ w0 w1 w2 w3 => u_X11_tried_15 Γ post af a2 a3 k σ w0 w1 w2 w3) τ x m (σ 0 2) (nI j) r := by
      intro x r
      unfold u_X11_tried_56
      exact ⟨fun _ => nx _ _ _ O, fun _ => ⟨hv, sf_fixNow O hw ew' (fun τ' O' => ⟨hv, sf_wget O' hw ew' ⟨⟨by omega, hw⟩, nx _ _ _ O'⟩⟩)⟩⟩
    show u_X11_tried_15 Γ post af a2 a3 (k + 1) τ x m (σ 0 2) (nI j)
    unfold u_X11_tried_15
    exact ⟨fun c => absurd (e ▸ c) (nI_ge hj (by omega)), fun _ => sf_isIn (fun r => ⟨fun _ => nx _ _ _ O, fun _ => ⟨hv, sf_best O hw ew' (fun r2 => ⟨fun _ => d56 _ _, fun _ => d56 _ _⟩)⟩⟩)⟩) 0 (by omega) (σ, 0, 0, 0) ⟨O, nI_0.symm⟩
  exact this
theorem sf_plan {post : Int32 → MS → Prop} (O : rOk Tm Γ σ) (h : ∀ r τ, rOk Tm Γ τ → post r τ) : w_X11_plan Γ post σ a1 a2 := by
  have hW := O.hW
  have d155 : ∀ n, n ≤ 3 → ∀ m x τ, rOk Tm Γ τ → ∃ k, u_X11_plan_155 Γ post a1 a2 k τ (nI n) m x 0 0 := by
    intro n hn m x τ O
    have := inv_loop (fun k (q : MS × Int32 × Int32) => u_X11_plan_155 Γ post a1 a2 k q.1 (nI n) m x q.2.1 q.2.2) (fun j q => rOk Tm Γ q.1 ∧ q.2.2 = nI j) n (by
      rintro ⟨τ, y, v⟩ ⟨O, rfl⟩
      show u_X11_plan_155 Γ post a1 a2 1 τ (nI n) m x y (nI n)
      unfold u_X11_plan_155
      exact ⟨fun _ => ⟨fun _ => h _ _ O, fun _ => h _ _ O⟩, fun c => absurd (le_self _) c⟩) (by
      rintro j k ⟨τ, y, v⟩ hj ⟨O, rfl⟩ ih
      have O : rOk Tm Γ τ := O
      have nx : ∀ τ' y, rOk Tm Γ τ' → u_X11_plan_155 Γ post a1 a2 k τ' (nI n) m x y (nI j + 1) := fun τ' y O' => by rw [nI_1]; exact ih (τ', y, nI (j + 1)) ⟨O', rfl⟩
      show u_X11_plan_155 Γ post a1 a2 (k + 1) τ (nI n) m x y (nI j)
      unfold u_X11_plan_155
      exact ⟨fun c => absurd c (nI_ge hj (by omega)), fun _ => sf_isIn (fun r => ⟨fun _ => nx _ _ O.mrg, fun _ => ⟨vp_in_nI (by omega) (by decide), nx _ _ O.mrg⟩⟩)⟩) 0 (by omega) (τ, 0, 0) ⟨O, nI_0.symm⟩
    exact this
  have d105 : ∀ n, n ≤ 3 → ∀ τ, rOk Tm Γ τ → afW Γ (τ 64) n → ∃ k, u_X11_plan_105 Γ post a1 a2 k τ (nI n) 0 0 1 := by
    intro n hn τ O hf
    have hp : 1 ≤ 2 ^ n ∧ 2 ^ n ≤ 1024 := pw1024 (by omega)
    have := inv_loop (fun k (q : MS × Int32 × Int32 × Int32) => u_X11_plan_105 Γ post a1 a2 k q.1 (nI n) q.2.1 q.2.2.1 q.2.2.2) (fun j q => (rOk Tm Γ q.1 ∧ afW Γ (q.1 64) n) ∧ q.2.2.2 = nI j) (2 ^ n) (by
      rintro ⟨τ, m, x, v⟩ ⟨⟨O, hf⟩, rfl⟩
      show u_X11_plan_105 Γ post a1 a2 1 τ (nI n) m x (nI (2 ^ n))
      unfold u_X11_plan_105
      rw [shl1 n (by omega)]
      exact ⟨fun _ => d155 n hn _ _ _ O, fun c => absurd (le_self _) c⟩) (by
      rintro j k ⟨τ, m, x, v⟩ hj ⟨⟨O, hf⟩, rfl⟩ ih
      have O : rOk Tm Γ τ := O
      have hf : afW Γ (τ 64) n := hf
      have nx : ∀ τ' m x, rOk Tm Γ τ' → u_X11_plan_105 Γ post a1 a2 k (mrg τ' τ) (nI n) m x (nI j + 1) := fun τ' m x O' => by
        rw [nI_1]
        exact ih (mrg τ' τ, m, x, nI (j + 1)) ⟨⟨O'.mrg, by show afW Γ (mrg τ' τ 64) n; rw [mrg_hi (by decide)]; exact hf⟩, rfl⟩
      show u_X11_plan_105 Γ post a1 a2 (k + 1) τ (nI n) m x (nI j)
      unfold u_X11_plan_105
      rw [shl1 n (by omega)]
      exact ⟨fun c => absurd c (nI_ge hj (by omega)), fun _ => sf_tried O hn rfl hf (fun r τ' O' => ⟨fun _ => nx _ _ _ O', fun _ => nx _ _ _ O'⟩)⟩) 1 hp.1 (τ, 0, 0, 1) ⟨⟨O, hf⟩, rfl⟩
    exact this
  unfold w_X11_plan
  have O := O.up (k := 0) (j := 0) (v := 0) (by unfold rPr; omega)
  refine sf_is (fun r => ⟨fun _ => sf_refuse O h, fun _ => ?_⟩)
  have := inv_loop (fun k (q : MS × Int32 × Int32) => u_X11_plan_32 Γ post a1 a2 k q.1 q.2.1 q.2.2) (fun j q => (rOk Tm Γ q.1 ∧ ∃ n, n ≤ 3 ∧ q.2.1 = nI n ∧ afW Γ (q.1 64) n) ∧ q.2.2 = nI j) Γ.2.2.1 (by
    rintro ⟨τ, u, v⟩ ⟨⟨O, n, hn, rfl, hf⟩, rfl⟩
    have O : rOk Tm Γ τ := O
    have hf : afW Γ (τ 64) n := hf
    show u_X11_plan_32 Γ post a1 a2 1 τ (nI n) (nI Γ.2.2.1)
    unfold u_X11_plan_32 w_lw_Jx4a65c_size_8abf5
    rw [O.w]
    exact ⟨fun _ => d105 n hn _ O.mrg (by rw [mrg_hi (by decide)]; exact hf), fun c => absurd (le_self _) c⟩) (by
    rintro j k ⟨τ, u, v⟩ hj ⟨⟨O, n, hn, rfl, hf⟩, rfl⟩ ih
    have O : rOk Tm Γ τ := O
    have hf : afW Γ (τ 64) n := hf
    have nx : ∀ τ' n, n ≤ 3 → rOk Tm Γ τ' → afW Γ (τ' 64) n → u_X11_plan_32 Γ post a1 a2 k τ' (nI n) (nI j + 1) := fun τ' n hn O' hf' => by rw [nI_1]; exact ih (τ', nI n, nI (j + 1)) ⟨⟨O', n, hn, rfl, hf'⟩, rfl⟩
    show u_X11_plan_32 Γ post a1 a2 (k + 1) τ (nI n) (nI j)
    unfold u_X11_plan_32 w_lw_Jx4a65c_size_8abf5
    rw [O.w]
    have m1 : mrg τ τ 64 = τ 64 := mrg_hi (by decide)
    have m2 : mrg (mrg τ τ) (mrg τ τ) 64 = τ 64 := by rw [mrg_hi (by decide), m1]
    have m3 : mrg (mrg (mrg τ τ) (mrg τ τ)) (mrg (mrg τ τ) (mrg τ τ)) 64 = τ 64 := by rw [mrg_hi (by decide), m2]
    refine ⟨fun c => absurd c (nI_ge hj (by omega)), fun _ => ⟨fun _ => d105 n hn _ O.mrg (by rw [m1]; exact hf), fun c => ?_⟩⟩
    have hn3 : n < 3 := by
      rcases Nat.lt_or_ge n 3 with d | d
      · exact d
      · exact absurd (show (3 : Int32) ≤ nI n from nI_le' (m := 3) d (by omega)) c
    have hcl : (nI n).toNatClampNeg = n := nI_clamp (by omega)
    refine sf_wget O.mrg hj rfl ⟨⟨by omega, hj⟩, fun _ => sf_place O.mrg.mrg hj rfl (fun r2 => ⟨fun _ => ⟨vp_in_nI hn3 (by decide), ?_⟩, fun _ => nx _ n hn O.mrg.mrg.mrg (by rw [m3]; exact hf)⟩), fun _ => nx _ n hn O.mrg.mrg (by rw [m2]; exact hf)⟩
    rw [nI_1 n, hcl]
    refine nx _ (n + 1) (by omega) (O.mrg.mrg.mrg.up (by unfold rPr; omega)) (fun i hi => ?_)
    rcases Nat.eq_or_lt_of_le (Nat.le_of_lt_succ hi) with z | z
    · rw [z, up2_same]; exact ⟨j, hj, rfl⟩
    · rw [up2_at (Or.inr (by omega)), m3]; exact hf i z) 0 (by omega) (_, 0, 0) ⟨⟨O.rw0 (k := 64) (f := fun _ => 0) (by decide), 0, by decide, nI_0.symm, fun i hi => absurd hi (by omega)⟩, nI_0.symm⟩
  exact this
end RSAFE7
