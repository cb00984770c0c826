/-! THE REFERENCE IS SAFE: minutes of a set, the set asked for, a wedding played -/
section RSAFE12
variable {Tm : MS} {Γ : RG} {σ τ ρ : MS} {a a0 a1 a2 a3 a4 b c : Int32}
theorem sf_minutesOf {post : Int32 → MS → Prop} (O : rOk Tm Γ σ) (h : ∀ r τ, rOk Tm Γ τ → post r τ) : w_X11_minutesOf Γ post σ a1 := by
  unfold w_X11_minutesOf
  refine sf_bestSet O (fun len f τ O' hl hf => ?_)
  have O2 : rOk Tm Γ (rw0 (mrg τ σ) 64 f) := O'.mrg.rw0 (by decide)
  have := inv_loop (fun k (q : Int32 × Int32) => u_X11_minutesOf_15 Γ post a1 k (rw0 (mrg τ σ) 64 f) q.1 (nI len) q.2 len) (fun j q => q.2 = nI j) len (by
    rintro ⟨x, v⟩ rfl
    show u_X11_minutesOf_15 Γ post a1 1 (rw0 (mrg τ σ) 64 f) x (nI len) (nI len) len
    unfold u_X11_minutesOf_15
    exact ⟨fun _ => h _ _ O2, fun c => absurd (le_self _) c⟩) (by
    rintro j k ⟨x, v⟩ hj rfl ih
    have cj : (nI j).toNatClampNeg = j := nI_clamp (by omega)
    obtain ⟨s, hs, es⟩ := hf j hj
    show u_X11_minutesOf_15 Γ post a1 (k + 1) (rw0 (mrg τ σ) 64 f) x (nI len) (nI j) len
    unfold u_X11_minutesOf_15
    rw [cj, rw0_eq, es]
    refine ⟨fun c => absurd c (nI_ge hj (by omega)), fun _ => ⟨vp_in_nI hj (by omega), vp_in_nI hs (by decide), ?_⟩⟩
    rw [nI_1 j]
    exact ih (_, nI (j + 1)) rfl) 0 (by omega) (0, 0) nI_0.symm
  exact this
theorem sf_set {post : Int32 → MS → Prop} (O : rOk Tm Γ σ) (h : ∀ r τ, rOk Tm Γ τ → post r τ) : w_X11_set Γ post σ a1 a2 := by
  unfold w_X11_set u_X11_set_22 w_lp_Jx4a65c_size_8abf5
  have O := O.up (k := 0) (j := 0) (v := 0) (by unfold rPr; omega)
  exact ⟨fun _ => sf_refuse O h, fun _ => ⟨fun _ => ⟨fun _ => sf_bestSet O (fun len f τ O' _ _ => h _ _ (O'.mrg.rw0 (by decide))), fun _ => sf_minutesOf O h⟩, fun _ => sf_refuse O h⟩⟩
theorem sf_playNow {post : MS → Prop} {w : Nat} (O : rOk Tm Γ σ) (hw : w < Γ.2.2.1) (h : ∀ τ, rOk Tm Γ τ → post τ) : w_X11_playNow Γ post σ w := by
  have hP := O.hP
  have hW := O.hW
  have d108 : ∀ (len : Nat) (f : Nat → Int32) (τ : MS), len ≤ 16 → (∀ i, i < len → ∃ s, s < 16 ∧ f i = nI s) → rOk Tm Γ τ → τ 64 = f → ∃ k, u_X11_playNow_108 Γ post w k τ (nI len) 0 len := by
    intro len f τ hl hf O hτ
    have := inv_loop (fun k (q : MS × Int32) => u_X11_playNow_108 Γ post w k q.1 (nI len) q.2 len) (fun j q => (rOk Tm Γ q.1 ∧ q.1 64 = f) ∧ q.2 = nI j) len (by
      rintro ⟨τ, v⟩ ⟨⟨O, e⟩, rfl⟩
      show u_X11_playNow_108 Γ post w 1 τ (nI len) (nI len) len
      unfold u_X11_playNow_108
      exact ⟨fun _ => h _ (rOk.up O (by unfold rPr; omega)), fun c => absurd (le_self _) c⟩) (by
      rintro j k ⟨τ, v⟩ hj ⟨⟨O, e⟩, rfl⟩ ih
      have O : rOk Tm Γ τ := O
      have e : τ 64 = f := e
      have cj : (nI j).toNatClampNeg = j := nI_clamp (by omega)
      obtain ⟨s, hs, es⟩ := hf j hj
      have nx : ∀ τ', rOk Tm Γ τ' → τ' 64 = f → u_X11_playNow_108 Γ post w k τ' (nI len) (nI (j + 1)) len := fun τ' O' e' => ih (τ', nI (j + 1)) ⟨⟨O', e'⟩, rfl⟩
      show u_X11_playNow_108 Γ post w (k + 1) τ (nI len) (nI j) len
      unfold u_X11_playNow_108
      rw [cj, e, es]
      have vs : vp_in (nI s) 16 := vp_in_nI hs (by decide)
      refine ⟨fun c => absurd c (nI_ge hj (by omega)), fun _ => ⟨vp_in_nI hj (by omega), vs, vs, ?_⟩⟩
      rw [nI_1 j]
      exact nx _ (O.up (by unfold rPr; omega)) (funext (fun i => (up2_at (Or.inl (show 64 ≠ 10 by decide))).trans (congrFun e i)))) 0 (by omega) (τ, 0) ⟨⟨O, hτ⟩, nI_0.symm⟩
    exact this
  unfold w_X11_playNow
  refine sf_gain O hw (fun r => sf_quarters (fun r2 => sf_fees (O.up (by unfold rPr; omega)) (fun r3 => ?_)))
  have O2 := (O.up (k := 0) (j := 2) (v := σ 0 2 + r) (by unfold rPr; omega)).up (k := 33 + w) (j := 11) (v := up2 σ 0 2 (σ 0 2 + r) (33 + w) 9 + r2 * r3 / 4) (by unfold rPr; omega)
  have := inv_loop (fun k (q : MS × Int32) => u_X11_playNow_40 Γ post w k q.1 q.2) (fun j q => rOk Tm Γ q.1 ∧ q.2 = nI j) Γ.1 (by
    rintro ⟨τ, v⟩ ⟨O, rfl⟩
    have O : rOk Tm Γ τ := O
    show u_X11_playNow_40 Γ post w 1 τ (nI Γ.1)
    unfold u_X11_playNow_40 w_lp_Jx4a65c_size_8abf5
    rw [O.p]
    exact ⟨fun _ => sf_bestSet O (fun len f τ' O' hl hf => d108 len f _ hl hf (O'.mrg.rw0 (by decide)) rw0_eq), fun c => absurd (le_self _) c⟩) (by
    rintro j k ⟨τ, v⟩ hj ⟨O, rfl⟩ ih
    have O : rOk Tm Γ τ := O
    have nx : ∀ τ', rOk Tm Γ τ' → u_X11_playNow_40 Γ post w k τ' (nI j + 1) := fun τ' O' => by rw [nI_1]; exact ih (τ', nI (j + 1)) ⟨O', rfl⟩
    show u_X11_playNow_40 Γ post w (k + 1) τ (nI j)
    unfold u_X11_playNow_40 w_lp_Jx4a65c_size_8abf5
    rw [O.p]
    exact ⟨fun c => absurd c (nI_ge hj (by omega)), fun _ => sf_isIn (fun r4 => ⟨fun _ => nx _ O, fun _ => sf_pget O hj rfl ⟨⟨by omega, hj⟩, sf_earnedAt O hj rfl hw (fun r5 => nx _ (O.up (by unfold rPr; omega)))⟩⟩)⟩) 0 (by omega) (_, 0) ⟨O2, nI_0.symm⟩
  exact this
end RSAFE12
