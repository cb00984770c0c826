/-! THE REFERENCE IS SAFE: minutes of a set, the set asked for, a wedding played -/
section RSAFE12
variable {Tm : MS} {Γ : RG} {σ τ ρ : MS} {a a0 a1 a2 a3 a4 b c : Int32}
theorem sf_minutesOf {post : Int32 → MS → Prop} (O : rOk Tm Γ σ) (h : ∀ r τ, rOk Tm Γ τ → post r τ) : w_X11_minutesOf Γ post σ a1 := by
  unfold w_X11_minutesOf
  refine sf_bestSet O (fun len f τ O' hl hf => ?_)
  have O2 : rOk Tm Γ (rw0 (mrg τ σ) 64 f) := O'.mrg.rw0 (by decide)
  have := inv_loop (fun k (q : Int32 × Int32) => u_X11_minutesOf_15 Γ post a1 k (rw0 (mrg τ σ) 64 f) q.1 (nI len) q.2 len) (fun j q => q.2 = nI j) len (by
    rintro ⟨x, v⟩ rfl
    show u_X11_minutesOf_15 Γ post a1 1 (rw0 (mrg τ σ) 64 f) x (nI len) (nI len) len
    unfold u_X11_minutesOf_15
    exact ⟨fun _ => h _ _ O2, fun c => absurd (le_self _) c⟩) (by
    rintro j k ⟨x, v⟩ hj rfl ih
    have cj : (nI j).toNatClampNeg = j := nI_clamp (by omega)
    obtain ⟨s, hs, es⟩ := hf j hj
    show u_X11_minutesOf_15 Γ post a1 (k + 1) (rw0 (mrg τ σ) 64 f) x (nI len) (nI j) len
    unfold u_X11_minutesOf_15
    rw [cj, rw0_eq, es]
    refine ⟨fun c => absurd c (nI_ge hj (by omega)), fun _ => ⟨vp_in_nI hj (by omega), vp_in_nI hs (by decide), ?_⟩⟩
    rw [nI_1 j]
    exact ih (_, nI (j + 1)) rfl) 0 (by omega) (0, 0) nI_0.symm
  exact this
theorem sf_set {post : Int32 → MS → Prop} (O : rOk Tm Γ σ) (h : ∀ r τ, rOk Tm Γ τ → post r τ) : w_X11_set Γ post σ a1 a2 := by
  unfold w_X11_set u_X11_set_22 w_lp_Jx4a65c_size_8abf5
  have O := O.up (k := 0) (j := 0) (v := 0) (by unfold rPr; omega)
  exact ⟨fun _ => sf_refuse O h, fun _ => ⟨fun _ => ⟨fun _ => sf_bestSet O (fun len f τ O' _ _ => h _ _ (O'.mrg.rw0 (by decide))), fun _ => sf_minutesOf O h⟩, fun _ => sf_refuse O h⟩⟩
end RSAFE12
