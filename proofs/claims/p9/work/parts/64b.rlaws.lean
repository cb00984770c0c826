/-! LAWS OF THE REFERENCE: an element of a list; isFixed; ask -/
section RLAW2
variable {Γ : RG} {σ : MS} {a a0 a1 a2 : Int32}
theorem law_lw_get {post : Nat → MS → Prop} {i : Nat} (hi : i < Γ.2.2.1) (hW : Γ.2.2.1 ≤ 14) (hs : σ 3 2 = nI Γ.2.2.1) (h : post i σ) : w_lw_Jx4a65c_get_915e3 Γ post σ (nI i) := by
  have hcl : (nI i).toNatClampNeg = i := nI_clamp (by omega)
  unfold w_lw_Jx4a65c_get_915e3 w_J15_checkIndex_7cf53 w_J3_checkIndex_8e157 w_lw_Jx4a65c_elementData_915e3
  rw [hcl, hs]
  refine ⟨fun z => absurd z (nI_pos (by omega)), fun _ => ⟨fun _ => ⟨by omega, ?_, hi, ⟨⟨by omega, hi⟩, h⟩⟩, fun z => absurd (nI_lt hi (by omega)) z⟩⟩
  by_cases z : Γ.2.2.1 ≤ 10
  · rw [if_pos z]; exact vp_in_nI (by omega) (by decide)
  · rw [if_neg z]; exact vp_in_nI (by omega) (by decide)
theorem law_lp_get {post : Nat → MS → Prop} {i : Nat} (hi : i < Γ.1) (hP : Γ.1 ≤ 10) (hs : σ 1 2 = nI Γ.1) (h : post i σ) : w_lp_Jx4a65c_get_915e3 Γ post σ (nI i) := by
  have hcl : (nI i).toNatClampNeg = i := nI_clamp (by omega)
  unfold w_lp_Jx4a65c_get_915e3 w_J15_checkIndex_7cf53 w_J3_checkIndex_8e157 w_lp_Jx4a65c_elementData_915e3
  rw [hcl, hs]
  exact ⟨fun z => absurd z (nI_pos (by omega)), fun _ => ⟨fun _ => ⟨by omega, vp_in_nI (by omega) (by decide), hi, ⟨⟨by omega, hi⟩, h⟩⟩, fun z => absurd (nI_lt hi (by omega)) z⟩⟩
def rFix (σ : MS) (a1 a2 : Int32) (i : Nat) : Prop := σ (33 + i) 7 = 1 ∧ σ (33 + i) 0 = a1 ∧ σ (33 + i) 1 = a2
theorem u_fix_step {post : Int32 → MS → Prop} {i k : Nat} (hi : i < Γ.2.2.1) (hW : Γ.2.2.1 ≤ 14) (hs : σ 3 2 = nI Γ.2.2.1) (h1 : rFix σ a1 a2 i → post 1 σ) (h2 : ¬ rFix σ a1 a2 i → u_X11_isFixed_2 Γ post a1 a2 k σ (nI (i + 1))) : u_X11_isFixed_2 Γ post a1 a2 (k + 1) σ (nI i) := by
  unfold u_X11_isFixed_2 w_lw_Jx4a65c_size_8abf5
  rw [hs]
  refine ⟨fun z => absurd z (nI_ge hi (by omega)), fun _ => law_lw_get hi hW hs ⟨⟨by omega, hi⟩, ?_⟩⟩
  rw [nI_1]
  exact ⟨fun c1 => ⟨fun c2 => ⟨fun c3 => h1 ⟨c1, c2, c3⟩, fun c3 => h2 (fun z => c3 z.2.2)⟩, fun c2 => h2 (fun z => c2 z.2.1)⟩, fun c1 => h2 (fun z => c1 z.1)⟩
theorem law_X11_isFixed {post : Int32 → MS → Prop} (hW : Γ.2.2.1 ≤ 14) (hs : σ 3 2 = nI Γ.2.2.1) (h1 : (∃ i, i < Γ.2.2.1 ∧ rFix σ a1 a2 i) → post 1 σ) (h0 : (¬ ∃ i, i < Γ.2.2.1 ∧ rFix σ a1 a2 i) → post 0 σ) : w_X11_isFixed Γ post σ a1 a2 := by
  unfold w_X11_isFixed
  by_cases c : ∃ i, i < Γ.2.2.1 ∧ rFix σ a1 a2 i
  · obtain ⟨i0, hi0, hf⟩ := c
    have hp : post 1 σ := h1 ⟨i0, hi0, hf⟩
    exact up_loop (fun k (v : Int32) => u_X11_isFixed_2 Γ post a1 a2 k σ v) (fun i => nI i) i0 (u_fix_step hi0 hW hs (fun _ => hp) (fun z => absurd hf z)) (fun i k hi h => u_fix_step (by omega) hW hs (fun _ => hp) (fun _ => h))
  · refine up_loop (fun k (v : Int32) => u_X11_isFixed_2 Γ post a1 a2 k σ v) (fun i => nI i) Γ.2.2.1 ?_ (fun i k hi h => u_fix_step hi hW hs (fun z => absurd ⟨i, hi, z⟩ c) (fun _ => h))
    show u_X11_isFixed_2 Γ post a1 a2 (0 + 1) σ (nI Γ.2.2.1)
    unfold u_X11_isFixed_2 w_lw_Jx4a65c_size_8abf5
    rw [hs]
    exact ⟨fun _ => h0 c, fun z => absurd (nI_le (Nat.le_refl _) (by omega)) z⟩
end RLAW2
