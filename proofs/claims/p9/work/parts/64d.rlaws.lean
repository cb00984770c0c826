/-! LAWS OF THE REFERENCE: what a band needs; band -/
def rD3 (a : Int32) : Nat → Int32
  | 0 => a
  | i + 1 => rD3 a i / 3
def rNeed (a : Int32) (i : Nat) : Int32 := rD3 a i - rD3 a i / 3 * 3
def rNeeds (a : Int32) : Nat → Int32
  | 0 => 0
  | i + 1 => rNeeds a i + rNeed a i
section RLAW4
variable {Γ : RG} {σ : MS} {a0 a1 : Int32}
theorem law_X11_needed {post : Int32 → MS → Prop} {j : Nat} (hj : j < 2 ^ 31) (h : post (rNeed a0 j) σ) : w_X11_needed Γ post σ a0 (nI j) := by
  unfold w_X11_needed
  refine up_loop (fun k (x : Int32 × Int32) => u_X11_needed_4 Γ post a0 (nI j) k σ x.1 x.2) (fun i => (rD3 a0 i, nI i)) j ?_ (fun i k hi hu => ?_)
  · show u_X11_needed_4 Γ post a0 (nI j) (0 + 1) σ (rD3 a0 j) (nI j)
    unfold u_X11_needed_4
    exact ⟨fun _ => h, fun z => absurd (nI_le (Nat.le_refl _) hj) z⟩
  · show u_X11_needed_4 Γ post a0 (nI j) (k + 1) σ (rD3 a0 i) (nI i)
    unfold u_X11_needed_4
    refine ⟨fun z => absurd z (nI_ge hi hj), fun _ => ?_⟩
    rw [nI_1]
    exact hu
theorem law_X11_needed_ {post : Int32 → MS → Prop} (h : post (rNeeds a0 6) σ) : w_X11_needed_ Γ post σ a0 := by
  unfold w_X11_needed_
  refine up_loop (fun k (x : Int32 × Int32) => u_X11_needed__4 Γ post a0 k σ x.1 x.2) (fun i => (rNeeds a0 i, nI i)) 6 ?_ (fun i k hi hu => ?_)
  · show u_X11_needed__4 Γ post a0 (0 + 1) σ (rNeeds a0 6) (nI 6)
    unfold u_X11_needed__4
    exact ⟨fun _ => h, fun z => absurd (show (6 : Int32) ≤ nI 6 from by decide +kernel) z⟩
  · show u_X11_needed__4 Γ post a0 (k + 1) σ (rNeeds a0 i) (nI i)
    unfold u_X11_needed__4
    refine ⟨fun z => absurd (show nI 6 ≤ nI i from z) (nI_ge hi (by decide)), fun _ => law_X11_needed (by omega) ?_⟩
    rw [nI_1]
    exact hu
/-- band: what it answers, what it leaves -/
theorem law_X11_band {lay : Nat → Nat} {post : Int32 → RY → Prop} (hB : Γ.2.1 ≤ 6) (hs : σ 2 2 = nI Γ.2.1)
    (h1 : (a1 < 1 ∨ 728 < a1) ∨ ¬ rNeeds a1 6 ≤ 5 → post 0 (lay, Γ, up2 (up2 σ 0 0 0) 0 0 1))
    (h2 : Γ.2.1 = 6 → post 0 (lay, Γ, up2 (up2 σ 0 0 0) 0 0 2))
    (h3 : Γ.2.1 < 6 → ∀ lay' y, post (nI Γ.2.1) (lay', (Γ.1, Γ.2.1 + 1, Γ.2.2.1, Γ.2.2.2.1, va_up Γ.2.2.2.2.1 Γ.2.1 y, va_up Γ.2.2.2.2.2 Γ.2.1 a1), rbS (up2 σ 0 0 0) Γ.2.1)) : w_X11_band lay Γ post σ a1 := by
  have hs2 : up2 σ 0 0 0 2 2 = nI Γ.2.1 := hs
  unfold w_X11_band
  refine law_X11_is ⟨fun c => law_X11_refuse (h1 (Or.inl (rIsF_0.mp c))), fun _ => ?_⟩
  refine law_X11_needed_ ⟨fun c => law_X11_refuse (h1 (Or.inr c)), fun _ => ?_⟩
  unfold w_lb_Jx4a65c_size_8abf5
  rw [hs2]
  by_cases c : Γ.2.1 = 6
  · refine ⟨fun _ => law_X11_refuse (h2 c), fun z => absurd ?_ z⟩
    rw [c]
    decide +kernel
  · have hlt : Γ.2.1 < 6 := by omega
    refine ⟨fun z => ?_, fun _ => ⟨hlt, hs2, h3 hlt⟩⟩
    have z' : nI Γ.2.1 = nI 6 := z
    exact absurd ((nI_eq (by omega) (by decide)).mp z') c
/-- song: what it answers, what it leaves -/
theorem law_X11_song {post : Int32 → MS → Prop} {i : Nat} {a2 a3 a4 : Int32} (ha : a1 = nI i) (hi : i < 2 ^ 31)
    (h1 : (a1 < 0 ∨ 15 < a1) → post 0 (up2 (up2 σ 0 0 0) 0 0 1))
    (h2 : (a2 < 0 ∨ 11 < a2) ∨ (a3 < 0 ∨ 9 < a3) ∨ (a4 < 2 ∨ 9 < a4) → post 0 (up2 (up2 σ 0 0 0) 0 0 2))
    (h3 : i < 16 → post (σ 9 i) (up2 (up2 (up2 (up2 σ 0 0 0) 7 i a2) 8 i a3) 9 i a4)) : w_X11_song Γ post σ a1 a2 a3 a4 := by
  subst ha
  unfold w_X11_song
  by_cases c : i < 16
  · have hin : vp_in (nI i) 16 := vp_in_nI c (by decide)
    have hcl : (nI i).toNatClampNeg = i := nI_clamp (by omega)
    refine law_X11_is ⟨fun c => law_X11_refuse (h1 (rIsF_0.mp c)), fun _ => ?_⟩
    refine law_X11_is ⟨fun c => law_X11_refuse (h2 (Or.inl (rIsF_0.mp c))), fun _ => ?_⟩
    refine law_X11_is ⟨fun c => law_X11_refuse (h2 (Or.inr (Or.inl (rIsF_0.mp c)))), fun _ => ?_⟩
    refine law_X11_is ⟨fun c => law_X11_refuse (h2 (Or.inr (Or.inr (rIsF_0.mp c)))), fun _ => ⟨hin, hin, hin, hin, ?_⟩⟩
    rw [hcl]
    exact h3 c
  · have hb : nI i < 0 ∨ (15 : Int32) < nI i := Or.inr (show nI 15 < nI i from nI_lt (by omega) hi)
    exact law_X11_is ⟨fun _ => law_X11_refuse (h1 hb), fun z => absurd (rIsF_0.mpr hb) z⟩
end RLAW4
