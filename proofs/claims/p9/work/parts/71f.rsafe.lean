/-! THE REFERENCE IS SAFE: what would be lost, apart, the desk, soundness -/
section RSAFE6
variable {Tm : MS} {Γ : RG} {σ τ : MS} {a a0 a1 a2 a3 a4 b c : Int32}
theorem inv_loop_b {S : Type} (U : Nat → S → Prop) (I : Nat → S → Prop) (n N : Nat) (hN : n + 1 ≤ N) (hz : ∀ s, I n s → U 1 s) (hs : ∀ i k s, i < n → I i s → (∀ s', I (i + 1) s' → U k s') → U (k + 1) s) (s : S) (h : I 0 s) : ∃ k, k ≤ N ∧ U k s := by
  have key : ∀ d i, i + d = n → ∀ s, I i s → U (d + 1) s := by
    intro d
    induction d with
    | zero => intro i hi s h; obtain rfl : i = n := by omega
              exact hz s h
    | succ d ih => intro i hi s h; exact hs i (d + 1) s (by omega) h (fun s' h' => ih (i + 1) (by omega) s' h')
  exact ⟨n + 1, hN, key n 0 (by omega) s h⟩
theorem sf_apart {post : Int32 → MS → Prop} (O : rOk Tm Γ σ) (h : ∀ r τ, rOk Tm Γ τ → post r τ) : w_X11_apart Γ post σ := by
  have hP := O.hP
  have v2 : vp_in 2 3 := vp_in_nI (n := 2) (by decide) (by decide)
  have key : ∀ x y : Int32, ∃ k, k ≤ 11 ∧ u_X11_apart_22 Γ post k σ x y 0 := by
    intro x y
    have := inv_loop_b (fun k (q : MS × Int32 × Int32 × Int32) => u_X11_apart_22 Γ post k q.1 q.2.1 q.2.2.1 q.2.2.2) (fun j q => rOk Tm Γ q.1 ∧ q.2.2.2 = nI j) Γ.1 11 (by omega) (by
      rintro ⟨τ, x, y, v⟩ ⟨O, rfl⟩
      have O : rOk Tm Γ τ := O
      show u_X11_apart_22 Γ post 1 τ x y (nI Γ.1)
      unfold u_X11_apart_22 w_lp_Jx4a65c_size_8abf5
      rw [O.p]
      exact ⟨fun _ => h _ _ O, fun c => absurd (le_self _) c⟩) (by
      rintro j k ⟨τ, x, y, v⟩ hj ⟨O, rfl⟩ ih
      have O : rOk Tm Γ τ := O
      have nx : ∀ τ' x y, rOk Tm Γ τ' → u_X11_apart_22 Γ post k τ' x y (nI j + 1) := fun τ' x y O' => by rw [nI_1]; exact ih (τ', x, y, nI (j + 1)) ⟨O', rfl⟩
      show u_X11_apart_22 Γ post (k + 1) τ x y (nI j)
      unfold u_X11_apart_22 w_lp_Jx4a65c_size_8abf5
      rw [O.p]
      exact ⟨fun c => absurd c (nI_ge hj (by omega)), fun _ => sf_weddingsOf O (fun f τ' O' => ⟨v2, nx _ _ _ (O'.mrg.rw0 (by decide))⟩)⟩) (σ, x, y, 0) ⟨O, nI_0.symm⟩
    exact this
  unfold w_X11_apart w_lp_Jx4a65c_isEmpty_aae02
  exact ⟨fun _ => ⟨fun _ => key _ _, fun _ => key _ _⟩, fun _ => ⟨fun _ => key _ _, fun _ => key _ _⟩⟩
theorem sf_deskNow {post : Int32 → MS → Prop} (O : rOk Tm Γ σ) (h : ∀ r τ, rOk Tm Γ τ → post r τ) : w_X11_deskNow Γ post σ a1 := by
  have hP := O.hP
  have hW := O.hW
  have d95 : ∃ k, u_X11_deskNow_95 Γ post a1 k σ 0 0 := by
    refine wd_loop (S := Int32) O (fun k s v => u_X11_deskNow_95 Γ post a1 k σ s v) (fun s => ?_) (fun i k s hi ih => ?_) 0
    · unfold u_X11_deskNow_95 w_lw_Jx4a65c_size_8abf5
      rw [O.w]
      exact ⟨fun _ => h _ _ O, fun c => absurd (le_self _) c⟩
    · unfold u_X11_deskNow_95 w_lw_Jx4a65c_size_8abf5
      rw [O.w]
      exact ⟨fun c => absurd c (nI_ge hi (by omega)), fun _ => sf_wget O hi rfl ⟨⟨by omega, hi⟩, fun _ => ih _, fun _ => ih _⟩⟩
  have d149 : ∃ k, u_X11_deskNow_149 Γ post a1 k σ 0 0 := by
    refine pl_loop (S := Int32) O (fun k s v => u_X11_deskNow_149 Γ post a1 k σ s v) (fun s => ?_) (fun i k s hi ih => ?_) 0
    · unfold u_X11_deskNow_149 w_lp_Jx4a65c_size_8abf5
      rw [O.p]
      exact ⟨fun _ => h _ _ O, fun c => absurd (le_self _) c⟩
    · unfold u_X11_deskNow_149 w_lp_Jx4a65c_size_8abf5
      rw [O.p]
      exact ⟨fun c => absurd c (nI_ge hi (by omega)), fun _ => sf_pget O hi rfl ⟨⟨by omega, hi⟩, sf_bc (fun r => ih _)⟩⟩
  have d192 : ∃ k, u_X11_deskNow_192 Γ post a1 k σ 0 0 := by
    refine pl_loop (S := Int32) O (fun k s v => u_X11_deskNow_192 Γ post a1 k σ s v) (fun s => ?_) (fun i k s hi ih => ?_) 0
    · unfold u_X11_deskNow_192 w_lp_Jx4a65c_size_8abf5
      rw [O.p]
      exact ⟨fun _ => h _ _ O, fun c => absurd (le_self _) c⟩
    · unfold u_X11_deskNow_192 w_lp_Jx4a65c_size_8abf5
      rw [O.p]
      exact ⟨fun c => absurd c (nI_ge hi (by omega)), fun _ => sf_pget O hi rfl ⟨⟨by omega, hi⟩, ih _⟩⟩
  have d230 : ∃ k, u_X11_deskNow_230 Γ post a1 k σ 0 0 := by
    refine pl_loop (S := Int32) O (fun k s v => u_X11_deskNow_230 Γ post a1 k σ s v) (fun s => ?_) (fun i k s hi ih => ?_) 0
    · unfold u_X11_deskNow_230 w_lp_Jx4a65c_size_8abf5
      rw [O.p]
      exact ⟨fun _ => h _ _ O, fun c => absurd (le_self _) c⟩
    · unfold u_X11_deskNow_230 w_lp_Jx4a65c_size_8abf5
      rw [O.p]
      refine ⟨fun c => absurd c (nI_ge hi (by omega)), fun _ => sf_pget O hi rfl ⟨⟨by omega, hi⟩, ?_⟩⟩
      have := inv_loop (fun m (q : Int32 × Int32) => u_X11_deskNow_265 Γ post a1 (fun σ w0 w1 => u_X11_deskNow_230 Γ post a1 k σ w0 w1) m σ q.1 (nI i) i (nI 366) q.2) (fun j q => q.2 = nI j) 366 (by
        rintro ⟨s, v⟩ rfl
        show u_X11_deskNow_265 Γ post a1 _ 1 σ s (nI i) i (nI 366) (nI 366)
        unfold u_X11_deskNow_265
        exact ⟨fun _ => ih _, fun c => absurd (le_self _) c⟩) (by
        rintro j m ⟨s, v⟩ hj rfl ih2
        show u_X11_deskNow_265 Γ post a1 _ (m + 1) σ s (nI i) i (nI 366) (nI j)
        unfold u_X11_deskNow_265
        refine ⟨fun c => absurd c (nI_ge hj (by decide)), fun _ => ⟨vp_in_nI hj (by decide), ?_⟩⟩
        rw [nI_1 j]
        exact ⟨fun _ => ih2 (_, nI (j + 1)) rfl, fun _ => ih2 (_, nI (j + 1)) rfl⟩) 0 (by omega) (s, 0) nI_0.symm
      exact this
  unfold w_X11_deskNow w_lp_Jx4a65c_size_8abf5 w_lb_Jx4a65c_size_8abf5 w_lw_Jx4a65c_size_8abf5
  exact ⟨fun _ => h _ _ O, fun _ => ⟨fun _ => h _ _ O, fun _ => ⟨fun _ => h _ _ O, fun _ => ⟨fun _ => h _ _ O, fun _ => ⟨fun _ => d95, fun _ => ⟨fun _ => d95, fun _ => ⟨fun _ => d95, fun _ => ⟨fun _ => d95, fun _ => ⟨fun _ => h _ _ O, fun _ => ⟨fun _ => d149, fun _ => ⟨fun _ => d192, fun _ => ⟨fun _ => d230, fun _ => sf_apart O h⟩⟩⟩⟩⟩⟩⟩⟩⟩⟩⟩⟩
theorem sf_desk {post : Int32 → MS → Prop} (O : rOk Tm Γ σ) (h : ∀ r τ, rOk Tm Γ τ → post r τ) : w_X11_desk Γ post σ a1 := by
  unfold w_X11_desk
  have O := O.up (k := 0) (j := 0) (v := 0) (by unfold rPr; omega)
  exact sf_is (fun r => ⟨fun _ => sf_refuse O h, fun _ => sf_deskNow O h⟩)
theorem sf_isSoundNow {post : Int32 → MS → Prop} (O : rOk Tm Γ σ) (h : ∀ r τ, r = 0 ∨ r = 1 → rOk Tm Γ τ → post r τ) : w_X11_isSoundNow Γ post σ := by
  have hP := O.hP
  have hW := O.hW
  have h0 : ∀ τ, rOk Tm Γ τ → post 0 τ := fun τ => h 0 τ (Or.inl rfl)
  have h1 : ∀ τ, rOk Tm Γ τ → post 1 τ := fun τ => h 1 τ (Or.inr rfl)
  have d158 : ∀ x y, ∃ k, u_X11_isSoundNow_158 Γ post k σ x y 0 := by
    intro x y
    have := inv_loop (fun k (q : Int32 × Int32) => u_X11_isSoundNow_158 Γ post k σ x q.1 q.2) (fun j q => q.2 = nI j) 16 (by
      rintro ⟨s, v⟩ rfl
      show u_X11_isSoundNow_158 Γ post 1 σ x s (nI 16)
      unfold u_X11_isSoundNow_158
      exact ⟨fun _ => sf_deskNow O (fun r τ O' => ⟨fun _ => ⟨fun _ => h0 _ O', fun _ => h1 _ O'⟩, fun _ => h0 _ O'⟩), fun c => absurd (le_self (nI 16)) c⟩) (by
      rintro j k ⟨s, v⟩ hj rfl ih
      show u_X11_isSoundNow_158 Γ post (k + 1) σ x s (nI j)
      unfold u_X11_isSoundNow_158
      refine ⟨fun c => absurd (show nI 16 ≤ nI j from c) (nI_ge hj (by decide)), fun _ => sf_share (vp_in_nI hj (by decide)) (fun r => ?_)⟩
      rw [nI_1 j]
      exact ih (_, nI (j + 1)) rfl) 0 (by omega) (y, 0) nI_0.symm
    exact this
  unfold w_X11_isSoundNow
  refine wd_loop (S := Int32 × Int32) O (fun k s v => u_X11_isSoundNow_6 Γ post k σ s.1 s.2 v) (fun s => ?_) (fun i k s hi ih => ?_) (0, 0)
  · unfold u_X11_isSoundNow_6 w_lw_Jx4a65c_size_8abf5
    rw [O.w]
    exact ⟨fun _ => d158 _ _, fun c => absurd (le_self _) c⟩
  · have d87 : ∀ x y, ∃ m, u_X11_isSoundNow_87 Γ post (fun σ w0 w1 w2 => u_X11_isSoundNow_6 Γ post k σ w0 w1 w2) m σ x y (nI i) i 0 := by
      intro x y
      have := inv_loop (fun m (v : Int32) => u_X11_isSoundNow_87 Γ post (fun σ w0 w1 w2 => u_X11_isSoundNow_6 Γ post k σ w0 w1 w2) m σ x y (nI i) i v) (fun j v => v = nI j) i (by
        rintro _ rfl
        show u_X11_isSoundNow_87 Γ post _ 1 σ x y (nI i) i (nI i)
        unfold u_X11_isSoundNow_87
        exact ⟨fun _ => ih (x, y), fun c => absurd (le_self _) c⟩) (by
        rintro j m _ hj rfl ih2
        have ih2 := ih2 _ (nI_1 j)
        show u_X11_isSoundNow_87 Γ post _ (m + 1) σ x y (nI i) i (nI j)
        unfold u_X11_isSoundNow_87
        exact ⟨fun c => absurd c (nI_ge hj (by omega)), fun _ => sf_wget O (by omega) rfl ⟨⟨by omega, by omega⟩, fun _ => ⟨fun _ => ⟨fun _ => h0 _ O, fun _ => ih2⟩, fun _ => ih2⟩, fun _ => ih2⟩⟩) 0 (by omega) 0 nI_0.symm
      exact this
    obtain ⟨bd, hb, eb⟩ := O.band hi
    unfold u_X11_isSoundNow_6 w_lw_Jx4a65c_size_8abf5
    rw [O.w]
    refine ⟨fun c => absurd c (nI_ge hi (by omega)), fun _ => sf_wget O hi rfl ⟨⟨by omega, hi⟩, fun _ => sf_bc (fun r => sf_lbget O hb eb ⟨hb, ?_⟩), fun _ => ih (_, _)⟩⟩
    unfold w_in_J6_intValue_8abf5
    exact sf_needed_ (fun r2 => ⟨fun _ => d87 _ _, fun _ => h0 _ O⟩)
theorem sf_isSound {post : Int32 → MS → Prop} (O : rOk Tm Γ σ) (h : ∀ r τ, rOk Tm Γ τ → post r τ) : w_X11_isSound Γ post σ := by
  unfold w_X11_isSound
  exact sf_isSoundNow (O.up (by unfold rPr; omega)) (fun r τ hr O' => ⟨nar_01r hr, h _ _ O'⟩)
end RSAFE6
