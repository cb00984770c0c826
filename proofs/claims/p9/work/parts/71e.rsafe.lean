/-! THE REFERENCE IS SAFE: what is asked of songs, bands, weddings, players; keys; what a cancelling would cost -/
section RSAFE5
variable {Tm : MS} {Γ : RG} {σ τ : MS} {a a0 a1 a2 a3 a4 b c : Int32}
theorem rOk.mrg (h : rOk Tm Γ τ) : rOk Tm Γ (mrg τ σ) := h.same (fun k j hp => by rw [mrg_lo (by unfold rPr at hp; omega)])
theorem rOk.rw0 {k : Nat} {f : Nat → Int32} (h : rOk Tm Γ τ) (hk : 47 ≤ k) : rOk Tm Γ (rw0 τ k f) := h.same (fun i j hp => by rw [rw0_ne (by unfold rPr at hp; omega)])
theorem sf_isr {post : Int32 → MS → Prop} {lo hi : Nat} (e1 : b = nI lo) (e2 : c = nI hi) (hl : lo < 2 ^ 31) (hh : hi < 2 ^ 31) (h0 : post 0 σ) (h1 : ∀ i r, lo ≤ i → i ≤ hi → a = nI i → ¬ r = 0 → post r σ) : w_X11_is Γ post σ a b c := by
  rw [e1, e2]
  refine law_X11_is ?_
  by_cases z : rIsF a (nI lo) (nI hi) = 0
  · rw [z]; exact h0
  · obtain ⟨i, h2, h3, e⟩ := rIs_rg hh z hl
    exact h1 i _ h2 h3 e z
theorem sf_ofSongNow {post : Int32 → MS → Prop} (O : rOk Tm Γ σ) (hv : vp_in a1 16) (h : ∀ r, post r σ) : w_X11_ofSongNow Γ post σ a1 a2 := by
  have hP := O.hP
  unfold w_X11_ofSongNow
  refine pl_loop (S := Int32) O (fun k s v => u_X11_ofSongNow_5 Γ post a1 a2 k σ s v) (fun s => ?_) (fun i k s hi ih => ?_) 0
  · unfold u_X11_ofSongNow_5 w_lp_Jx4a65c_size_8abf5
    rw [O.p]
    exact ⟨fun _ => ⟨fun _ => ⟨hv, h _⟩, fun _ => ⟨fun _ => ⟨hv, h _⟩, fun _ => ⟨fun _ => ⟨hv, h _⟩, fun _ => ⟨fun _ => ⟨hv, h _⟩, fun _ => ⟨fun _ => sf_share hv h, fun _ => h _⟩⟩⟩⟩⟩, fun c => absurd (le_self _) c⟩
  · unfold u_X11_ofSongNow_5 w_lp_Jx4a65c_size_8abf5
    rw [O.p]
    exact ⟨fun c => absurd c (nI_ge hi (by omega)), fun _ => sf_pget O hi rfl ⟨⟨by omega, hi⟩, sf_isIn (fun r => ⟨fun _ => ih _, fun _ => ih _⟩)⟩⟩
theorem sf_ofSong {post : Int32 → MS → Prop} (O : rOk Tm Γ σ) (h : ∀ r τ, rOk Tm Γ τ → post r τ) : w_X11_ofSong Γ post σ a1 a2 := by
  unfold w_X11_ofSong
  have O := O.up (k := 0) (j := 0) (v := 0) (by unfold rPr; omega)
  exact sf_isr (lo := 0) (hi := 15) rfl rfl (by decide) (by decide) ⟨fun _ => sf_refuse O h, fun c => absurd rfl c⟩ (fun i r h0 h1 e hr => ⟨fun c => absurd c hr, fun _ => sf_is (fun r2 => ⟨fun _ => sf_refuse O h, fun _ => sf_ofSongNow O (by rw [e]; exact vp_in_nI (by omega) (by decide)) (fun r3 => h _ _ O)⟩)⟩)
theorem sf_ofBandNow {post : Int32 → MS → Prop} {w n : Nat} (O : rOk Tm Γ σ) (hb : w < Γ.2.1) (e : a1 = nI w) (hn : n ≤ 8) (e2 : a2 = nI n) (h : ∀ r, post r σ) : w_X11_ofBandNow Γ post σ a1 a2 := by
  have hW := O.hW
  unfold w_X11_ofBandNow
  refine ⟨fun _ => ⟨fun _ => sf_lbget O hb e ⟨hb, ?_⟩, fun _ => ?_⟩, fun c => sf_lbget O hb e ⟨hb, ?_⟩⟩
  · unfold w_in_J6_intValue_8abf5
    exact sf_needed_ h
  · refine wd_loop (S := Int32) O (fun k s v => u_X11_ofBandNow_54 Γ post a1 a2 k σ s v) (fun s => ?_) (fun i k s hi ih => ?_) 0
    · unfold u_X11_ofBandNow_54 w_lw_Jx4a65c_size_8abf5
      rw [O.w]
      exact ⟨fun _ => h _, fun c => absurd (le_self _) c⟩
    · unfold u_X11_ofBandNow_54 w_lw_Jx4a65c_size_8abf5
      rw [O.w]
      exact ⟨fun c => absurd c (nI_ge hi (by omega)), fun _ => sf_wget O hi rfl ⟨⟨by omega, hi⟩, fun _ => ⟨fun _ => ih _, fun _ => sf_wget O hi rfl ⟨⟨by omega, hi⟩, fun _ => ih _, fun _ => ih _⟩⟩, fun _ => ih _⟩⟩
  · unfold w_in_J6_intValue_8abf5
    refine sf_needed (n := n) ?_ e2 h
    rcases Nat.lt_or_ge n 6 with d | d
    · omega
    · exact absurd (by rw [e2]; exact nI_le' d (by omega)) c
theorem sf_ofBand {post : Int32 → MS → Prop} (O : rOk Tm Γ σ) (h : ∀ r τ, rOk Tm Γ τ → post r τ) : w_X11_ofBand Γ post σ a1 a2 := by
  unfold w_X11_ofBand
  have O := O.up (k := 0) (j := 0) (v := 0) (by unfold rPr; omega)
  exact sf_isBand O ⟨fun _ => sf_refuse O h, fun c => absurd rfl c⟩ (fun b r hb e hr => ⟨fun c => absurd c hr, fun _ => sf_isr (lo := 0) (hi := 8) rfl rfl (by decide) (by decide) ⟨fun _ => sf_refuse O h, fun c => absurd rfl c⟩ (fun n r2 h0 h8 e2 hr2 => ⟨fun c => absurd c hr2, fun _ => sf_ofBandNow O hb e h8 e2 (fun r3 => h _ _ O)⟩)⟩)
theorem sf_ofWeddingNow {post : Int32 → MS → Prop} {w : Nat} (O : rOk Tm Γ σ) (hw : w < Γ.2.2.1) (e : a1 = nI w) (h : ∀ r, post r σ) : w_X11_ofWeddingNow Γ post σ a1 a2 := by
  have hW := O.hW
  unfold w_X11_ofWeddingNow
  exact sf_wget O hw e ⟨⟨by omega, hw⟩, fun _ => h _, fun _ => ⟨fun _ => h _, fun _ => ⟨fun _ => h _, fun _ => ⟨fun _ => h _, fun _ => ⟨fun _ => h _, fun _ => ⟨fun _ => h _, fun _ => ⟨fun _ => h _, fun _ => ⟨fun _ => h _, fun _ => ⟨fun _ => h _, fun _ => ⟨fun _ => h _, fun _ => ⟨fun _ => h _, fun _ => ⟨fun _ => sf_place O hw e h, fun _ => sf_quarters h⟩⟩⟩⟩⟩⟩⟩⟩⟩⟩⟩⟩
theorem sf_ofWedding {post : Int32 → MS → Prop} (O : rOk Tm Γ σ) (h : ∀ r τ, rOk Tm Γ τ → post r τ) : w_X11_ofWedding Γ post σ a1 a2 := by
  unfold w_X11_ofWedding
  have O := O.up (k := 0) (j := 0) (v := 0) (by unfold rPr; omega)
  exact sf_isWedding O ⟨fun _ => sf_refuse O h, fun c => absurd rfl c⟩ (fun b r hb e hr => ⟨fun c => absurd c hr, fun _ => sf_is (fun r2 => ⟨fun _ => sf_refuse O h, fun _ => sf_ofWeddingNow O hb e (fun r3 => h _ _ O)⟩)⟩)
theorem sf_drive_ {post : Int32 → MS → Prop} (O : rOk Tm Γ σ) (h : ∀ r τ, rOk Tm Γ τ → post r τ) : w_X11_drive_ Γ post σ a1 a2 := by
  unfold w_X11_drive_ u_X11_drive__28
  have O := O.up (k := 0) (j := 0) (v := 0) (by unfold rPr; omega)
  exact sf_isTown ⟨fun _ => sf_refuse O h, fun c => absurd rfl c⟩ (fun t r ht e hr => ⟨fun c => absurd c hr, fun _ => sf_isTown ⟨fun _ => sf_refuse O h, fun c => absurd rfl c⟩ (fun t2 r2 ht2 e2 hr2 => ⟨fun c => absurd c hr2, fun _ => sf_driveOf ⟨t, ht, e⟩ ⟨t2, ht2, e2⟩ (fun r => h _ _ O)⟩)⟩)
theorem sf_free {post : Int32 → MS → Prop} (O : rOk Tm Γ σ) (h : ∀ r τ, rOk Tm Γ τ → post r τ) : w_X11_free Γ post σ a1 a2 := by
  unfold w_X11_free u_X11_free_21
  have bad : u_X11_free_22 Γ post a1 a2 σ 1 := by
    unfold u_X11_free_22
    rw [up2_same]
    exact ⟨fun c => absurd c (by decide), fun _ => h _ _ (O.up (by unfold rPr; omega))⟩
  refine sf_isPlayer O ⟨fun _ => bad, fun c => absurd rfl c⟩ (fun p r hp e hr => ⟨fun c => absurd c hr, fun _ => sf_isWedding O ⟨fun _ => bad, fun c => absurd rfl c⟩ (fun w r2 hw e2 hr2 => ⟨fun c => absurd c hr2, fun _ => ?_⟩)⟩)
  have O := O.up (k := 0) (j := 0) (v := 0) (by unfold rPr; omega)
  unfold u_X11_free_22
  exact ⟨fun _ => sf_isFree O hp e hw e2 (fun r => ⟨fun _ => h _ _ O, fun _ => h _ _ O⟩), fun _ => h _ _ O⟩
theorem sf_fillingNow {post : Int32 → MS → Prop} {w : Nat} (O : rOk Tm Γ σ) (hw : w < Γ.2.2.1) (e : a1 = nI w) (h : ∀ r, post r σ) : w_X11_fillingNow Γ post σ a1 a2 := by
  have hW := O.hW
  unfold w_X11_fillingNow
  exact ⟨fun _ => sf_fillings O hw e h, fun _ => ⟨fun _ => sf_why O hw e h, fun _ => sf_best O hw e (fun r => ⟨fun _ => h _, fun _ => ⟨fun _ => h _, fun _ => sf_wget O hw e ⟨⟨by omega, hw⟩, sf_costOf O hw h⟩⟩⟩)⟩⟩
theorem sf_filling {post : Int32 → MS → Prop} (O : rOk Tm Γ σ) (h : ∀ r τ, rOk Tm Γ τ → post r τ) : w_X11_filling Γ post σ a1 a2 := by
  unfold w_X11_filling
  have O := O.up (k := 0) (j := 0) (v := 0) (by unfold rPr; omega)
  exact sf_isWedding O ⟨fun _ => sf_refuse O h, fun c => absurd rfl c⟩ (fun b r hb e hr => ⟨fun c => absurd c hr, fun _ => sf_is (fun r2 => ⟨fun _ => sf_refuse O h, fun _ => sf_fillingNow O hb e (fun r3 => h _ _ O)⟩)⟩)
theorem sf_wouldCancel {post : Int32 → MS → Prop} (O : rOk Tm Γ σ) (h : ∀ r τ, rOk Tm Γ τ → post r τ) : w_X11_wouldCancel Γ post σ a1 := by
  have hW := O.hW
  unfold w_X11_wouldCancel
  have O := O.up (k := 0) (j := 0) (v := 0) (by unfold rPr; omega)
  exact sf_isWedding O ⟨fun _ => sf_refuse O h, fun c => absurd rfl c⟩ (fun w r hw e hr => ⟨fun c => absurd c hr, fun _ => sf_wget O hw e ⟨⟨by omega, hw⟩, fun _ => sf_owed (fun r2 => sf_gain O hw (fun r3 => h _ _ O)), fun _ => sf_refuse O h⟩⟩)
theorem sf_key {post : Int32 → MS → Prop} (O : rOk Tm Γ σ) (h : ∀ r τ, rOk Tm Γ τ → post r τ) : w_X11_key Γ post σ a1 := by
  have hP := O.hP
  unfold w_X11_key
  have O := O.up (k := 0) (j := 0) (v := 0) (by unfold rPr; omega)
  refine sf_isWedding O ⟨fun _ => sf_refuse O h, fun c => absurd rfl c⟩ (fun w r hw e hr => ⟨fun c => absurd c hr, fun _ => sf_best O hw e (fun r2 => ⟨fun _ => h _ _ O, fun _ => ?_⟩)⟩)
  refine pl_loop (S := Unit) O (fun k _ v => u_X11_key_34 Γ post a1 k (up2 σ 0 0 0) v) (fun s => ?_) (fun i k s hi ih => ?_) ()
  · unfold u_X11_key_34 w_lp_Jx4a65c_size_8abf5
    rw [O.p]
    exact ⟨fun _ => h _ _ O, fun c => absurd (le_self _) c⟩
  · unfold u_X11_key_34 w_lp_Jx4a65c_size_8abf5
    rw [O.p]
    exact ⟨fun c => absurd c (nI_ge hi (by omega)), fun _ => sf_best O hw e (fun r3 => ⟨fun _ => h _ _ O, fun _ => ih ()⟩)⟩
theorem sf_weddingsOf {post : Nat → (Nat → Int32) → MS → Prop} (O : rOk Tm Γ σ) (h : ∀ f τ, rOk Tm Γ τ → post 3 f τ) : w_X11_weddingsOf Γ post σ a1 := by
  have hW := O.hW
  have up64 : ∀ {τ : MS} {j : Nat} {v : Int32}, rOk Tm Γ τ → rOk Tm Γ (up2 τ 64 j v) := fun O => O.up (by unfold rPr; omega)
  have v0 : vp_in 0 3 := vp_in_nI (n := 0) (by decide) (by decide)
  have v1 : vp_in 1 3 := vp_in_nI (n := 1) (by decide) (by decide)
  have v2 : vp_in 2 3 := vp_in_nI (n := 2) (by decide) (by decide)
  have d83 : ∀ (K : MS → Int32 → Prop) (τ : MS) (v3 : Int32) (v4 : Nat) (t0 t1 t2 : Int32), vp_in t2 3 → rOk Tm Γ τ → (∀ τ', rOk Tm Γ τ' → K τ' (v3 + 1)) → u_X11_weddingsOf_83 Γ post a1 K τ v3 v4 t0 t1 t2 := by
    intro K τ v3 v4 t0 t1 t2 ht O hK
    unfold u_X11_weddingsOf_83
    exact ⟨ht, v2, fun _ => ⟨v2, hK _ (up64 (up64 O))⟩, fun _ => ⟨v2, hK _ (up64 (up64 O))⟩⟩
  have d63 : ∀ (K : MS → Int32 → Prop) (τ : MS) (v3 : Int32) (v4 : Nat) (t0 t1 t2 : Int32), vp_in t2 3 → rOk Tm Γ τ → (∀ τ', rOk Tm Γ τ' → K τ' (v3 + 1)) → u_X11_weddingsOf_63 Γ post a1 K τ v3 v4 t0 t1 t2 := by
    intro K τ v3 v4 t0 t1 t2 ht O hK
    unfold u_X11_weddingsOf_63
    exact ⟨ht, v1, fun _ => d83 K _ _ _ _ _ _ v1 (up64 O) hK, fun _ => d83 K _ _ _ _ _ _ v1 (up64 O) hK⟩
  unfold w_X11_weddingsOf
  have O := O.rw0 (k := 64) (f := fun _ => 0) (by decide)
  have := inv_loop (fun k (q : MS × Int32) => u_X11_weddingsOf_6 Γ post a1 k q.1 q.2) (fun j q => rOk Tm Γ q.1 ∧ q.2 = nI j) Γ.2.2.1 (by
    rintro ⟨τ, v⟩ ⟨O, rfl⟩
    have O : rOk Tm Γ τ := O
    show u_X11_weddingsOf_6 Γ post a1 1 τ (nI Γ.2.2.1)
    unfold u_X11_weddingsOf_6 w_lw_Jx4a65c_size_8abf5
    rw [O.w]
    exact ⟨fun _ => h _ _ O.mrg, fun c => absurd (le_self _) c⟩) (by
    rintro j k ⟨τ, v⟩ hj ⟨O, rfl⟩ ih
    have O : rOk Tm Γ τ := O
    have nx : ∀ τ', rOk Tm Γ τ' → u_X11_weddingsOf_6 Γ post a1 k τ' (nI j + 1) := fun τ' O' => by rw [nI_1]; exact ih (τ', nI (j + 1)) ⟨O', rfl⟩
    show u_X11_weddingsOf_6 Γ post a1 (k + 1) τ (nI j)
    unfold u_X11_weddingsOf_6 w_lw_Jx4a65c_size_8abf5
    rw [O.w]
    exact ⟨fun c => absurd c (nI_ge hj (by omega)), fun _ => sf_wget O.mrg hj rfl ⟨⟨by omega, hj⟩, sf_isIn (fun r => ⟨fun _ => nx _ O.mrg.mrg.mrg, fun _ => ⟨v0, fun _ => d63 _ _ _ _ _ _ _ v0 O.mrg.mrg.mrg nx, fun _ => d63 _ _ _ _ _ _ _ v0 O.mrg.mrg.mrg nx⟩⟩)⟩⟩) 0 (by omega) (_, 0) ⟨O, nI_0.symm⟩
  exact this
theorem sf_ofPlayerNow {post : Int32 → MS → Prop} {p n : Nat} (O : rOk Tm Γ σ) (hp : p < Γ.1) (e : a1 = nI p) (hn : n ≤ 8) (e2 : a2 = nI n) (h : ∀ r τ, rOk Tm Γ τ → post r τ) : w_X11_ofPlayerNow Γ post σ a1 a2 := by
  have hP := O.hP
  unfold w_X11_ofPlayerNow
  refine sf_pget O hp e ⟨⟨by omega, hp⟩, fun _ => h _ _ O, fun c0 => ⟨fun _ => h _ _ O, fun c1 => ⟨fun _ => h _ _ O, fun c2 => ⟨fun _ => h _ _ O, fun c3 => ⟨fun _ => h _ _ O, fun c4 => ⟨fun _ => h _ _ O, fun c5 => sf_weddingsOf O (fun f τ O' => ⟨?_, h _ _ (O'.mrg.rw0 (by decide))⟩)⟩⟩⟩⟩⟩⟩
  subst e2
  have h6 : 6 ≤ n := by
    rcases Nat.lt_or_ge n 6 with d | d
    · exfalso
      have key : ∀ n, n < 6 → nI n = 0 ∨ nI n = 1 ∨ nI n = 2 ∨ nI n = 3 ∨ nI n = 4 ∨ nI n = 5 := by decide
      rcases key n d with c | c | c | c | c | c
      · exact c0 c
      · exact c1 c
      · exact c2 c
      · exact c3 c
      · exact c4 c
      · exact c5 c
    · exact d
  have key2 : ∀ n, n < 9 → 6 ≤ n → nI n - 6 = nI (n - 6) := by decide
  have ek := key2 n (by omega) h6
  have hk : n - 6 < 3 := by omega
  rw [ek]
  exact vp_in_nI hk (by decide)
theorem sf_ofPlayer {post : Int32 → MS → Prop} (O : rOk Tm Γ σ) (h : ∀ r τ, rOk Tm Γ τ → post r τ) : w_X11_ofPlayer Γ post σ a1 a2 := by
  unfold w_X11_ofPlayer
  have O := O.up (k := 0) (j := 0) (v := 0) (by unfold rPr; omega)
  exact sf_isPlayer O ⟨fun _ => sf_refuse O h, fun c => absurd rfl c⟩ (fun b r hb e hr => ⟨fun c => absurd c hr, fun _ => sf_isr (lo := 0) (hi := 8) rfl rfl (by decide) (by decide) ⟨fun _ => sf_refuse O h, fun c => absurd rfl c⟩ (fun n r2 h0 h8 e2 hr2 => ⟨fun c => absurd c hr2, fun _ => sf_ofPlayerNow O hb e h8 e2 h⟩)⟩)
end RSAFE5
