/-! SETS, THE DIGEST, ON BOTH SIDES -/
/-- the sum so far is v -/
def dgI (x : MS) (Γ : RG) (v : Int64) (τ : MS) : Prop := rOk (tR x) Γ τ ∧ m64 (τ 0 12) (τ 0 13) = v ∧ τ 0 0 = 0
section DIGB
variable {x y z : MS} {Γ : RG} {σ τ ρ : MS} {a a0 a1 a2 a3 a4 b c : Int32} {w P B W T : Nat} {v u : Int64}
theorem sy_set {post : Int32 → MS → Prop} (O : rOk (tR x) Γ σ) (F : enV x)
    (h1 : ¬ (0 ≤ a1 ∧ a1 < nI (2 ^ Γ.1)) → ∀ τ, rOk (tR x) Γ τ → τ 0 0 = 1 → post 0 τ)
    (h3 : 0 ≤ a1 → a1 < nI (2 ^ Γ.1) → ∀ τ, rOk (tR x) Γ τ → τ 0 0 = 0 → post (setR (setS x a1 Γ.1) a2) τ) : w_X11_set Γ post σ a1 a2 := by
  have hP := O.hP
  have O0 := O.up (k := 0) (j := 0) (v := 0) (by unfold rPr; omega)
  unfold w_X11_set u_X11_set_22 w_lp_Jx4a65c_size_8abf5
  rw [O0.p]
  dsimp only
  rw [shl1 Γ.1 hP]
  refine ⟨fun c => sx_refuse O0 (h1 (fun q => Int32.not_le.mpr c q.1)), fun c => ⟨fun d => ⟨fun e => sy_bestSet O0 F (fun len f τ R hlo O' hl e1 _ hf => ?_), fun e => sy_minutesOf O0 F (fun τ O' hlo => ?_)⟩, fun d => sx_refuse O0 (h1 (fun q => d q.2))⟩⟩
  · have := h3 (Int32.not_lt.mp c) d (rw0 (mrg τ (up2 σ 0 0 0)) 64 f) (O'.mrg.rw0 (by decide)) (by rw [rw0_ne (by decide), mrg_lo (by decide), hlo 0 (by decide), up2_same])
    unfold setR at this
    rw [if_pos e, e1] at this
    exact this
  · have := h3 (Int32.not_lt.mp c) d τ O' (by rw [hlo 0 (by decide), up2_same])
    unfold setR at this
    rw [if_neg e] at this
    exact this
theorem sy_add {post : MS → Prop} {a1 : Int64} (I : dgI x Γ v σ) (h : ∀ τ, dgI x Γ (v * 31 + a1) τ → post τ) : w_X11_add Γ post σ a1 := by
  refine h _ ⟨(I.1.up (by unfold rPr; omega)).up (by unfold rPr; omega), ?_, ?_⟩
  · rw [up2_off (k := 0) (j := 13) (k' := 0) (j' := 12) (by omega), up2_same, up2_same, m64_of, I.2.1]
  · rw [up2_off (by omega), up2_off (by omega)]
    exact I.2.2
theorem dgI.lo (I : dgI x Γ v σ) (O : rOk (tR x) Γ τ) (h : ∀ k, k < 64 → τ k = σ k) : dgI x Γ v τ := ⟨O, by rw [h 0 (by decide)]; exact I.2.1, by rw [h 0 (by decide)]; exact I.2.2⟩
theorem dg_loop (U : Nat → MS → Int32 → Prop) (f : Nat → Int64) (n N : Nat) (hN : n + 1 ≤ N) (hz : ∀ τ, dgI x Γ (f n) τ → U 1 τ (nI n)) (hs : ∀ j k τ, j < n → dgI x Γ (f j) τ → (∀ τ', dgI x Γ (f (j + 1)) τ' → U k τ' (nI j + 1)) → U (k + 1) τ (nI j)) (O : dgI x Γ (f 0) τ) : ∃ k, k ≤ N ∧ U k τ 0 := by
  have := inv_loop_b (fun k (q : MS × Int32) => U k q.1 q.2) (fun j q => dgI x Γ (f j) q.1 ∧ q.2 = nI j) n N hN (by rintro ⟨τ, v⟩ ⟨O, rfl⟩; exact hz τ O) (by
    rintro j k ⟨τ, v⟩ hj ⟨O, rfl⟩ ih
    exact hs j k τ hj O (fun τ' O' => by rw [nI_1]; exact ih (τ', nI (j + 1)) ⟨O', rfl⟩)) (τ, 0) ⟨O, nI_0.symm⟩
  exact this
theorem dg_loop' (U : Nat → MS → Int32 → Prop) (f : Nat → Int64) (n : Nat) (hz : ∀ τ, dgI x Γ (f n) τ → U 1 τ (nI n)) (hs : ∀ j k τ, j < n → dgI x Γ (f j) τ → (∀ τ', dgI x Γ (f (j + 1)) τ' → U k τ' (nI j + 1)) → U (k + 1) τ (nI j)) (O : dgI x Γ (f 0) τ) : ∃ k, U k τ 0 := by
  obtain ⟨k, _, h⟩ := dg_loop U f n (n + 1) (Nat.le_refl _) hz hs O
  exact ⟨k, h⟩
theorem pw_1 {P : Nat} : nI (2 ^ P) - 1 = nI (2 ^ P - 1) := by
  have h : nI (2 ^ P) = nI (2 ^ P - 1) + 1 := by rw [nI_1, Nat.sub_add_cancel Nat.one_le_two_pow]
  rw [h]
  grind
theorem sy_digest {post : Int64 → MS → Prop} (Oc : Ok x Γ.1 Γ.2.1 Γ.2.2.1 T) (O : rOk (tR x) Γ σ) (Y : Sy x) (F : enV x) (S : Sh x Γ) (G : Gs x) (PL : PlI x Γ.2.2.1) (FOx : FO x Γ.1) (hb : Γ.1 = 0 ∨ x 29 7 < 9999) (h4 : D4 x Γ.1 Γ.2.2.1) (h : ∀ τ, rOk (tR x) Γ τ → τ 0 0 = 0 → post (digF x Γ.1 Γ.2.1 Γ.2.2.1) τ) : w_X11_digest Γ post σ := by
  have hP := O.hP
  have hB := O.hB
  have hW := O.hW
  have sm : ∀ (f : Nat → Int32) (a : Int64) n, smL f a (n + 1) = smL f a n * 31 + (f n).toInt64 := fun _ _ _ => rfl
  unfold digF at h
  generalize ea : smL (deskF x Γ.1 Γ.2.2.1) 58278 13 = A at h
  generalize ep : dgP x Γ.2.2.1 A Γ.1 = Ap at h
  generalize es : dgS x Γ.1 Ap 16 = As at h
  generalize eb : dgB x Γ.2.2.1 As Γ.2.1 = Ab at h
  have d316 : ∀ τ (v : Int64) (t0 : Int64), dgI x Γ v τ → (∀ τ', rOk (tR x) Γ τ' → τ' 0 0 = 0 → post (v * 31 + t0) τ') → u_X11_digest_316 Γ post τ t0 := fun τ v t0 I hp => by
    unfold u_X11_digest_316
    exact sy_add I (fun τ' I' => by rw [I'.2.1]; exact hp τ' I'.1 I'.2.2)
  have d165 : ∀ τ, dgI x Γ Ab τ → ∃ k, k ≤ 15 ∧ u_X11_digest_165 Γ post k τ 0 := fun τ I => by
    refine dg_loop (fun k τ v => u_X11_digest_165 Γ post k τ v) (dgWs x Γ.1 Γ.2.2.1 Ab) Γ.2.2.1 15 (by omega) (fun τ I => ?_) (fun j k τ hj I ih => ?_) I
    · unfold dgE at h
      unfold u_X11_digest_165 w_lw_Jx4a65c_size_8abf5 w_lp_Jx4a65c_size_8abf5
      rw [I.1.w]
      dsimp only
      rw [I.1.p]
      rw [shl1 Γ.1 hP, pw_1]
      refine ⟨fun _ => sy_minutesOf I.1 F (fun τ2 O2 hlo => sy_add (I.lo O2 hlo) (fun τ3 I3 => sy_driveOf I3.1 ⟨0, by decide, nI_0.symm⟩ ⟨5, by decide, rfl⟩ (sy_add I3 (fun τ4 I4 => sy_isSoundNow Oc I4.1 S PL FOx hb h4 (fun τ5 O5 hlo5 => ?_))))), fun c => absurd (le_self _) c⟩
      have I5 := I4.lo O5 hlo5
      cases e : sndB x Γ.1 Γ.2.2.1 with
      | false =>
        rw [e] at h
        exact ⟨fun _ => d316 _ _ _ I5 (fun τ' O' z' => h τ' O' z'), fun c => absurd rfl c⟩
      | true =>
        rw [e] at h
        exact ⟨fun c => absurd c (by decide), fun _ => d316 _ _ _ I5 (fun τ' O' z' => h τ' O' z')⟩
    · have hn : dgWs x Γ.1 Γ.2.2.1 Ab (j + 1) = dgW x Γ.1 Γ.2.2.1 j (dgWs x Γ.1 Γ.2.2.1 Ab j) := rfl
      rw [hn] at ih
      unfold dgW at ih
      dsimp only at ih
      generalize dgWs x Γ.1 Γ.2.2.1 Ab j = V at I ih
      unfold u_X11_digest_165 w_lw_Jx4a65c_size_8abf5
      rw [I.1.w]
      refine ⟨fun c => absurd c (nI_ge hj (by omega)), fun _ => ?_⟩
      have d242 : ∀ τ, dgI x Γ (if x (73 + j) 7 = 0 then ((((smL (ofWF x j) V 13 * 31 + (snF x j Γ.1 Γ.2.2.1 9 0).toInt64) * 31 + (snF x j Γ.1 Γ.2.2.1 9 1).toInt64) * 31 + (snF x j Γ.1 Γ.2.2.1 9 3).toInt64) * 31 + (snF x j Γ.1 Γ.2.2.1 9 5).toInt64) else smL (ofWF x j) V 13) τ → u_X11_digest_242 Γ post (fun σ w0 => u_X11_digest_165 Γ post k σ w0) τ (nI j) := fun τ I => by
        unfold u_X11_digest_242
        refine sf_wget I.1 hj rfl ⟨⟨by omega, hj⟩, ?_⟩
        rw [I.1.wd (j := 8) hj (by decide)]
        refine sy_bestSet I.1 F (fun len f τ2 R hlo O2 hl e1 _ hf => ?_)
        have I2 : dgI x Γ _ (rw0 (mrg τ2 τ) 64 f) := I.lo (O2.mrg.rw0 (by decide)) (fun k hk => by rw [rw0_ne (by omega), mrg_lo hk, hlo k hk])
        refine sy_add I2 (fun τ3 I3 => ih _ ?_)
        have el : setR (setS x (x (73 + j) 8) Γ.1) 0 = nI len := by
          unfold setR
          rw [if_pos rfl, e1]
        rw [el]
        exact I3.lo I3.1.mrg (fun k hk => mrg_lo hk)
      refine dg_loop' (fun m τ v => u_X11_digest_178 Γ post (fun σ w0 => u_X11_digest_165 Γ post k σ w0) m τ (nI j) v) (smL (ofWF x j) V) 13 (fun τ I => ?_) (fun i m τ hi I ih2 => ?_) I
      · unfold u_X11_digest_178
        refine ⟨fun _ => ?_, fun c => absurd (le_self (nI 13)) c⟩
        by_cases c7 : x (73 + j) 7 = 0
        · rw [if_pos c7] at d242
          refine dg_loop' (fun m τ v => u_X11_digest_203 Γ post (fun σ w0 => u_X11_digest_165 Γ post k σ w0) m τ (nI j) v) (smL (fillF (snF x j Γ.1 Γ.2.2.1)) (smL (ofWF x j) V 13)) 4 (fun τ I => ?_) (fun i m τ hi I ih3 => ?_) I
          · unfold u_X11_digest_203
            exact ⟨fun _ => d242 _ I, fun c => absurd (le_self (nI 4)) c⟩
          · unfold u_X11_digest_203
            refine ⟨fun c => absurd (show nI 4 ≤ nI i from c) (nI_ge hi (by decide)), fun _ => sf_wget I.1 hj rfl ⟨⟨by omega, hj⟩, ?_⟩⟩
            rw [I.1.wd (j := 7) hj (by decide)]
            exact ⟨fun _ => sy_fillingNow I.1 Y S G hj rfl (show i ≤ 3 by omega) rfl (sy_add I ih3), fun c => absurd c7 c⟩
        · rw [if_neg c7] at d242
          refine ⟨1, ?_⟩
          unfold u_X11_digest_203
          refine ⟨fun c => absurd (show nI 4 ≤ nI 0 from c) (nI_ge (by decide) (by decide)), fun _ => sf_wget I.1 hj rfl ⟨⟨by omega, hj⟩, ?_⟩⟩
          rw [I.1.wd (j := 7) hj (by decide)]
          exact ⟨fun c => absurd c c7, fun _ => d242 _ I⟩
      · unfold u_X11_digest_178
        exact ⟨fun c => absurd (show nI 13 ≤ nI i from c) (nI_ge hi (by decide)), fun _ => sy_ofWeddingNow I.1 hj rfl (show i ≤ 12 by omega) rfl (sy_add I ih2)⟩
  have d121 : ∀ τ, dgI x Γ As τ → ∃ k, u_X11_digest_121 Γ post k τ 0 := fun τ I => by
    refine dg_loop' (fun k τ v => u_X11_digest_121 Γ post k τ v) (dgB x Γ.2.2.1 As) Γ.2.1 (fun τ I => ?_) (fun j k τ hj I ih => ?_) I
    · rw [eb] at I
      unfold u_X11_digest_121 w_lb_Jx4a65c_size_8abf5
      rw [I.1.b]
      exact ⟨fun _ => d165 _ I, fun c => absurd (le_self _) c⟩
    · have hn : dgB x Γ.2.2.1 As (j + 1) = smL (ofBF x Γ.2.2.1 j) (dgB x Γ.2.2.1 As j) 9 := rfl
      rw [hn] at ih
      unfold u_X11_digest_121 w_lb_Jx4a65c_size_8abf5
      rw [I.1.b]
      refine ⟨fun c => absurd c (nI_ge hj (by omega)), fun _ => ?_⟩
      refine dg_loop' (fun m τ v => u_X11_digest_134 Γ post (fun σ w0 => u_X11_digest_121 Γ post k σ w0) m τ (nI j) v) (smL (ofBF x Γ.2.2.1 j) (dgB x Γ.2.2.1 As j)) 9 (fun τ I => ?_) (fun i m τ hi I ih2 => ?_) I
      · unfold u_X11_digest_134
        exact ⟨fun _ => ih _ I, fun c => absurd (le_self (nI 9)) c⟩
      · unfold u_X11_digest_134
        exact ⟨fun c => absurd (show nI 9 ≤ nI i from c) (nI_ge hi (by decide)), fun _ => sy_ofBandNow I.1 S hj rfl (show i ≤ 8 by omega) rfl (sy_add I ih2)⟩
  have d82 : ∀ τ, dgI x Γ Ap τ → ∃ k, u_X11_digest_82 Γ post k τ 0 := fun τ I => by
    refine dg_loop' (fun k τ v => u_X11_digest_82 Γ post k τ v) (dgS x Γ.1 Ap) 16 (fun τ I => ?_) (fun j k τ hj I ih => ?_) I
    · rw [es] at I
      unfold u_X11_digest_82
      exact ⟨fun _ => d121 _ I, fun c => absurd (le_self (nI 16)) c⟩
    · have hn : dgS x Γ.1 Ap (j + 1) = smL (ofSF x Γ.1 j) (dgS x Γ.1 Ap j) 6 := rfl
      rw [hn] at ih
      unfold u_X11_digest_82
      refine ⟨fun c => absurd (show nI 16 ≤ nI j from c) (nI_ge hj (by decide)), fun _ => ?_⟩
      refine dg_loop' (fun m τ v => u_X11_digest_90 Γ post (fun σ w0 => u_X11_digest_82 Γ post k σ w0) m τ (nI j) v) (smL (ofSF x Γ.1 j) (dgS x Γ.1 Ap j)) 6 (fun τ I => ?_) (fun i m τ hi I ih2 => ?_) I
      · unfold u_X11_digest_90
        exact ⟨fun _ => ih _ I, fun c => absurd (le_self (nI 6)) c⟩
      · unfold u_X11_digest_90
        exact ⟨fun c => absurd (show nI 6 ≤ nI i from c) (nI_ge hi (by decide)), fun _ => sy_ofSongNow I.1 hj rfl (show i ≤ 5 by omega) rfl (sy_add I ih2)⟩
  have d38 : ∀ τ, dgI x Γ A τ → ∃ k, k ≤ 11 ∧ u_X11_digest_38 Γ post k τ 0 := fun τ I => by
    refine dg_loop (fun k τ v => u_X11_digest_38 Γ post k τ v) (dgP x Γ.2.2.1 A) Γ.1 11 (by omega) (fun τ I => ?_) (fun j k τ hj I ih => ?_) I
    · rw [ep] at I
      unfold u_X11_digest_38 w_lp_Jx4a65c_size_8abf5
      rw [I.1.p]
      exact ⟨fun _ => d82 _ I, fun c => absurd (le_self _) c⟩
    · have hn : dgP x Γ.2.2.1 A (j + 1) = smL (ofPF x Γ.2.2.1 j) (dgP x Γ.2.2.1 A j) 9 := rfl
      rw [hn] at ih
      unfold u_X11_digest_38 w_lp_Jx4a65c_size_8abf5
      rw [I.1.p]
      refine ⟨fun c => absurd c (nI_ge hj (by omega)), fun _ => ?_⟩
      refine dg_loop (fun m τ v => u_X11_digest_51 Γ post (fun σ w0 => u_X11_digest_38 Γ post k σ w0) m τ (nI j) v) (smL (ofPF x Γ.2.2.1 j) (dgP x Γ.2.2.1 A j)) 9 10 (by omega) (fun τ I => ?_) (fun i m τ hi I ih2 => ?_) I
      · unfold u_X11_digest_51
        exact ⟨fun _ => ih _ I, fun c => absurd (le_self (nI 9)) c⟩
      · unfold u_X11_digest_51
        exact ⟨fun c => absurd (show nI 9 ≤ nI i from c) (nI_ge hi (by decide)), fun _ => sy_ofPlayerNow I.1 PL hj rfl (show i ≤ 8 by omega) rfl (fun τ' O' hlo => sy_add (I.lo O' hlo) ih2)⟩
  unfold w_X11_digest
  refine dg_loop (fun k τ v => u_X11_digest_14 Γ post k τ v) (smL (deskF x Γ.1 Γ.2.2.1) 58278) 13 14 (by omega) (fun τ I => ?_) (fun j k τ hj I ih => ?_) ⟨((O.up (by unfold rPr; omega)).up (by unfold rPr; omega)).up (by unfold rPr; omega), ?_, ?_⟩
  · rw [ea] at I
    unfold u_X11_digest_14
    exact ⟨fun _ => d38 _ I, fun c => absurd (le_self (nI 13)) c⟩
  · unfold u_X11_digest_14
    exact ⟨fun c => absurd (show nI 13 ≤ nI j from c) (nI_ge hj (by decide)), fun _ => sy_deskNow Oc I.1 PL FOx hb (show j ≤ 12 by omega) rfl (fun τ' O' hlo => sy_add (I.lo O' hlo) ih)⟩
  · rw [up2_off (k := 0) (j := 13) (k' := 0) (j' := 12) (by omega), up2_same, up2_same, m64_of]
    rfl
  · rw [up2_off (by omega), up2_off (by omega), up2_same]
end DIGB
