/-! WHAT ILLNESS WOULD LOSE, ON BOTH SIDES -/
/-- the first n weddings put back: players, states, what is paid -/
def rsW (y x : MS) : Nat → MS
  | 0 => y
  | n + 1 => up2 (up2 (up2 (rsW y x n) (73 + n) 8 (x (73 + n) 8)) (73 + n) 7 (x (73 + n) 7)) (73 + n) 11 (x (73 + n) 11)
/-- what was kept of the first n -/
def arW (x : MS) (n : Nat) (τ : MS) : Prop := ∀ i, i < n → τ 64 i = x (73 + i) 8 ∧ τ 65 i = x (73 + i) 7 ∧ τ 66 i = x (73 + i) 11
section LOSEB
variable {x y z : MS} {Γ : RG} {σ τ ρ : MS} {a a0 a1 a2 a3 a4 b c : Int32} {w P B W T : Nat}
theorem rsW_at : ∀ n k j, rsW y x n k j = if 73 ≤ k ∧ k < 73 + n ∧ (j = 7 ∨ j = 8 ∨ j = 11) then x k j else y k j
  | 0, k, j => (if_neg (by omega)).symm
  | n + 1, k, j => by
    unfold rsW
    by_cases c11 : k = 73 + n ∧ j = 11
    · obtain ⟨rfl, rfl⟩ := c11
      rw [up2_same, if_pos (by omega)]
    · rw [up2_off c11]
      by_cases c7 : k = 73 + n ∧ j = 7
      · obtain ⟨rfl, rfl⟩ := c7
        rw [up2_same, if_pos (by omega)]
      · rw [up2_off c7]
        by_cases c8 : k = 73 + n ∧ j = 8
        · obtain ⟨rfl, rfl⟩ := c8
          rw [up2_same, if_pos (by omega)]
        · rw [up2_off c8, rsW_at n k j]
          by_cases c : 73 ≤ k ∧ k < 73 + n ∧ (j = 7 ∨ j = 8 ∨ j = 11)
          · rw [if_pos c, if_pos (by omega)]
          · rw [if_neg c, if_neg (by omega)]
theorem arW.next {j : Nat} (h : arW x j τ) : arW x (j + 1) (up2 (up2 (up2 τ 64 j (x (73 + j) 8)) 65 j (x (73 + j) 7)) 66 j (x (73 + j) 11)) := fun i hi => by
  by_cases e : i = j
  · subst e
    exact ⟨by rw [up2_off (by omega), up2_off (by omega), up2_same], by rw [up2_off (by omega), up2_same], up2_same⟩
  · obtain ⟨g1, g2, g3⟩ := h i (by omega)
    exact ⟨by rw [up2_off (by omega), up2_off (by omega), up2_off (by omega)]; exact g1, by rw [up2_off (by omega), up2_off (by omega), up2_off (by omega)]; exact g2, by rw [up2_off (by omega), up2_off (by omega), up2_off (by omega)]; exact g3⟩
theorem vnar_b (v : Bool) : vp_nar .boolean (b01 v) = b01 v := by cases v <;> rfl
/-- all put back -/
theorem rs_back {p d : Nat} : ∀ a b, seen a b → x a b = rsW (up2 (up2 (ilR (up2 x 6 d (x 6 d ||| one p)) P W p (nI d) W).1 6 d (x 6 d)) 0 10 (x 0 10)) x W a b := by
  intro a b hs
  rw [rsW_at]
  by_cases c : 73 ≤ a ∧ a < 73 + W ∧ (b = 7 ∨ b = 8 ∨ b = 11)
  · rw [if_pos c]
  · rw [if_neg c]
    by_cases c0 : a = 0 ∧ b = 10
    · obtain ⟨rfl, rfl⟩ := c0
      rw [up2_same]
    · rw [up2_off c0]
      by_cases c6 : a = 6 ∧ b = d
      · obtain ⟨rfl, rfl⟩ := c6
        rw [up2_same]
      · rw [up2_off c6]
        by_cases g : 73 ≤ a ∧ (b = 7 ∨ b = 8 ∨ b = 11)
        · obtain ⟨m, rfl⟩ : ∃ m, a = 73 + m := ⟨a - 73, by omega⟩
          rw [ilR_m W (by omega), up2_off c6]
        · rw [ilR_k ⟨g, c0⟩ W, up2_off c6]
theorem sy_wouldLose {post : Int32 → MS → Prop} (Oc : Ok x Γ.1 B Γ.2.2.1 T) (O : rOk (tR x) Γ σ) (Y : Sy x) (S : Sh x Γ) (G : Gs x)
    (h1 : (∀ p, p < Γ.1 → a1 ≠ nI p) → ∀ τ, rOk (tR x) Γ τ → τ 0 0 = 1 → post 0 τ)
    (h2 : ∀ p, p < Γ.1 → a1 = nI p → (∀ d, T ≤ d → d ≤ 365 → a2 ≠ nI d) → ∀ τ, rOk (tR x) Γ τ → τ 0 0 = 2 → post 0 τ)
    (h3 : ∀ p d, p < Γ.1 → T ≤ d → d ≤ 365 → a1 = nI p → a2 = nI d → ∀ τ, rOk (tR x) Γ τ → τ 0 0 = 0 → post (swS x Γ.1 Γ.2.2.1 p (nI d) Γ.2.2.1).2 τ) : w_X11_wouldLose Γ post σ a1 a2 := by
  have hP := O.hP
  have hW := O.hW
  -- the weddings put back
  have d199 : ∀ (y : MS) (r : Int32) (ρ : MS), rOk (tR y) Γ ρ → ρ 0 0 = 0 → arW x Γ.2.2.1 ρ → (∀ τ, rOk (tR (rsW y x Γ.2.2.1)) Γ τ → τ 0 0 = 0 → post r τ) → ∃ k, u_X11_wouldLose_199 Γ post a1 a2 k ρ r 0 Γ.2.2.1 Γ.2.2.1 Γ.2.2.1 := by
    intro y r ρ Or z0 A hr
    have := inv_loop (fun k (q : MS × Int32) => u_X11_wouldLose_199 Γ post a1 a2 k q.1 r q.2 Γ.2.2.1 Γ.2.2.1 Γ.2.2.1) (fun j q => (rOk (tR (rsW y x j)) Γ q.1 ∧ q.1 0 0 = 0 ∧ ∀ k, 64 ≤ k → q.1 k = ρ k) ∧ q.2 = nI j) Γ.2.2.1 (by
      rintro ⟨τ, v⟩ ⟨⟨I, z, K⟩, rfl⟩
      show u_X11_wouldLose_199 Γ post a1 a2 1 τ r (nI Γ.2.2.1) Γ.2.2.1 Γ.2.2.1 Γ.2.2.1
      unfold u_X11_wouldLose_199
      exact ⟨fun _ => hr _ I z, fun c => absurd (le_self _) c⟩) (by
      rintro j k ⟨τ, v⟩ hj ⟨⟨I, z, K⟩, rfl⟩ ih
      have I : rOk (tR (rsW y x j)) Γ τ := I
      have z : τ 0 0 = 0 := z
      have K : ∀ k, 64 ≤ k → τ k = ρ k := K
      have nx : ∀ τ', rOk (tR (rsW y x (j + 1))) Γ τ' → τ' 0 0 = 0 → (∀ k, 64 ≤ k → τ' k = ρ k) → u_X11_wouldLose_199 Γ post a1 a2 k τ' r (nI j + 1) Γ.2.2.1 Γ.2.2.1 Γ.2.2.1 := fun τ' O' z' K' => by rw [nI_1]; exact ih (τ', nI (j + 1)) ⟨⟨O', z', K'⟩, rfl⟩
      have hv : vp_in (nI j) Γ.2.2.1 := vp_in_nI hj (by omega)
      have cj : (nI j).toNatClampNeg = j := nI_clamp (by omega)
      obtain ⟨g1, g2, g3⟩ := A j hj
      rw [← K 64 (by decide)] at g1
      rw [← K 65 (by decide)] at g2
      rw [← K 66 (by decide)] at g3
      have I1 := RX.wd (v := x (73 + j) 8) I hj (by decide) (show 8 < 12 by decide)
      have I2 := RX.wd (v := x (73 + j) 7) I1 hj (by decide) (show 7 < 12 by decide)
      have I3 := RX.wd (v := x (73 + j) 11) I2 hj (by decide) (show 11 < 12 by decide)
      show u_X11_wouldLose_199 Γ post a1 a2 (k + 1) τ r (nI j) Γ.2.2.1 Γ.2.2.1 Γ.2.2.1
      unfold u_X11_wouldLose_199
      refine ⟨fun c => absurd c (nI_ge hj (by omega)), fun _ => sf_wget I hj rfl ⟨⟨by omega, hj⟩, hv, ?_⟩⟩
      rw [mrg_self, cj, g1]
      refine sf_wget I1 hj rfl ⟨⟨by omega, hj⟩, hv, ?_⟩
      rw [mrg_self, up2_off (k := 33 + j) (j := 8) (k' := 65) (j' := j) (by omega), g2]
      refine sf_wget I2 hj rfl ⟨⟨by omega, hj⟩, hv, fun u hu => ?_⟩
      rw [mrg_self, up2_off (k := 33 + j) (j := 7) (k' := 66) (j' := j) (by omega), up2_off (k := 33 + j) (j := 8) (k' := 66) (j' := j) (by omega), g3] at hu
      rw [mrg_self]
      subst hu
      exact nx _ I3 (by rw [up2_off (by omega), up2_off (by omega), up2_off (by omega)]; exact z) (fun k hk => by rw [up2_ne (by omega), up2_ne (by omega), up2_ne (by omega)]; exact K k hk)) 0 (by omega) (ρ, 0) ⟨⟨Or, z0, fun _ _ => rfl⟩, nI_0.symm⟩
    exact this
  unfold w_X11_wouldLose
  have O0 := O.up (k := 0) (j := 0) (v := 0) (by unfold rPr; omega)
  refine sx_isPlayer O0 (fun no => ⟨fun _ => sx_refuse O0 (h1 no), fun c => absurd rfl c⟩) (fun p r hp e hr => ⟨fun c => absurd c hr, fun _ => sx_isDay (T := T) (by rw [O0.tdy]; exact Oc.h9) Oc.hT (fun no => ⟨fun _ => sx_refuse O0 (h2 p hp e no), fun c => absurd rfl c⟩) (fun d r2 hd1 hd2 e2 hr2 => ⟨fun c => absurd c hr2, fun _ => ?_⟩)⟩)
  have hd : d < 366 := by omega
  have hdv : vp_in a2 366 := by rw [e2]; exact vp_in_nI (by omega) (by decide)
  have hdc : a2.toNatClampNeg = d := by rw [e2]; exact nI_clamp (by omega)
  have h3 := h3 p d hp hd1 hd2 e e2
  rw [(il_sync Oc hp hd Γ.2.2.1 (Nat.le_refl _)).2] at h3
  have O1 := O0.rw0 (k := 64) (f := fun _ => 0) (by decide)
  have O2 := (O1.mrg (σ := rw0 (up2 σ 0 0 0) 64 (fun _ => 0))).rw0 (k := 65) (f := fun _ => 0) (by decide)
  unfold w_lw_Jx4a65c_size_8abf5
  refine ⟨Γ.2.2.1, O0.w, by omega, Γ.2.2.1, O1.w, by omega, Γ.2.2.1, O2.w, by omega, ?_⟩
  have O3 := (O2.mrg (σ := rw0 (mrg (rw0 (up2 σ 0 0 0) 64 (fun _ => 0)) (rw0 (up2 σ 0 0 0) 64 (fun _ => 0))) 65 (fun _ => 0))).rw0 (k := 66) (f := fun _ => 0) (by decide)
  have := inv_loop (fun k (q : MS × Int32) => u_X11_wouldLose_68 Γ post a1 a2 k q.1 q.2 Γ.2.2.1 Γ.2.2.1 Γ.2.2.1) (fun j q => (rOk (tR x) Γ q.1 ∧ q.1 0 0 = 0 ∧ arW x j q.1) ∧ q.2 = nI j) Γ.2.2.1 (by
    rintro ⟨τ, v⟩ ⟨⟨I, z, A⟩, rfl⟩
    have I : rOk (tR x) Γ τ := I
    have z : τ 0 0 = 0 := z
    have A : arW x Γ.2.2.1 τ := A
    show u_X11_wouldLose_68 Γ post a1 a2 1 τ (nI Γ.2.2.1) Γ.2.2.1 Γ.2.2.1 Γ.2.2.1
    unfold u_X11_wouldLose_68
    refine ⟨fun _ => sf_pget I hp e ⟨⟨by omega, hp⟩, hdv, ?_⟩, fun c => absurd (le_self _) c⟩
    rw [mrg_self, hdc, I.off hp hd, I.csh, vnar_b]
    refine sy_illNow I Y S G hp e hd e2 (fun τ' O' K' => sf_pget O'.mrg hp e ⟨⟨by omega, hp⟩, hdv, ?_⟩)
    rw [mrg_self]
    have O4 : rOk (tR (ilR (up2 x 6 d (x 6 d ||| one p)) Γ.1 Γ.2.2.1 p (nI d) Γ.2.2.1).1) Γ (mrg τ' τ) := O'.mrg
    have e6 : (ilR (up2 x 6 d (x 6 d ||| one p)) Γ.1 Γ.2.2.1 p (nI d) Γ.2.2.1).1 6 d = x 6 d ||| one p := (ilR_k (by omega) Γ.2.2.1).trans up2_same
    refine d199 (up2 (up2 (ilR (up2 x 6 d (x 6 d ||| one p)) Γ.1 Γ.2.2.1 p (nI d) Γ.2.2.1).1 6 d (x 6 d)) 0 10 (x 0 10)) _ _ (RX.csh (RX.dof O4 hp hd rfl (fun q hq hne => ?_))) ?_ (fun i hi => ?_) (fun τ2 O5 z5 => h3 _ (RX.cg O5 rs_back) z5)
    · rw [e6, b_or, b_one (by omega) hq, decide_eq_false hne, Bool.or_false]
    · rw [up2_off (by omega), up2_off (by omega), mrg_lo (by omega), K'.1]
      exact z
    · rw [up2_off (by omega), up2_off (by omega), up2_off (by omega), up2_off (by omega), up2_off (by omega), up2_off (by omega), mrg_hi (by omega), mrg_hi (by omega), mrg_hi (by omega)]
      exact A i hi) (by
    rintro j k ⟨τ, v⟩ hj ⟨⟨I, z, A⟩, rfl⟩ ih
    have I : rOk (tR x) Γ τ := I
    have z : τ 0 0 = 0 := z
    have A : arW x j τ := A
    have nx : ∀ τ', rOk (tR x) Γ τ' → τ' 0 0 = 0 → arW x (j + 1) τ' → u_X11_wouldLose_68 Γ post a1 a2 k τ' (nI j + 1) Γ.2.2.1 Γ.2.2.1 Γ.2.2.1 := fun τ' O' z' A' => by rw [nI_1]; exact ih (τ', nI (j + 1)) ⟨⟨O', z', A'⟩, rfl⟩
    have hv : vp_in (nI j) Γ.2.2.1 := vp_in_nI hj (by omega)
    have cj : (nI j).toNatClampNeg = j := nI_clamp (by omega)
    have I1 := I.up (k := 64) (j := j) (v := x (73 + j) 8) (by unfold rPr; omega)
    have I2 := I1.up (k := 65) (j := j) (v := x (73 + j) 7) (by unfold rPr; omega)
    have I3 := I2.up (k := 66) (j := j) (v := x (73 + j) 11) (by unfold rPr; omega)
    show u_X11_wouldLose_68 Γ post a1 a2 (k + 1) τ (nI j) Γ.2.2.1 Γ.2.2.1 Γ.2.2.1
    unfold u_X11_wouldLose_68
    refine ⟨fun c => absurd c (nI_ge hj (by omega)), fun _ => sf_wget I hj rfl ⟨⟨by omega, hj⟩, hv, ?_⟩⟩
    rw [mrg_self, cj, I.wd (j := 8) hj (by decide)]
    refine sf_wget I1 hj rfl ⟨⟨by omega, hj⟩, hv, ?_⟩
    rw [mrg_self, I1.wd (j := 7) hj (by decide)]
    refine sf_wget I2 hj rfl ⟨⟨by omega, hj⟩, fun u hu => ⟨hv, ?_⟩⟩
    rw [mrg_self, I2.wd (j := 11) hj (by decide)] at hu
    rw [mrg_self]
    subst hu
    exact nx _ I3 (by rw [up2_off (by omega), up2_off (by omega), up2_off (by omega)]; exact z) A.next) 0 (by omega) (_, 0) ⟨⟨O3, rfl, fun i hi => absurd hi (by omega)⟩, nI_0.symm⟩
  exact this
end LOSEB
