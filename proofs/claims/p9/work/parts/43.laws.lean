/-! LAWS: free, filling, wouldLose, wouldCancel, key, drive -/
theorem nar_b (x : Bool) : narrow .boolean (.int (b01 x)) = .int (b01 x) := by cases x <;> rfl
theorem law_T_free {post : Int32 → MS → Prop} {pex : String → MS → Prop} {σ : MS} {P B W T : Nat} {a b : Int32} (O : Ok σ P B W T)
    (hx : ((∀ p, p < P → a ≠ nI p) ∨ (∀ w, w < W → b ≠ nI w)) → pex xIO σ)
    (h : ∀ p w, p < P → w < W → a = nI p → b = nI w → post (b01 (freeB (stg σ W) p w W)) (stg σ W)) : w_T_X7_free post pex σ a b := by
  have hP := O.hP
  have hW := O.hW
  unfold w_T_X7_free
  refine law_T_checkPlayer O (fun p hp e => law_T_checkWedding O (fun w hw e2 => ?_) (fun z => hx (Or.inr z))) (fun z => hx (Or.inl z))
  have hh := h p w hp hw e e2
  subst e
  subst e2
  exact law_stageAsFixed O.h8 hW (law_isFreeFor (O.scr (Scr.stg σ W)) (by omega) (by omega) ⟨nar_b _, hh⟩)
def fillF (y : MS) : Nat → Int32
  | 0 => y 9 0
  | 1 => y 9 1
  | 2 => y 9 3
  | _ => y 9 5
theorem law_T_filling {post : Int32 → MS → Prop} {pex : String → MS → Prop} {σ : MS} {P B W T : Nat} {a b : Int32} (O : Ok σ P B W T)
    (hx : (∀ w, w < W → a ≠ nI w) → pex xIO σ)
    (hq : ∀ w, w < W → a = nI w → (∀ k, k ≤ 3 → b ≠ nI k) → pex xIA σ)
    (h : ∀ w k, w < W → k ≤ 3 → a = nI w → b = nI k → post (fillF (snF σ w P W) k) (snF σ w P W)) : w_T_X7_filling post pex σ a b := by
  have hW := O.hW
  unfold w_T_X7_filling u_T_X7_filling_14
  refine law_T_checkWedding O (fun w hw e => ?_) hx
  have hq2 := hq w hw e
  have hh := fun k hk e2 => h w k hw hk e e2
  subst e
  refine ⟨fun c => hq2 fun k hk e => ?_, fun c => ⟨fun d => law_surveyNow O (by omega) ⟨fun e => ?_, fun e0 => ⟨fun e => ?_, fun e1 => ⟨fun e => ?_, fun e2 => ?_⟩⟩⟩, fun d => hq2 fun k hk e => ?_⟩⟩
  · subst e
    exact nI_pos (by omega) c
  · exact hh 0 (by decide) e
  · exact hh 1 (by decide) e
  · exact hh 2 (by decide) e
  · obtain ⟨k, hk, rfl⟩ := nI_of c
    have hk3 : k ≤ 3 := (nI_leI hk (by decide)).mp (show nI k ≤ nI 3 from d)
    have n0 : k ≠ 0 := fun z => e0 (by rw [z]; rfl)
    have n1 : k ≠ 1 := fun z => e1 (by rw [z]; rfl)
    have n2 : k ≠ 2 := fun z => e2 (by rw [z]; rfl)
    obtain rfl : k = 3 := by omega
    exact hh 3 (by decide) rfl
  · subst e
    exact d (show nI k ≤ nI 3 from nI_le hk (by decide))
theorem law_T_wouldLose {post : Int32 → MS → Prop} {pex : String → MS → Prop} {σ : MS} {P B W T : Nat} {a b : Int32} (O : Ok σ P B W T)
    (hx : (∀ p, p < P → a ≠ nI p) → pex xIO σ)
    (hq : ∀ p, p < P → a = nI p → (∀ d, T ≤ d → d ≤ 365 → b ≠ nI d) → pex xIA σ)
    (h : ∀ p d, p < P → T ≤ d → d ≤ 365 → a = nI p → b = nI d → post (swS σ P W p (nI d) W).2 (swS σ P W p (nI d) W).1) : w_T_X7_wouldLose post pex σ a b := by
  have hP := O.hP
  unfold w_T_X7_wouldLose
  refine law_T_checkPlayer O (fun p hp e => law_T_checkDayToCome O (fun d hd1 hd2 e2 => ?_) (fun z => hq p hp e z)) hx
  have hh := h p d hp hd1 hd2 e e2
  subst e
  subst e2
  exact law_stageWithout O (by omega) hh
def wcF (σ : MS) (w P : Nat) : Int32 := (if 0 < owedF σ w - σ (73 + w) 11 then owedF σ w - σ (73 + w) 11 else 0) - (((σ (73 + w) 9 - σ (73 + w) 11) + extraF σ w P) - wagesF σ w P)
theorem law_T_wouldCancel {post : Int32 → MS → Prop} {pex : String → MS → Prop} {σ : MS} {P B W T : Nat} {a : Int32} (O : Ok σ P B W T)
    (hx : (∀ w, w < W → a ≠ nI w) → pex xIO σ)
    (hq : ∀ w, w < W → a = nI w → ¬ σ (73 + w) 7 = 1 → pex xIS σ)
    (h : ∀ w, w < W → a = nI w → σ (73 + w) 7 = 1 → post (wcF σ w P) σ) : w_T_X7_wouldCancel post pex σ a := by
  have hP := O.hP
  have hW := O.hW
  unfold w_T_X7_wouldCancel
  refine law_T_checkWedding O (fun w hw e => ?_) hx
  have hq2 := hq w hw e
  have hh := h w hw e
  subst e
  rw [nI_clamp (by omega)]
  refine ⟨vp_in_nI (by omega) (by decide), fun c => law_owedFor (law_extraOf O.h6 hP (law_allWagesAt O.h6 hP (fun p hp => O.home p (by omega)) (O.town w (by omega)) fun y hy => ?_)), fun c => hq2 c⟩
  subst hy
  exact hh c
/-- the first of the set, of n; else -1 -/
def keyF (s : Int32) : Nat → Nat → Int32
  | 0, _ => -1
  | n + 1, i => if bt s i = true then nI i else keyF s n (i + 1)
theorem law_T_key {post : Int32 → MS → Prop} {pex : String → MS → Prop} {σ : MS} {P B W T : Nat} {a : Int32} (O : Ok σ P B W T)
    (hx : (∀ w, w < W → a ≠ nI w) → pex xIO σ)
    (h : ∀ w, w < W → a = nI w → post (if snF σ w P W 9 3 = 0 then -1 else keyF (snF σ w P W 9 4) P 0) (snF σ w P W)) : w_T_X7_key post pex σ a := by
  have hP := O.hP
  have hW := O.hW
  unfold w_T_X7_key
  refine law_T_checkWedding O (fun w hw e => ?_) hx
  have hh := h w hw e
  subst e
  have Oy := O.scr (Scr.sn σ w P W)
  refine law_surveyNow O (by omega) ?_
  generalize snF σ w P W = y at hh Oy ⊢
  refine ⟨fun c => ?_, fun c => ⟨P + 1, ?_⟩⟩
  · rw [if_pos c] at hh; exact hh
  · rw [if_neg c] at hh
    have key : ∀ d i, i + d = P → post (keyF (y 9 4) d i) y → u_T_X7_key_24 post pex (nI w) (d + 1) y (nI i) := by
      intro d
      induction d with
      | zero =>
        intro i hi hp
        obtain rfl : i = P := by omega
        rw [u_T_X7_key_24, Oy.h6]
        exact ⟨fun _ => hp, fun c => absurd (le_self _) c⟩
      | succ d ih =>
        intro i hi hp
        unfold keyF at hp
        rw [u_T_X7_key_24, Oy.h6, nI_1]
        refine ⟨fun c => absurd c (nI_ge (by omega) (by omega)), fun _ => law_has (by omega) ⟨fun c => ?_, fun c => ?_⟩⟩
        · rw [if_neg (by rw [b01_0.mp c]; exact Bool.false_ne_true)] at hp
          exact ih (i + 1) (by omega) hp
        · rw [if_pos (b01_1.mp c)] at hp
          exact hp
    exact key P 0 (by omega) hh
theorem law_T_drive {post : Int32 → MS → Prop} {pex : String → MS → Prop} {σ : MS} {a b : Int32}
    (hx : ((∀ p, p < 6 → a ≠ nI p) ∨ (∀ w, w < 6 → b ≠ nI w)) → pex xIO σ)
    (h : ∀ p w, p < 6 → w < 6 → a = nI p → b = nI w → post (σ (23 + p) w) σ) : w_T_X7_drive post pex σ a b := by
  unfold w_T_X7_drive
  refine law_T_checkTown (fun p hp e => law_T_checkTown (fun w hw e2 => ?_) (fun z => hx (Or.inr z))) (fun z => hx (Or.inl z))
  have hh := h p w hp hw e e2
  subst e
  subst e2
  refine law_between (vp_in_nI hp (by decide)) (vp_in_nI hw (by decide)) ?_
  unfold wayF
  rw [nI_clamp (by omega), nI_clamp (by omega)]
  exact hh
