/-! LAWS: how many bits; plan -/
theorem bc_1 : ∀ i, i < 14 → bcI (one i) = 1 := by decide +kernel
theorem bc_2 : ∀ i, i < 14 → ∀ j, j < 14 → i < j → bcI (one i ||| one j) = 2 := by decide +kernel
theorem bc_3 : ∀ i, i < 14 → ∀ j, j < 14 → i < j → ∀ k, k < 14 → j < k → bcI (one i ||| one j ||| one k) = 3 := by decide +kernel
theorem shl14 : ∀ n, n ≤ 14 → (1 : Int32) <<< (nI n &&& 31) = nI (2 ^ n) := by decide +kernel
/-- three at most, of the first n -/
def few (n : Nat) (v : Int32) : Prop := v = 0 ∨ (∃ i, i < n ∧ v = one i) ∨ (∃ i j, i < j ∧ j < n ∧ v = (one i ||| one j)) ∨ (∃ i j k, i < j ∧ j < k ∧ k < n ∧ v = (one i ||| one j ||| one k))
theorem few_bc {n : Nat} {v : Int32} (hn : n ≤ 14) (h : few n v) : ∃ c, c ≤ 3 ∧ bcI v = nI c := by
  rcases h with rfl | ⟨i, h1, rfl⟩ | ⟨i, j, h1, h2, rfl⟩ | ⟨i, j, k, h1, h2, h3, rfl⟩
  · exact ⟨0, by decide, by decide +kernel⟩
  · exact ⟨1, by decide, bc_1 i (by omega)⟩
  · exact ⟨2, by decide, bc_2 i (by omega) j (by omega) h1⟩
  · exact ⟨3, by decide, bc_3 i (by omega) j (by omega) h1 k (by omega) h2⟩
theorem few_up {n : Nat} {v : Int32} (h : few n v) : few (n + 1) v := by
  rcases h with rfl | ⟨i, h1, rfl⟩ | ⟨i, j, h1, h2, rfl⟩ | ⟨i, j, k, h1, h2, h3, rfl⟩
  · exact Or.inl rfl
  · exact Or.inr (Or.inl ⟨i, by omega, rfl⟩)
  · exact Or.inr (Or.inr (Or.inl ⟨i, j, h1, by omega, rfl⟩))
  · exact Or.inr (Or.inr (Or.inr ⟨i, j, k, h1, h2, by omega, rfl⟩))
theorem few_add {n : Nat} {v : Int32} (hn : n < 14) (h : few n v) (hb : ¬ 3 ≤ bcI v) : few (n + 1) (v ||| one n) := by
  rcases h with rfl | ⟨i, h1, rfl⟩ | ⟨i, j, h1, h2, rfl⟩ | ⟨i, j, k, h1, h2, h3, rfl⟩
  · exact Or.inr (Or.inl ⟨n, by omega, Int32.zero_or⟩)
  · exact Or.inr (Or.inr (Or.inl ⟨i, n, h1, by omega, rfl⟩))
  · exact Or.inr (Or.inr (Or.inr ⟨i, j, n, h1, h2, by omega, rfl⟩))
  · exact absurd (by rw [bc_3 i (by omega) j (by omega) h1 k (by omega) h2]; decide) hb
theorem fst_n (σ : MS) (day : Int32) : ∀ n, n ≤ 14 → few n (fstF σ day n)
  | 0, _ => Or.inl rfl
  | n + 1, h => by
    have ih := fst_n σ day n (by omega)
    unfold fstF
    split
    · rename_i c
      exact few_add (by omega) ih c.2.2
    · exact few_up ih
theorem fst_bc (σ : MS) (day : Int32) {n : Nat} (h : n ≤ 14) : ∃ c, c ≤ 14 ∧ bcI (fstF σ day n) = nI c := by
  obtain ⟨c, h1, h2⟩ := few_bc h (fst_n σ day n h)
  exact ⟨c, by omega, h2⟩
/-- the plan, of the first places: the state, the best ones, their prices -/
def plS (σ : MS) (P W : Nat) (cand : Int32) : Nat → MS × Int32 × Int32
  | 0 => (σ, 0, 0)
  | n + 1 =>
    let r := saR (saS (plS σ P W cand n).1 P W (memS cand (nI (n + 1)) 14).1 W)
    if r.1 ≤ (plS σ P W cand n).2.2 then (r.2, (plS σ P W cand n).2.1, (plS σ P W cand n).2.2) else (r.2, (memS cand (nI (n + 1)) 14).1, r.1)
theorem scr_saR (σ : MS) (P W : Nat) (ch : Int32) (n : Nat) : Scr σ (saR (saS σ P W ch n)).2 := by
  have h := Scr.sa σ P W ch n
  unfold saR
  generalize saS σ P W ch n = y at h ⊢
  cases e : y.1 with
  | none => exact h.1
  | some z => exact h.2 z e
theorem Scr.pl (σ : MS) (P W : Nat) (cand : Int32) : ∀ n, Scr σ (plS σ P W cand n).1
  | 0 => Scr.rf σ
  | n + 1 => by
    have ih := Scr.pl σ P W cand n
    unfold plS
    dsimp only
    split
    · exact ih.tr (scr_saR _ _ _ _ _)
    · exact ih.tr (scr_saR _ _ _ _ _)
def plF (σ : MS) (P W : Nat) (day : Int32) : MS × Int32 × Int32 := plS σ P W (fstF σ day W) (2 ^ (bcI (fstF σ day W)).toNatClampNeg - 1)
theorem law_T_plan {post : Int32 → MS → Prop} {pex : String → MS → Prop} {σ : MS} {P B W T : Nat} {a b : Int32} (O : Ok σ P B W T)
    (hx : (∀ d, d ≤ 365 → a ≠ nI d) → pex xIA σ)
    (h : ∀ d, d ≤ 365 → a = nI d → post (if b = 0 then (plF σ P W a).2.2 else (plF σ P W a).2.1) (plF σ P W a).1) : w_T_X7_plan post pex σ a b := by
  have hW := O.hW
  unfold w_T_X7_plan u_T_X7_plan_11
  refine ⟨fun c => hx fun d hd e => ?_, fun c => ⟨fun f => law_firstOnesOf O.h8 hW ?_, fun f => hx fun d hd e => ?_⟩⟩
  · subst e
    exact nI_pos (by omega) c
  · obtain ⟨d, hd, ed⟩ := nI_of c
    have d2 : d ≤ 365 := (nI_leI hd (by decide)).mp (show nI d ≤ nI 365 by rw [← ed]; exact f)
    have hp := h d d2 ed
    obtain ⟨cn, hc, ec⟩ := fst_bc σ a hW
    have p1 : 1 ≤ 2 ^ cn := Nat.one_le_two_pow
    have p2 : 2 ^ cn ≤ 2 ^ 14 := Nat.pow_le_pow_right (by decide) hc
    unfold plF at hp
    rw [ec, nI_clamp (by omega)] at hp
    clear h
    generalize fstF σ a W = cand at hp ec ⊢
    refine up_loop (fun k (q : (MS × Int32 × Int32) × Int32) => u_T_X7_plan_37 post pex a b k q.1.1 cand q.1.2.1 q.1.2.2 q.2) (fun i => (plS σ P W cand i, nI (i + 1))) (2 ^ cn - 1) ?_ (fun i k hi hk => ?_)
    · show u_T_X7_plan_37 post pex a b 1 (plS σ P W cand (2 ^ cn - 1)).1 cand (plS σ P W cand (2 ^ cn - 1)).2.1 (plS σ P W cand (2 ^ cn - 1)).2.2 (nI (2 ^ cn - 1 + 1))
      generalize plS σ P W cand (2 ^ cn - 1) = y at hp ⊢
      rw [u_T_X7_plan_37, Nat.sub_add_cancel p1]
      refine law_bitCount ⟨fun _ => ⟨fun e => ?_, fun e => ?_⟩, fun g => absurd ?_ g⟩
      · rw [if_pos e] at hp; exact hp
      · rw [if_neg e] at hp; exact hp
      · rw [ec, shl14 cn hc]
        exact le_self _
    · show u_T_X7_plan_37 post pex a b (k + 1) (plS σ P W cand i).1 cand (plS σ P W cand i).2.1 (plS σ P W cand i).2.2 (nI (i + 1))
      have hk : u_T_X7_plan_37 post pex a b k (plS σ P W cand (i + 1)).1 cand (plS σ P W cand (i + 1)).2.1 (plS σ P W cand (i + 1)).2.2 (nI (i + 1 + 1)) := hk
      unfold plS at hk
      dsimp only at hk
      have Ox := O.scr (Scr.pl σ P W cand i)
      generalize plS σ P W cand i = y at hk Ox ⊢
      rw [u_T_X7_plan_37]
      refine law_bitCount ⟨fun g => absurd g ?_, fun _ => law_membersAt (law_stageAll Ox ⟨fun e => ?_, fun e => ?_⟩)⟩
      · rw [ec, shl14 cn hc]
        exact nI_ge (by omega) (by omega)
      · rw [if_pos e] at hk
        rw [nI_1]
        exact hk
      · rw [if_neg e] at hk
        rw [nI_1]
        exact hk
  · subst e
    exact f (show nI d ≤ nI 365 from nI_le hd (by decide))
