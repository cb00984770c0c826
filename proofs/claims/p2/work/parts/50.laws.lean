/-! LAWS: how many bits; plan -/
theorem bc_a : ∀ a, a < 128 → ∀ b, b < 128 → bcI (nI (a * 128 + b)) = nI (fb_ct (fun i => Nat.testBit (a * 128 + b) i) 14) := by decide +kernel
theorem bc_n {n : Nat} (h : n < 16384) : bcI (nI n) = nI (fb_ct (fun i => Nat.testBit n i) 14) := by
  have := bc_a (n / 128) (by omega) (n % 128) (by omega)
  rwa [show n / 128 * 128 + n % 128 = n by omega] at this
theorem nor (a b : Nat) : nI a ||| nI b = nI (a ||| b) := by
  apply Int32.toBitVec_inj.1
  show BitVec.ofNat 32 a ||| BitVec.ofNat 32 b = BitVec.ofNat 32 (a ||| b)
  apply BitVec.eq_of_getLsbD_eq
  intro i hi
  simp [hi]
theorem one_n : ∀ n, n < 31 → one n = nI (2 ^ n) := by decide +kernel
theorem shl14 : ∀ n, n ≤ 14 → (1 : Int32) <<< (nI n &&& 31) = nI (2 ^ n) := by decide +kernel
theorem fst_n (σ : MS) (day : Int32) : ∀ n, n ≤ 14 → ∃ m, m < 2 ^ n ∧ fstF σ day n = nI m
  | 0, _ => ⟨0, by decide, rfl⟩
  | n + 1, h => by
    obtain ⟨m, hm, e⟩ := fst_n σ day n (by omega)
    unfold fstF
    split
    · refine ⟨m ||| 2 ^ n, Nat.or_lt_two_pow (Nat.lt_of_lt_of_le hm (Nat.pow_le_pow_right (by decide) (by omega))) (Nat.pow_lt_pow_right (by decide) (by omega)), ?_⟩
      rw [e, one_n n (by omega), nor]
    · exact ⟨m, Nat.lt_of_lt_of_le hm (Nat.pow_le_pow_right (by decide) (by omega)), e⟩
theorem fst_bc (σ : MS) (day : Int32) {n : Nat} (h : n ≤ 14) : ∃ c, c ≤ 14 ∧ bcI (fstF σ day n) = nI c := by
  obtain ⟨m, hm, e⟩ := fst_n σ day n h
  have h14 : 2 ^ n ≤ 2 ^ 14 := Nat.pow_le_pow_right (by decide) h
  rw [e]
  exact ⟨_, fb_ct_le _ 14, bc_n (Nat.lt_of_lt_of_le hm h14)⟩
/-- the plan, of the first places: the state, the best ones, their prices -/
def plS (σ : MS) (P W : Nat) (cand : Int32) : Nat → MS × Int32 × Int32
  | 0 => (σ, 0, 0)
  | n + 1 =>
    let r := saR (saS (plS σ P W cand n).1 P W (memS cand (nI (n + 1)) 14).1 W)
    if r.1 ≤ (plS σ P W cand n).2.2 then (r.2, (plS σ P W cand n).2.1, (plS σ P W cand n).2.2) else (r.2, (memS cand (nI (n + 1)) 14).1, r.1)
theorem scr_saR (σ : MS) (P W : Nat) (ch : Int32) (n : Nat) : Scr σ (saR (saS σ P W ch n)).2 := by
  have h := Scr.sa σ P W ch n
  unfold saR
  generalize saS σ P W ch n = y at h ⊢
  cases e : y.1 with
  | none => exact h.1
  | some z => exact h.2 z e
theorem Scr.pl (σ : MS) (P W : Nat) (cand : Int32) : ∀ n, Scr σ (plS σ P W cand n).1
  | 0 => Scr.rf σ
  | n + 1 => by
    have ih := Scr.pl σ P W cand n
    unfold plS
    dsimp only
    split
    · exact ih.tr (scr_saR _ _ _ _ _)
    · exact ih.tr (scr_saR _ _ _ _ _)
def plF (σ : MS) (P W : Nat) (day : Int32) : MS × Int32 × Int32 := plS σ P W (fstF σ day W) (2 ^ (bcI (fstF σ day W)).toNatClampNeg - 1)
theorem law_T_plan {post : Int32 → MS → Prop} {pex : String → MS → Prop} {σ : MS} {P B W T : Nat} {a b : Int32} (O : Ok σ P B W T)
    (hx : (∀ d, d ≤ 365 → a ≠ nI d) → pex xIA σ)
    (h : ∀ d, d ≤ 365 → a = nI d → post (if b = 0 then (plF σ P W a).2.2 else (plF σ P W a).2.1) (plF σ P W a).1) : w_T_X7_plan post pex σ a b := by
  have hW := O.hW
  unfold w_T_X7_plan u_T_X7_plan_11
  refine ⟨fun c => hx fun d hd e => ?_, fun c => ⟨fun f => law_firstOnesOf O.h8 hW ?_, fun f => hx fun d hd e => ?_⟩⟩
  · subst e
    exact nI_pos (by omega) c
  · obtain ⟨d, hd, ed⟩ := nI_of c
    have d2 : d ≤ 365 := (nI_leI hd (by decide)).mp (show nI d ≤ nI 365 by rw [← ed]; exact f)
    have hp := h d d2 ed
    obtain ⟨cn, hc, ec⟩ := fst_bc σ a hW
    have p1 : 1 ≤ 2 ^ cn := Nat.one_le_two_pow
    have p2 : 2 ^ cn ≤ 2 ^ 14 := Nat.pow_le_pow_right (by decide) hc
    unfold plF at hp
    rw [ec, nI_clamp (by omega)] at hp
    clear h
    generalize fstF σ a W = cand at hp ec ⊢
    refine up_loop (fun k (q : (MS × Int32 × Int32) × Int32) => u_T_X7_plan_37 post pex a b k q.1.1 cand q.1.2.1 q.1.2.2 q.2) (fun i => (plS σ P W cand i, nI (i + 1))) (2 ^ cn - 1) ?_ (fun i k hi hk => ?_)
    · show u_T_X7_plan_37 post pex a b 1 (plS σ P W cand (2 ^ cn - 1)).1 cand (plS σ P W cand (2 ^ cn - 1)).2.1 (plS σ P W cand (2 ^ cn - 1)).2.2 (nI (2 ^ cn - 1 + 1))
      generalize plS σ P W cand (2 ^ cn - 1) = y at hp ⊢
      rw [u_T_X7_plan_37, Nat.sub_add_cancel p1]
      refine law_bitCount ⟨fun _ => ⟨fun e => ?_, fun e => ?_⟩, fun g => absurd ?_ g⟩
      · rw [if_pos e] at hp; exact hp
      · rw [if_neg e] at hp; exact hp
      · rw [ec, shl14 cn hc]
        exact le_self _
    · show u_T_X7_plan_37 post pex a b (k + 1) (plS σ P W cand i).1 cand (plS σ P W cand i).2.1 (plS σ P W cand i).2.2 (nI (i + 1))
      have hk : u_T_X7_plan_37 post pex a b k (plS σ P W cand (i + 1)).1 cand (plS σ P W cand (i + 1)).2.1 (plS σ P W cand (i + 1)).2.2 (nI (i + 1 + 1)) := hk
      unfold plS at hk
      dsimp only at hk
      have Ox := O.scr (Scr.pl σ P W cand i)
      generalize plS σ P W cand i = y at hk Ox ⊢
      rw [u_T_X7_plan_37]
      refine law_bitCount ⟨fun g => absurd g ?_, fun _ => law_membersAt (law_stageAll Ox ⟨fun e => ?_, fun e => ?_⟩)⟩
      · rw [ec, shl14 cn hc]
        exact nI_ge (by omega) (by omega)
      · rw [if_pos e] at hk
        rw [nI_1]
        exact hk
      · rw [if_neg e] at hk
        rw [nI_1]
        exact hk
  · subst e
    exact f (show nI d ≤ nI 365 from nI_le hd (by decide))
