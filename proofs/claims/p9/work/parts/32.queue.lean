/-! LAWS OF THE CLASS'S METHODS, of numbers alone: queues, counts by state -/
/-- two asked ones of one band and day -/
def inQ (σ : MS) (a b : Nat) : Bool := decide (σ (73 + a) 7 = 0 ∧ σ (73 + b) 7 = 0 ∧ σ (73 + a) 0 = σ (73 + b) 0 ∧ σ (73 + a) 1 = σ (73 + b) 1)
abbrev b01 (b : Bool) : Int32 := if b then 1 else 0
theorem b01_0 {b : Bool} : b01 b = 0 ↔ b = false := by cases b <;> decide
theorem law_areInOneQueue {post : Int32 → MS → Prop} {σ : MS} {a b : Nat} (ha : a < 14) (hb : b < 14) (h : post (b01 (inQ σ a b)) σ) : w_X7_areInOneQueue post σ (nI a) (nI b) := by
  unfold w_X7_areInOneQueue
  rw [nI_clamp (by omega), nI_clamp (by omega)]
  unfold inQ at h
  refine ⟨vp_in_nI ha (by decide), vp_in_nI hb (by decide), fun c1 => ⟨fun c2 => ⟨fun c3 => ⟨fun c4 => ?_, fun c4 => ?_⟩, fun c3 => ?_⟩, fun c2 => ?_⟩, fun c1 => ?_⟩
  · rw [decide_eq_true (⟨c1, c2, c3, c4⟩ : _ ∧ _ ∧ _ ∧ _)] at h; exact h
  · rw [decide_eq_false (fun q => c4 q.2.2.2)] at h; exact h
  · rw [decide_eq_false (fun q => c3 q.2.2.1)] at h; exact h
  · rw [decide_eq_false (fun q => c2 q.2.1)] at h; exact h
  · rw [decide_eq_false (fun q => c1 q.1)] at h; exact h
def ahead (σ : MS) (a : Nat) : Nat := fb_ct (fun w => inQ σ w a) a
def pq (σ : MS) (a : Nat) : Int32 := if σ (73 + a) 7 = 0 then nI (ahead σ a) else -1
theorem law_placeInQueue {post : Int32 → MS → Prop} {σ : MS} {a : Nat} (ha : a < 14) (h : post (pq σ a) σ) : w_X7_placeInQueue post σ (nI a) := by
  unfold w_X7_placeInQueue
  rw [nI_clamp (by omega)]
  unfold pq at h
  refine ⟨vp_in_nI ha (by decide), fun c1 => ⟨a + 1, ?_⟩, fun c1 => ?_⟩
  · rw [if_pos c1] at h
    have key : ∀ d i, i + d = a → u_X7_placeInQueue_18 post (nI a) (d + 1) σ (nI (fb_ct (fun w => inQ σ w a) i)) (nI i) := by
      intro d
      induction d with
      | zero =>
        intro i hi
        obtain rfl : i = a := by omega
        rw [u_X7_placeInQueue_18]
        exact ⟨fun _ => h, fun c => absurd (Int32.le_refl _) c⟩
      | succ d ih =>
        intro i hi
        rw [u_X7_placeInQueue_18]
        refine ⟨fun c => absurd c (nI_ge (by omega) (by omega)), fun _ => law_areInOneQueue (by omega) ha ?_⟩
        have h2 := ih (i + 1) (by omega)
        rw [fb_ct_succ] at h2
        rw [nI_1, nI_1]
        refine ⟨fun c => ?_, fun c => ?_⟩
        · rw [b01_0.mp c] at h2; exact h2
        · have c2 : inQ σ i a = true := by
            cases q : inQ σ i a with
            | true => rfl
            | false => exact absurd (b01_0.mpr q) c
          rw [c2] at h2; exact h2
    exact key a 0 (by omega)
  · rw [if_neg c1] at h
    exact h
def isFst (σ : MS) (a : Nat) : Bool := decide (σ (73 + a) 7 = 0 ∧ ahead σ a = 0)
theorem ahead_le (σ : MS) (a : Nat) : ahead σ a ≤ a := fb_ct_le _ _
theorem law_isFirst {post : Int32 → MS → Prop} {σ : MS} {a : Nat} (ha : a < 14) (h : post (b01 (isFst σ a)) σ) : w_X7_isFirst post σ (nI a) := by
  refine law_placeInQueue ha ?_
  have hle := ahead_le σ a
  unfold pq
  unfold isFst at h
  by_cases c1 : σ (73 + a) 7 = 0
  · rw [if_pos c1]
    by_cases c2 : ahead σ a = 0
    · rw [decide_eq_true (⟨c1, c2⟩ : _ ∧ _)] at h
      rw [c2]
      exact ⟨fun _ => h, fun c => absurd nI_0 c⟩
    · rw [decide_eq_false (fun q => c2 q.2)] at h
      exact ⟨fun c => absurd c (nI_ne0 (by omega) (by omega)), fun _ => h⟩
  · rw [if_neg c1]
    rw [decide_eq_false (fun q => c1 q.1)] at h
    exact ⟨fun c => absurd c (by decide), fun _ => h⟩
/-- those ahead of i that stood in a's queue are lost -/
def loseQ (σ : MS) (a i : Nat) : MS := fun k j => if 73 ≤ k ∧ k < 73 + i ∧ k ≠ 73 + a ∧ inQ σ (k - 73) a = true ∧ j = 7 then 3 else σ k j
theorem loseQ_0 (σ : MS) (a : Nat) : loseQ σ a 0 = σ := by
  funext k j
  unfold loseQ
  rw [if_neg (by omega)]
theorem loseQ_s (σ : MS) (a i : Nat) : loseQ σ a (i + 1) = if i ≠ a ∧ inQ σ i a = true then up2 (loseQ σ a i) (73 + i) 7 3 else loseQ σ a i := by
  by_cases h : i ≠ a ∧ inQ σ i a = true
  · rw [if_pos h]
    funext k j
    by_cases hk : k = 73 + i
    · subst hk
      rw [up2_eq]
      unfold upd loseQ
      have e : 73 + i - 73 = i := by omega
      rw [e]
      by_cases hj : j = 7
      · rw [if_pos hj, if_pos ⟨by omega, by omega, by omega, h.2, hj⟩]
      · rw [if_neg hj, if_neg (fun q => hj q.2.2.2.2), if_neg (fun q => hj q.2.2.2.2)]
    · rw [up2_ne hk]
      unfold loseQ
      by_cases q : 73 ≤ k ∧ k < 73 + i ∧ k ≠ 73 + a ∧ inQ σ (k - 73) a = true ∧ j = 7
      · rw [if_pos q, if_pos ⟨q.1, by omega, q.2.2⟩]
      · rw [if_neg q, if_neg (fun z => q ⟨z.1, by omega, z.2.2⟩)]
  · rw [if_neg h]
    funext k j
    unfold loseQ
    by_cases q : 73 ≤ k ∧ k < 73 + i ∧ k ≠ 73 + a ∧ inQ σ (k - 73) a = true ∧ j = 7
    · rw [if_pos q, if_pos ⟨q.1, by omega, q.2.2⟩]
    · rw [if_neg q, if_neg (fun z => ?_)]
      by_cases hk : k = 73 + i
      · subst hk
        have e : 73 + i - 73 = i := by omega
        rw [e] at z
        exact h ⟨by omega, z.2.2.2.1⟩
      · exact q ⟨z.1, by omega, z.2.2⟩
theorem loseQ_inQ (σ : MS) (a i : Nat) : inQ (loseQ σ a i) i a = inQ σ i a := by
  have e1 : ∀ j, loseQ σ a i (73 + i) j = σ (73 + i) j := fun j => if_neg (by omega)
  have e2 : ∀ j, loseQ σ a i (73 + a) j = σ (73 + a) j := fun j => if_neg (by omega)
  unfold inQ
  rw [e1, e1, e1, e2, e2, e2]
theorem law_loseQueueOf {post : MS → Prop} {σ : MS} {a n : Nat} (h8 : σ 0 8 = nI n) (hn : n ≤ 14) (ha : a < 14) (h : post (loseQ σ a n)) : w_X7_loseQueueOf post σ (nI a) := by
  refine ⟨n + 1, ?_⟩
  have key : ∀ d i, i + d = n → u_X7_loseQueueOf_2 post (nI a) (d + 1) (loseQ σ a i) (nI i) := by
    intro d
    induction d with
    | zero =>
      intro i hi
      obtain rfl : i = n := by omega
      rw [u_X7_loseQueueOf_2]
      exact ⟨fun _ => h, fun c => absurd (by rw [show loseQ σ a i 0 8 = σ 0 8 from if_neg (by omega), h8]; exact Int32.le_refl _) c⟩
    | succ d ih =>
      intro i hi
      have h2 := ih (i + 1) (by omega)
      rw [loseQ_s] at h2
      rw [u_X7_loseQueueOf_2, show loseQ σ a i 0 8 = σ 0 8 from if_neg (by omega), h8, nI_1, nI_clamp (by omega)]
      refine ⟨fun c => absurd c (nI_ge (by omega) (by omega)), fun _ => ⟨fun c => ?_, fun c => law_areInOneQueue (by omega) ha ⟨fun c2 => ?_, fun c2 => ⟨vp_in_nI (by omega) (by decide), ?_⟩⟩⟩⟩
      · have c3 : i = a := (nI_eq (by omega) (by omega)).mp c
        rw [if_neg (fun q => q.1 c3)] at h2
        exact h2
      · rw [loseQ_inQ] at c2
        rw [if_neg (fun q => by rw [b01_0.mp c2] at q; exact Bool.false_ne_true q.2)] at h2
        exact h2
      · rw [loseQ_inQ] at c2
        have c3 : inQ σ i a = true := by
          cases q : inQ σ i a with
          | true => rfl
          | false => exact absurd (b01_0.mpr q) c2
        rw [if_pos ⟨fun q => c (by rw [q]), c3⟩] at h2
        exact h2
  have := key n 0 (by omega)
  rw [loseQ_0] at this
  exact this
theorem law_countInState {post : Int32 → MS → Prop} {σ : MS} {a : Int32} {n : Nat} (h8 : σ 0 8 = nI n) (hn : n ≤ 14) (h : post (nI (fb_ct (fun w => decide (σ (73 + w) 7 = a)) n)) σ) : w_X7_countInState post σ a := by
  refine ⟨n + 1, ?_⟩
  have key : ∀ d i, i + d = n → u_X7_countInState_4 post a (d + 1) σ (nI (fb_ct (fun w => decide (σ (73 + w) 7 = a)) i)) (nI i) := by
    intro d
    induction d with
    | zero =>
      intro i hi
      obtain rfl : i = n := by omega
      rw [u_X7_countInState_4]
      exact ⟨fun _ => h, fun c => absurd (by rw [h8]; exact Int32.le_refl _) c⟩
    | succ d ih =>
      intro i hi
      have h2 := ih (i + 1) (by omega)
      rw [fb_ct_succ] at h2
      rw [u_X7_countInState_4, h8, nI_1, nI_1, nI_clamp (by omega)]
      refine ⟨fun c => absurd c (nI_ge (by omega) (by omega)), fun _ => ⟨vp_in_nI (by omega) (by decide), fun c => ?_, fun c => ?_⟩⟩
      · rw [decide_eq_true c] at h2; exact h2
      · rw [decide_eq_false c] at h2; exact h2
  exact key n 0 (by omega)
