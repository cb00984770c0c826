/-! LAWS: counts, stage, who is free -/
def fxw (σ : MS) (w p : Nat) : Bool := decide (σ (73 + w) 7 = 1) && bt (σ (73 + w) 8) p
theorem law_isFixedWith {post : Int32 → MS → Prop} {σ : MS} {w p : Nat} (hp : p < 32) (h : post (b01 (fxw σ w p)) σ) : w_X6_isFixedWith post σ w (nI p) := by
  unfold w_X6_isFixedWith
  unfold fxw at h
  refine ⟨fun c => law_has hp ?_, fun c => ?_⟩
  · rw [decide_eq_true c, Bool.true_and] at h
    refine ⟨fun d => ?_, fun d => ?_⟩
    · rw [b01_0.mp d] at h; exact h
    · rw [b01_1.mp d] at h; exact h
  · rw [decide_eq_false c, Bool.false_and] at h
    exact h
theorem law_countFixedWith {post : Int32 → MS → Prop} {σ : MS} {p n : Nat} (hp : p < 32) (h8 : σ 0 8 = nI n) (hn : n ≤ 14) (h : post (nI (fb_ct (fun w => fxw σ w p) n)) σ) : w_X7_countFixedWith post σ (nI p) := by
  unfold w_X7_countFixedWith
  refine up_loop (fun k (q : MS × Int32 × Int32) => u_X7_countFixedWith_4 post (nI p) k q.1 q.2.1 q.2.2) (fun i => (σ, nI (fb_ct (fun w => fxw σ w p) i), nI i)) n ?_ (fun i k hi hk => ?_)
  · show u_X7_countFixedWith_4 post (nI p) 1 σ (nI (fb_ct (fun w => fxw σ w p) n)) (nI n)
    rw [u_X7_countFixedWith_4, h8]
    exact ⟨fun _ => h, fun c => absurd (le_self _) c⟩
  · show u_X7_countFixedWith_4 post (nI p) (k + 1) σ (nI (fb_ct (fun w => fxw σ w p) i)) (nI i)
    have hk : u_X7_countFixedWith_4 post (nI p) k σ (nI (fb_ct (fun w => fxw σ w p) i + (if fxw σ i p then 1 else 0))) (nI (i + 1)) := hk
    rw [u_X7_countFixedWith_4, h8, nI_1, nI_1, nI_clamp (by omega)]
    refine ⟨fun c => absurd c (nI_ge hi (by omega)), fun _ => ⟨vp_in_nI (by omega) (by decide), law_isFixedWith hp ⟨fun c => ?_, fun c => ?_⟩⟩⟩
    · rw [b01_0.mp c] at hk; exact hk
    · rw [b01_1.mp c] at hk; exact hk
theorem law_countKnowing {post : Int32 → MS → Prop} {σ : MS} {s n : Nat} (hs : s < 32) (h6 : σ 0 6 = nI n) (hn : n ≤ 10) (h : post (nI (fb_ct (fun q => bt (σ (29 + q) 1) s) n)) σ) : w_X7_countKnowing post σ (nI s) := by
  unfold w_X7_countKnowing
  refine up_loop (fun k (q : MS × Int32 × Int32) => u_X7_countKnowing_4 post (nI s) k q.1 q.2.1 q.2.2) (fun i => (σ, nI (fb_ct (fun q => bt (σ (29 + q) 1) s) i), nI i)) n ?_ (fun i k hi hk => ?_)
  · show u_X7_countKnowing_4 post (nI s) 1 σ (nI (fb_ct (fun q => bt (σ (29 + q) 1) s) n)) (nI n)
    rw [u_X7_countKnowing_4, h6]
    exact ⟨fun _ => h, fun c => absurd (le_self _) c⟩
  · show u_X7_countKnowing_4 post (nI s) (k + 1) σ (nI (fb_ct (fun q => bt (σ (29 + q) 1) s) i)) (nI i)
    have hk : u_X7_countKnowing_4 post (nI s) k σ (nI (fb_ct (fun q => bt (σ (29 + q) 1) s) i + (if bt (σ (29 + i) 1) s then 1 else 0))) (nI (i + 1)) := hk
    rw [u_X7_countKnowing_4, h6, nI_1, nI_1, nI_clamp (by omega)]
    refine ⟨fun c => absurd c (nI_ge hi (by omega)), fun _ => ⟨vp_in_nI (by omega) (by decide), law_has hs ⟨fun c => ?_, fun c => ?_⟩⟩⟩
    · rw [b01_0.mp c] at hk; exact hk
    · rw [b01_1.mp c] at hk; exact hk
def ofBd (σ : MS) (a b : Int32) (w : Nat) : Bool := decide (σ (73 + w) 0 = a ∧ (b = 0 ∨ σ (73 + w) 7 = 2))
theorem law_countOfBand {post : Int32 → MS → Prop} {σ : MS} {a b : Int32} {n : Nat} (h8 : σ 0 8 = nI n) (hn : n ≤ 14) (h : post (nI (fb_ct (ofBd σ a b) n)) σ) : w_X7_countOfBand post σ a b := by
  unfold w_X7_countOfBand
  refine up_loop (fun k (q : MS × Int32 × Int32) => u_X7_countOfBand_5 post a b k q.1 q.2.1 q.2.2) (fun i => (σ, nI (fb_ct (ofBd σ a b) i), nI i)) n ?_ (fun i k hi hk => ?_)
  · show u_X7_countOfBand_5 post a b 1 σ (nI (fb_ct (ofBd σ a b) n)) (nI n)
    rw [u_X7_countOfBand_5, h8]
    exact ⟨fun _ => h, fun c => absurd (le_self _) c⟩
  · show u_X7_countOfBand_5 post a b (k + 1) σ (nI (fb_ct (ofBd σ a b) i)) (nI i)
    have hk : u_X7_countOfBand_5 post a b k σ (nI (fb_ct (ofBd σ a b) i + (if ofBd σ a b i then 1 else 0))) (nI (i + 1)) := hk
    unfold ofBd at hk ⊢
    rw [u_X7_countOfBand_5, h8, nI_1, nI_1, nI_clamp (by omega)]
    refine ⟨fun c => absurd c (nI_ge hi (by omega)), fun _ => ⟨vp_in_nI (by omega) (by decide), fun c => ⟨fun d => ?_, fun d => ⟨vp_in_nI (by omega) (by decide), fun e => ?_, fun e => ?_⟩⟩, fun c => ?_⟩⟩
    · rw [decide_eq_true (⟨c, Or.inl d⟩ : _ ∧ _)] at hk; exact hk
    · rw [decide_eq_true (⟨c, Or.inr e⟩ : _ ∧ _)] at hk; exact hk
    · rw [decide_eq_false (fun q => q.2.elim d e)] at hk; exact hk
    · rw [decide_eq_false (fun q => c q.1)] at hk; exact hk
theorem law_countFeuds {post : Int32 → MS → Prop} {σ : MS} {n : Nat} (h6 : σ 0 6 = nI n) (hn : n ≤ 10) (h : post (sumI (fun p => bcI (σ (29 + p) 4)) n / 2) σ) : w_X7_countFeuds post σ := by
  unfold w_X7_countFeuds
  refine up_loop (fun k (q : MS × Int32 × Int32) => u_X7_countFeuds_4 post k q.1 q.2.1 q.2.2) (fun i => (σ, sumI (fun p => bcI (σ (29 + p) 4)) i, nI i)) n ?_ (fun i k hi hk => ?_)
  · show u_X7_countFeuds_4 post 1 σ (sumI (fun p => bcI (σ (29 + p) 4)) n) (nI n)
    rw [u_X7_countFeuds_4, h6]
    exact ⟨fun _ => h, fun c => absurd (le_self _) c⟩
  · show u_X7_countFeuds_4 post (k + 1) σ (sumI (fun p => bcI (σ (29 + p) 4)) i) (nI i)
    rw [u_X7_countFeuds_4, h6, nI_1, nI_clamp (by omega)]
    exact ⟨fun c => absurd c (nI_ge hi (by omega)), fun _ => ⟨vp_in_nI (by omega) (by decide), law_bitCount hk⟩⟩
theorem law_countDaysOff {post : Int32 → MS → Prop} {σ : MS} (h : post (sumI (fun d => bcI (σ 6 d)) 366) σ) : w_X7_countDaysOff post σ := by
  unfold w_X7_countDaysOff
  refine up_loop (fun k (q : MS × Int32 × Int32) => u_X7_countDaysOff_4 post k q.1 q.2.1 q.2.2) (fun i => (σ, sumI (fun d => bcI (σ 6 d)) i, nI i)) 366 ?_ (fun i k hi hk => ?_)
  · show u_X7_countDaysOff_4 post 1 σ (sumI (fun d => bcI (σ 6 d)) 366) (nI 366)
    rw [u_X7_countDaysOff_4]
    exact ⟨fun _ => h, fun c => absurd (show (365 : Int32) < nI 366 by decide) c⟩
  · show u_X7_countDaysOff_4 post (k + 1) σ (sumI (fun d => bcI (σ 6 d)) i) (nI i)
    rw [u_X7_countDaysOff_4, nI_1, nI_clamp (by omega)]
    exact ⟨fun c => absurd (show nI 365 < nI i from c) (nI_nlt (by omega) (by decide)), fun _ => ⟨vp_in_nI (by omega) (by decide), law_bitCount hk⟩⟩
theorem law_allEarned {post : Int32 → MS → Prop} {σ : MS} {n : Nat} (h6 : σ 0 6 = nI n) (hn : n ≤ 10) (h : post (sumI (fun p => σ (29 + p) 5) n) σ) : w_X7_allEarned post σ := by
  unfold w_X7_allEarned
  refine up_loop (fun k (q : MS × Int32 × Int32) => u_X7_allEarned_4 post k q.1 q.2.1 q.2.2) (fun i => (σ, sumI (fun p => σ (29 + p) 5) i, nI i)) n ?_ (fun i k hi hk => ?_)
  · show u_X7_allEarned_4 post 1 σ (sumI (fun p => σ (29 + p) 5) n) (nI n)
    rw [u_X7_allEarned_4, h6]
    exact ⟨fun _ => h, fun c => absurd (le_self _) c⟩
  · show u_X7_allEarned_4 post (k + 1) σ (sumI (fun p => σ (29 + p) 5) i) (nI i)
    rw [u_X7_allEarned_4, h6, nI_1, nI_clamp (by omega)]
    exact ⟨fun c => absurd c (nI_ge hi (by omega)), fun _ => ⟨vp_in_nI (by omega) (by decide), hk⟩⟩
def mxI (f : Nat → Int32) (m : Int32) : Nat → Int32
  | 0 => m
  | n + 1 => if mxI f m n < f n then f n else mxI f m n
def mnI (f : Nat → Int32) (m : Int32) : Nat → Int32
  | 0 => m
  | n + 1 => if f n < mnI f m n then f n else mnI f m n
def gapF (σ : MS) (n : Nat) : Int32 := mxI (fun p => σ (29 + p) 7) 0 n - mnI (fun p => σ (29 + p) 7) (if n = 0 then 0 else σ 29 7) n
theorem law_gapOfHours {post : Int32 → MS → Prop} {σ : MS} {n : Nat} (h6 : σ 0 6 = nI n) (hn : n ≤ 10) (h : post (gapF σ n) σ) : w_X7_gapOfHours post σ := by
  have key : ∀ m0 : Int32, post (mxI (fun p => σ (29 + p) 7) 0 n - mnI (fun p => σ (29 + p) 7) m0 n) σ → ∃ k, u_X7_gapOfHours_25 post k σ 0 m0 0 := by
    intro m0 h
    refine up_loop (fun k (q : MS × Int32 × Int32 × Int32) => u_X7_gapOfHours_25 post k q.1 q.2.1 q.2.2.1 q.2.2.2) (fun i => (σ, mxI (fun p => σ (29 + p) 7) 0 i, mnI (fun p => σ (29 + p) 7) m0 i, nI i)) n ?_ (fun i k hi hk => ?_)
    · show u_X7_gapOfHours_25 post 1 σ (mxI (fun p => σ (29 + p) 7) 0 n) (mnI (fun p => σ (29 + p) 7) m0 n) (nI n)
      rw [u_X7_gapOfHours_25, h6]
      exact ⟨fun _ => h, fun c => absurd (le_self _) c⟩
    · show u_X7_gapOfHours_25 post (k + 1) σ (mxI (fun p => σ (29 + p) 7) 0 i) (mnI (fun p => σ (29 + p) 7) m0 i) (nI i)
      rw [u_X7_gapOfHours_25, h6, nI_1, nI_clamp (by omega)]
      exact ⟨fun c => absurd c (nI_ge hi (by omega)), fun _ => ⟨vp_in_nI (by omega) (by decide), vp_in_nI (by omega) (by decide), hk⟩⟩
  unfold w_X7_gapOfHours
  unfold gapF at h
  rw [h6]
  refine ⟨fun c => ?_, fun c => ⟨(by show ¬ ((0 : Int32) < 0 ∨ 10 ≤ (0 : Int32).toNatClampNeg); decide), ?_⟩⟩
  · have hz : n = 0 := (nI_eq (by omega) (by decide)).mp (c.trans nI_0.symm)
    rw [if_pos hz] at h
    exact key 0 h
  · have hz : ¬ n = 0 := fun q => c (by rw [q]; exact nI_0)
    rw [if_neg hz] at h
    exact key _ h
def shAll (σ : MS) : Int32 := sumI (fun s => σ (39 + s) 2 * σ (39 + s) 3) 16
def shareF (σ : MS) (s : Nat) : Int32 := if shAll σ = 0 then 0 else ((σ (39 + s) 2 * σ (39 + s) 3) * 1000) / shAll σ
theorem law_shareOf {post : Int32 → MS → Prop} {σ : MS} {s : Nat} (h : post (shareF σ s) σ) : w_X7_shareOf post σ s := by
  unfold w_X7_shareOf
  refine up_loop (fun k (q : MS × Int32 × Int32) => u_X7_shareOf_4 post s k q.1 q.2.1 q.2.2) (fun i => (σ, sumI (fun s => σ (39 + s) 2 * σ (39 + s) 3) i, nI i)) 16 ?_ (fun i k hi hk => ?_)
  · show u_X7_shareOf_4 post s 1 σ (shAll σ) (nI 16)
    unfold shareF at h
    rw [u_X7_shareOf_4]
    refine ⟨fun _ => ⟨fun c => ?_, fun c => ⟨c, ?_⟩⟩, fun c => absurd (show (16 : Int32) ≤ nI 16 by decide) c⟩
    · rw [if_pos c] at h; exact h
    · rw [if_neg c] at h; exact h
  · show u_X7_shareOf_4 post s (k + 1) σ (sumI (fun s => σ (39 + s) 2 * σ (39 + s) 3) i) (nI i)
    rw [u_X7_shareOf_4, nI_1, nI_clamp (by omega)]
    exact ⟨fun c => absurd (show nI 16 ≤ nI i from c) (nI_ge hi (by decide)), fun _ => ⟨vp_in_nI (by omega) (by decide), vp_in_nI (by omega) (by decide), hk⟩⟩
/-- who plays as it is fixed, the first n of stage -/
def stg (σ : MS) (n : Nat) : MS := fun k j => if k = 7 ∧ j < n then (if σ (73 + j) 7 = 1 then σ (73 + j) 8 else 0) else σ k j
theorem stg_0 (σ : MS) : stg σ 0 = σ := by
  funext k j
  exact if_neg (by omega)
theorem stg_k {σ : MS} {n k : Nat} (h : k ≠ 7) : stg σ n k = σ k := by
  funext j
  exact if_neg (fun q => h q.1)
theorem stg_s (σ : MS) (n : Nat) : stg σ (n + 1) = up2 (stg σ n) 7 n (if σ (73 + n) 7 = 1 then σ (73 + n) 8 else 0) := by
  funext k j
  by_cases hk : k = 7
  · subst hk
    rw [up2_eq]
    unfold upd stg
    by_cases hj : j = n
    · subst hj
      rw [if_pos ⟨rfl, by omega⟩, if_pos rfl]
    · rw [if_neg hj]
      by_cases h2 : j < n
      · rw [if_pos (show (7 : Nat) = 7 ∧ j < n + 1 from ⟨rfl, by omega⟩), if_pos (show (7 : Nat) = 7 ∧ j < n from ⟨rfl, h2⟩)]
      · rw [if_neg (fun q => absurd q.2 (by omega)), if_neg (fun q => h2 q.2)]
  · rw [up2_ne hk, stg_k hk, stg_k hk]
theorem law_stageAsFixed {post : MS → Prop} {σ : MS} {n : Nat} (h8 : σ 0 8 = nI n) (hn : n ≤ 14) (h : post (stg σ n)) : w_X7_stageAsFixed post σ := by
  unfold w_X7_stageAsFixed
  have hl := up_loop (fun k (q : MS × Int32) => u_X7_stageAsFixed_2 post k q.1 q.2) (fun i => (stg σ i, nI i)) n ?_ (fun i k hi hk => ?_)
  · have hl : ∃ k, u_X7_stageAsFixed_2 post k (stg σ 0) 0 := hl
    rw [stg_0] at hl
    exact hl
  · show u_X7_stageAsFixed_2 post 1 (stg σ n) (nI n)
    rw [u_X7_stageAsFixed_2, stg_k (by decide), h8]
    exact ⟨fun _ => h, fun c => absurd (le_self _) c⟩
  · show u_X7_stageAsFixed_2 post (k + 1) (stg σ i) (nI i)
    have hk : u_X7_stageAsFixed_2 post k (stg σ (i + 1)) (nI (i + 1)) := hk
    rw [stg_s] at hk
    rw [u_X7_stageAsFixed_2, nI_1, nI_clamp (by omega), stg_k (k := 0) (by decide), stg_k (k := 73 + i) (by omega), h8]
    have v : vp_in (nI i) 14 := vp_in_nI (by omega) (by decide)
    refine ⟨fun c => absurd c (nI_ge hi (by omega)), fun _ => ⟨v, fun c => ⟨v, v, ?_⟩, fun c => ⟨v, ?_⟩⟩⟩
    · rw [if_pos c] at hk; exact hk
    · rw [if_neg c] at hk; exact hk
/-- those who waited too long are lost, of the first n -/
def waitL (σ : MS) (n : Nat) : MS := fun k j => if 73 ≤ k ∧ k < 73 + n ∧ σ k 7 = 0 ∧ ¬ σ 0 9 < σ k 6 + 5 ∧ j = 7 then 3 else σ k j
theorem waitL_0 (σ : MS) : waitL σ 0 = σ := by
  funext k j
  exact if_neg (by omega)
theorem waitL_k {σ : MS} {n k : Nat} (h : ¬ (73 ≤ k ∧ k < 73 + n)) : waitL σ n k = σ k := by
  funext j
  exact if_neg (fun q => h ⟨q.1, q.2.1⟩)
theorem waitL_s (σ : MS) (n : Nat) : waitL σ (n + 1) = if σ (73 + n) 7 = 0 ∧ ¬ σ 0 9 < σ (73 + n) 6 + 5 then up2 (waitL σ n) (73 + n) 7 3 else waitL σ n := by
  by_cases h : σ (73 + n) 7 = 0 ∧ ¬ σ 0 9 < σ (73 + n) 6 + 5
  · rw [if_pos h]
    funext k j
    by_cases hk : k = 73 + n
    · subst hk
      rw [up2_eq]
      unfold upd waitL
      by_cases hj : j = 7
      · rw [if_pos hj, if_pos ⟨by omega, by omega, h.1, h.2, hj⟩]
      · rw [if_neg hj, if_neg (fun q => hj q.2.2.2.2), if_neg (fun q => hj q.2.2.2.2)]
    · rw [up2_ne hk]
      unfold waitL
      by_cases q : 73 ≤ k ∧ k < 73 + n ∧ σ k 7 = 0 ∧ ¬ σ 0 9 < σ k 6 + 5 ∧ j = 7
      · rw [if_pos q, if_pos ⟨q.1, by omega, q.2.2⟩]
      · rw [if_neg q, if_neg (fun z => q ⟨z.1, by omega, z.2.2⟩)]
  · rw [if_neg h]
    funext k j
    unfold waitL
    by_cases q : 73 ≤ k ∧ k < 73 + n ∧ σ k 7 = 0 ∧ ¬ σ 0 9 < σ k 6 + 5 ∧ j = 7
    · rw [if_pos q, if_pos ⟨q.1, by omega, q.2.2⟩]
    · rw [if_neg q, if_neg (fun z => ?_)]
      by_cases hk : k = 73 + n
      · subst hk
        exact h ⟨z.2.2.1, z.2.2.2.1⟩
      · exact q ⟨z.1, by omega, z.2.2⟩
theorem law_loseThoseWhoWaited {post : MS → Prop} {σ : MS} {n : Nat} (h8 : σ 0 8 = nI n) (hn : n ≤ 14) (h : post (waitL σ n)) : w_X7_loseThoseWhoWaited post σ := by
  unfold w_X7_loseThoseWhoWaited
  have hl := up_loop (fun k (q : MS × Int32) => u_X7_loseThoseWhoWaited_2 post k q.1 q.2) (fun i => (waitL σ i, nI i)) n ?_ (fun i k hi hk => ?_)
  · have hl : ∃ k, u_X7_loseThoseWhoWaited_2 post k (waitL σ 0) 0 := hl
    rw [waitL_0] at hl
    exact hl
  · show u_X7_loseThoseWhoWaited_2 post 1 (waitL σ n) (nI n)
    rw [u_X7_loseThoseWhoWaited_2, waitL_k (k := 0) (by omega), h8]
    exact ⟨fun _ => h, fun c => absurd (le_self _) c⟩
  · show u_X7_loseThoseWhoWaited_2 post (k + 1) (waitL σ i) (nI i)
    have hk : u_X7_loseThoseWhoWaited_2 post k (waitL σ (i + 1)) (nI (i + 1)) := hk
    rw [waitL_s] at hk
    rw [u_X7_loseThoseWhoWaited_2, nI_1, nI_clamp (by omega), waitL_k (k := 0) (by omega), waitL_k (k := 73 + i) (by omega), h8]
    have v : vp_in (nI i) 14 := vp_in_nI (by omega) (by decide)
    refine ⟨fun c => absurd c (nI_ge hi (by omega)), fun _ => ⟨v, fun c => ⟨v, fun d => ?_, fun d => ⟨v, ?_⟩⟩, fun c => ?_⟩⟩
    · rw [if_neg (fun q => q.2 d)] at hk; exact hk
    · rw [if_pos ⟨c, d⟩] at hk; exact hk
    · rw [if_neg (fun q => c q.1)] at hk; exact hk
