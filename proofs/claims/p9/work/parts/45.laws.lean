/-! LAWS: the best set of songs: the row -/
def ps (n : Nat) (v : Int32) : Prop := v = -1 ∨ ∃ j, j < n ∧ v = nI j
theorem ps_vp {n : Nat} {v : Int32} (hn : n ≤ 16) (h : ps n v) (h2 : ¬ v = -1) : vp_in v 16 := by
  rcases h with h | ⟨j, hj, rfl⟩
  · exact absurd h h2
  · exact vp_in_nI (by omega) (by decide)
def bsF (σ : MS) (k : Nat) (b : Int32) : Int32 := if b = -1 then nI k else if σ 13 k ≤ σ 13 b.toNatClampNeg then (if σ 13 k = σ 13 b.toNatClampNeg then (if σ 12 b.toNatClampNeg ≤ σ 12 k then b else nI k) else b) else nI k
theorem bsF_ps {σ : MS} {n k : Nat} {b : Int32} (hk : k < n) (hb : ps n b) : ps n (bsF σ k b) := by
  unfold bsF
  have a : ps n (nI k) := Or.inr ⟨k, hk, rfl⟩
  split
  · exact a
  · split
    · split
      · split
        · exact hb
        · exact a
      · exact hb
    · exact a
theorem law_betterStart {post : Int32 → MS → Prop} {σ : MS} {n k : Nat} {b : Int32} (hn : n ≤ 16) (hk : k < n) (hb : ps n b) (h : post (bsF σ k b) σ) : w_X1_betterStart post σ (nI k) b := by
  unfold w_X1_betterStart
  unfold bsF at h
  rw [nI_clamp (by omega)]
  have v1 : vp_in (nI k) 16 := vp_in_nI (by omega) (by decide)
  refine ⟨fun c => ?_, fun c => ?_⟩
  · rw [if_pos c] at h; exact h
  · have v2 := ps_vp hn hb c
    rw [if_neg c] at h
    refine ⟨v1, v2, fun d => ⟨v1, v2, fun e => ⟨v1, v2, fun f => ?_, fun f => ?_⟩, fun e => ?_⟩, fun d => ?_⟩
    · rw [if_pos d, if_pos e, if_pos f] at h; exact h
    · rw [if_pos d, if_pos e, if_neg f] at h; exact h
    · rw [if_pos d, if_neg e] at h; exact h
    · rw [if_neg d] at h; exact h
def ordN (σ : MS) (k : Nat) : Nat := (σ 12 k).toNatClampNeg
def apart (σ : MS) (a b : Nat) : Int32 := if 0 ≤ σ (39 + a) 0 - σ (39 + b) 0 then σ (39 + a) 0 - σ (39 + b) 0 else 0 - (σ (39 + a) 0 - σ (39 + b) 0)
def fits2 (σ : MS) (a b : Nat) : Bool := decide (apart σ a b ≤ 2 ∨ ¬ apart σ a b < 10)
theorem law_fitsBeside {post : Int32 → MS → Prop} {σ : MS} {a b : Nat} (h : post (b01 (fits2 σ a b)) σ) : w_X5_fitsBeside post σ a b := by
  unfold w_X5_fitsBeside
  unfold fits2 apart at h
  refine ⟨fun c => ?_, fun c => ⟨fun d => ?_, fun d => ?_⟩⟩
  · rw [decide_eq_true (Or.inl c)] at h; exact h
  · rw [decide_eq_false (fun q => q.elim c (fun z => z d))] at h; exact h
  · rw [decide_eq_true (Or.inr d)] at h; exact h
/-- the best that goes on behind place p, of the m places next to it -/
def nv (σ : MS) (p : Nat) : Nat → Int32
  | 0 => -1
  | m + 1 => if fits2 σ (ordN σ p) (ordN σ (p + 1 + m)) = true then bsF σ (p + 1 + m) (nv σ p m) else nv σ p m
theorem nv_ps {σ : MS} {n p : Nat} : ∀ m, p + 1 + m ≤ n → ps n (nv σ p m)
  | 0, _ => Or.inl rfl
  | m + 1, h => by
    unfold nv
    split
    · exact bsF_ps (by omega) (nv_ps m (by omega))
    · exact nv_ps m (by omega)
def chV (x : MS) (p d : Nat) : MS := up2 (up2 x 14 p (nv x p d)) 13 p (x (39 + ordN x p) 2 + (if nv x p d = -1 then 0 else x 13 (nv x p d).toNatClampNeg))
/-- from the end on, the last d places -/
def chS (σ : MS) (n : Nat) : Nat → MS
  | 0 => σ
  | d + 1 => chV (chS σ n d) (n - 1 - d) d
theorem chS_k {σ : MS} {n k : Nat} (h : k ≠ 13) (h2 : k ≠ 14) : ∀ d, chS σ n d k = σ k
  | 0 => rfl
  | d + 1 => by
    unfold chS chV
    rw [up2_ne h, up2_ne h2]
    exact chS_k h h2 d
theorem chS_ps {σ : MS} {n : Nat} : ∀ d, d ≤ n → ∀ j, n - d ≤ j → j < n → ps n (chS σ n d 14 j)
  | 0, _, j, h1, h2 => absurd h2 (by omega)
  | d + 1, hd, j, h1, h2 => by
    unfold chS chV
    rw [up2_at (by omega)]
    by_cases q : j = n - 1 - d
    · subst q
      rw [up2_same]
      exact nv_ps d (by omega)
    · rw [up2_at (by omega)]
      exact chS_ps d (by omega) j (by omega) h2
theorem add_m1 (x : Int32) : x + -1 = x - 1 := (Int32.sub_eq_add_neg x 1).symm
theorem law_ch39 {post : MS → Prop} {a2 : Int32} {K : MS → Int32 → Prop} {x : MS} {n p d : Nat} (hn : n ≤ 16) (h6 : x 10 6 = nI n) (hO : ∀ k, k < n → vp_in (x 12 k) 16) (hp : p + 1 + d = n) (h : K (chV x p d) (nI p - 1)) : ∃ k, u_X1_choose_39 post a2 K k (up2 x 14 p (-1)) (nI p) (ordN x p) (nI (p + 1)) := by
  have vp : vp_in (nI p) 16 := vp_in_nI (by omega) (by decide)
  refine up_loop (fun k (q : MS × Int32) => u_X1_choose_39 post a2 K k q.1 (nI p) (ordN x p) q.2) (fun i => (up2 x 14 p (nv x p i), nI (p + 1 + i))) d ?_ (fun i k hi hk => ?_)
  · show u_X1_choose_39 post a2 K 1 (up2 x 14 p (nv x p d)) (nI p) (ordN x p) (nI (p + 1 + d))
    have hps : ps n (nv x p d) := nv_ps d (by omega)
    unfold chV at h
    rw [u_X1_choose_39, up2_at (k' := 10) (by omega), h6, hp, nI_clamp (by omega), up2_same, up2_at (k' := 39 + ordN x p) (by omega), add_m1]
    refine ⟨fun _ => ⟨vp, fun c => ⟨vp, ?_⟩, fun c => ⟨vp, ps_vp hn hps c, vp, ?_⟩⟩, fun c => absurd (le_self _) c⟩
    · rw [if_pos c] at h; exact h
    · rw [if_neg c] at h
      rw [up2_at (k' := 13) (by omega)]
      exact h
  · show u_X1_choose_39 post a2 K (k + 1) (up2 x 14 p (nv x p i)) (nI p) (ordN x p) (nI (p + 1 + i))
    have hk : u_X1_choose_39 post a2 K k (up2 x 14 p (nv x p (i + 1))) (nI p) (ordN x p) (nI (p + 1 + i + 1)) := hk
    have hps : ps n (nv x p i) := nv_ps i (by omega)
    unfold nv at hk
    have b12 : up2 x 14 p (nv x p i) 12 = x 12 := up2_ne (by decide)
    have b13 : up2 x 14 p (nv x p i) 13 = x 13 := up2_ne (by decide)
    have bsg : ∀ s, s < 16 → up2 x 14 p (nv x p i) (39 + s) = x (39 + s) := fun s _ => up2_ne (by omega)
    have hs1 : vp_in (x 12 (p + 1 + i)) 16 := hO _ (by omega)
    have hf : fits2 (up2 x 14 p (nv x p i)) (ordN x p) (ordN x (p + 1 + i)) = fits2 x (ordN x p) (ordN x (p + 1 + i)) := by
      unfold fits2 apart
      rw [bsg (ordN x p) (vlt (hO p (by omega))), bsg (ordN x (p + 1 + i)) (vlt hs1)]
    have hb : bsF (up2 x 14 p (nv x p i)) (p + 1 + i) (nv x p i) = bsF x (p + 1 + i) (nv x p i) := by
      unfold bsF
      rw [b12, b13]
    rw [u_X1_choose_39, up2_at (k' := 10) (by omega), h6, nI_1, nI_clamp (by omega), nI_clamp (by omega), b12]
    refine ⟨fun c => absurd c (nI_ge (by omega) (by omega)), fun _ => ⟨vp_in_nI (by omega) (by decide), hs1, law_fitsBeside ?_⟩⟩
    show (b01 (fits2 (up2 x 14 p (nv x p i)) (ordN x p) (ordN x (p + 1 + i))) = 0 → _) ∧ (¬ b01 (fits2 (up2 x 14 p (nv x p i)) (ordN x p) (ordN x (p + 1 + i))) = 0 → _)
    rw [hf, up2_same]
    refine ⟨fun c => ?_, fun c => ⟨vp, law_betterStart hn (by omega) hps ⟨vp, ?_⟩⟩⟩
    · rw [if_neg (by rw [b01_0.mp c]; exact Bool.false_ne_true)] at hk
      exact hk
    · rw [if_pos (b01_1.mp c)] at hk
      rw [hb]
      have e : ∀ v w : Int32, up2 (up2 x 14 p v) 14 p w = up2 x 14 p w := fun v w => by
        funext k j
        by_cases q : k = 14 ∧ j = p
        · obtain ⟨rfl, rfl⟩ := q
          rw [up2_same, up2_same]
        · rw [up2_at (by omega), up2_at (by omega), up2_at (by omega)]
      rw [e]
      exact hk
