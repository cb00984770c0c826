/-! LAWS: small methods, counts, money, stage -/
theorem up_loop {S : Type} (U : Nat → S → Prop) (f : Nat → S) (n : Nat) (hz : U 1 (f n)) (hs : ∀ i k, i < n → U k (f (i + 1)) → U (k + 1) (f i)) : ∃ k, U k (f 0) := by
  have key : ∀ d i, i + d = n → U (d + 1) (f i) := by
    intro d
    induction d with
    | zero => intro i hi; obtain rfl : i = n := by omega
              exact hz
    | succ d ih => intro i hi; exact hs i (d + 1) (by omega) (ih (i + 1) (by omega))
  exact ⟨n + 1, key n 0 (by omega)⟩
theorem le_self (x : Int32) : x ≤ x := Int32.le_refl x
theorem b01_1 {b : Bool} : ¬ b01 b = 0 ↔ b = true := by cases b <;> decide
theorem and1 (x : Int32) : (x &&& 1) = 0 ↔ bt x 0 = false := by
  have h1 : ∀ i, bt 1 i = decide (i = 0) := fun i => by
    rcases Nat.lt_or_ge i 32 with h | h
    · exact (by decide +kernel : ∀ i, i < 32 → bt 1 i = decide (i = 0)) i h
    · rw [b_big h, decide_eq_false (by omega)]
  constructor
  · intro h
    have := congrArg (fun y => bt y 0) h
    simp only [b_and, h1, b_0] at this
    simpa using this
  · intro h
    refine b_ext fun i _ => ?_
    rw [b_and, h1, b_0]
    by_cases hi : i = 0
    · subst hi; rw [h]; rfl
    · rw [decide_eq_false hi, Bool.and_false]
theorem law_has {post : Int32 → MS → Prop} {σ : MS} {s : Int32} {p : Nat} (hp : p < 32) (h : post (b01 (bt s p)) σ) : w_X7_has post σ s (nI p) := by
  have e : bt (s >>> (nI p &&& 31)) 0 = bt s p := by rw [b_sshr p hp s (by decide), Nat.add_zero, if_pos hp]
  unfold w_X7_has
  rw [and1, e]
  refine ⟨fun c => ?_, fun c => ?_⟩
  · rw [c] at h; exact h
  · have c2 : bt s p = true := by cases q : bt s p with
      | true => rfl
      | false => exact absurd q c
    rw [c2] at h; exact h
/-- Integer.bitCount, as its code reckons -/
def bcI (x : Int32) : Int32 :=
  let a := x - ((((Int32.toUInt32 x) >>> ((Int32.toUInt32 1) &&& Int32.toUInt32 31)).toInt32) &&& 1431655765)
  let b := (a &&& 858993459) + (((Int32.toUInt32 a) >>> ((Int32.toUInt32 2) &&& Int32.toUInt32 31)).toInt32 &&& 858993459)
  let c := (b + ((Int32.toUInt32 b) >>> ((Int32.toUInt32 4) &&& Int32.toUInt32 31)).toInt32) &&& 252645135
  let d := c + ((Int32.toUInt32 c) >>> ((Int32.toUInt32 8) &&& Int32.toUInt32 31)).toInt32
  (d + ((Int32.toUInt32 d) >>> ((Int32.toUInt32 16) &&& Int32.toUInt32 31)).toInt32) &&& 63
theorem law_bitCount {post : Int32 → MS → Prop} {σ : MS} {x : Int32} (h : post (bcI x) σ) : w_J6_bitCount_0f7a4 post σ x := by
  unfold w_J6_bitCount_0f7a4
  intro y1 h1 y2 h2 y3 h3 y4 h4
  subst h1
  subst h2
  subst h3
  subst h4
  exact h
theorem law_isTown {post : Int32 → MS → Prop} {σ : MS} {a : Int32} (h : post (b01 (decide (0 ≤ a ∧ a < 6))) σ) : w_X7_isTown post σ a := by
  unfold w_X7_isTown
  refine ⟨fun c => ?_, fun c => ⟨fun d => ?_, fun d => ?_⟩⟩
  · rw [decide_eq_false (fun q => Int32.not_lt.mpr q.1 c)] at h; exact h
  · rw [decide_eq_false (fun q => Int32.not_lt.mpr d q.2)] at h; exact h
  · rw [decide_eq_true ⟨Int32.not_lt.mp c, Int32.not_le.mp d⟩] at h; exact h
theorem law_isSetOfSongs {post : Int32 → MS → Prop} {σ : MS} {a : Int32} (h : post (b01 (decide (0 ≤ a ∧ a < 65536))) σ) : w_X7_isSetOfSongs post σ a := by
  unfold w_X7_isSetOfSongs
  refine ⟨fun c => ?_, fun c => ⟨fun d => ?_, fun d => ?_⟩⟩
  · rw [decide_eq_false (fun q => Int32.not_lt.mpr q.1 c)] at h; exact h
  · rw [decide_eq_false (fun q => Int32.not_lt.mpr d q.2)] at h; exact h
  · rw [decide_eq_true ⟨Int32.not_lt.mp c, Int32.not_le.mp d⟩] at h; exact h
def hoursOk (a b : Int32) : Bool := decide (¬ a < 10 ∧ ¬ 22 < a ∧ ¬ b < 1 ∧ ¬ 6 < b ∧ ¬ 24 < a + b)
theorem law_areHours {post : Int32 → MS → Prop} {σ : MS} {a b : Int32} (h : post (b01 (hoursOk a b)) σ) : w_X7_areHours post σ a b := by
  unfold w_X7_areHours
  unfold hoursOk at h
  refine ⟨fun c => ?_, fun c => ⟨fun d => ?_, fun d => ⟨fun e => ?_, fun e => ⟨fun f => ?_, fun f => ⟨fun g => ?_, fun g => ?_⟩⟩⟩⟩⟩
  · rw [decide_eq_false (fun q => q.1 c)] at h; exact h
  · rw [decide_eq_false (fun q => q.2.1 d)] at h; exact h
  · rw [decide_eq_false (fun q => q.2.2.1 e)] at h; exact h
  · rw [decide_eq_false (fun q => q.2.2.2.1 f)] at h; exact h
  · rw [decide_eq_false (fun q => q.2.2.2.2 g)] at h; exact h
  · rw [decide_eq_true ⟨c, d, e, f, g⟩] at h; exact h
/-- one of the first n is fixed for that band and day -/
def taken (σ : MS) (a b : Int32) : Nat → Bool
  | 0 => false
  | n + 1 => taken σ a b n || decide (σ (73 + n) 7 = 1 ∧ σ (73 + n) 0 = a ∧ σ (73 + n) 1 = b)
theorem taken_le {σ : MS} {a b : Int32} {i n : Nat} (h : i ≤ n) (ht : taken σ a b i = true) : taken σ a b n = true := by
  induction n with
  | zero => obtain rfl : i = 0 := by omega
            exact ht
  | succ n ih =>
    by_cases q : i = n + 1
    · subst q; exact ht
    · unfold taken; rw [ih (by omega)]; rfl
theorem law_isTaken {post : Int32 → MS → Prop} {σ : MS} {a b : Int32} {n : Nat} (h8 : σ 0 8 = nI n) (hn : n ≤ 14) (h : post (b01 (taken σ a b n)) σ) : w_X7_isTaken post σ a b := by
  have key : ∀ d i, i + d = n → taken σ a b i = false → u_X7_isTaken_2 post a b (d + 1) σ (nI i) := by
    intro d
    induction d with
    | zero =>
      intro i hi hf
      obtain rfl : i = n := by omega
      rw [u_X7_isTaken_2]
      rw [hf] at h
      exact ⟨fun _ => h, fun c => absurd (by rw [h8]; exact le_self _) c⟩
    | succ d ih =>
      intro i hi hf
      have step : ¬ (σ (73 + i) 7 = 1 ∧ σ (73 + i) 0 = a ∧ σ (73 + i) 1 = b) → u_X7_isTaken_2 post a b (d + 1) σ (nI (i + 1)) := fun hx => ih (i + 1) (by omega) (by unfold taken; rw [hf, decide_eq_false hx]; rfl)
      rw [u_X7_isTaken_2, h8, nI_1, nI_clamp (by omega)]
      refine ⟨fun c => absurd c (nI_ge (by omega) (by omega)), fun _ => ⟨vp_in_nI (by omega) (by decide), fun c1 => ⟨fun c2 => ⟨fun c3 => ?_, fun c3 => step fun q => c3 q.2.2⟩, fun c2 => step fun q => c2 q.2.1⟩, fun c1 => step fun q => c1 q.1⟩⟩
      have ht : taken σ a b (i + 1) = true := by unfold taken; rw [decide_eq_true ⟨c1, c2, c3⟩, Bool.or_true]
      rw [taken_le (n := n) (by omega) ht] at h
      exact h
  exact ⟨n + 1, key n 0 (by omega) rfl⟩
def quF (σ : MS) (w : Nat) : Int32 := ((if (((24 - (σ (73 + w) 3)) - (σ (73 + w) 4)) * 60) < (σ (73 + w) 10) then (((24 - (σ (73 + w) 3)) - (σ (73 + w) 4)) * 60) else (σ (73 + w) 10)) + 14) / 15
theorem law_quarters {post : Int32 → MS → Prop} {σ : MS} {w : Nat} (h : post (quF σ w) σ) : w_X6_quarters post σ w := by
  unfold w_X6_quarters
  intro y hy
  subst hy
  exact h
def sumI (f : Nat → Int32) : Nat → Int32
  | 0 => 0
  | n + 1 => sumI f n + f n
/-- the bit p of s: f p, else 0 -/
abbrev ifb (s : Int32) (f : Nat → Int32) : Nat → Int32 := fun p => if bt s p = true then f p else 0
def feesF (σ : MS) (w n : Nat) : Int32 := sumI (ifb (σ (73 + w) 8) fun p => σ (29 + p) 3) n
def extraF (σ : MS) (w n : Nat) : Int32 := (quF σ w * feesF σ w n) / 4
theorem law_extraOf {post : Int32 → MS → Prop} {σ : MS} {w n : Nat} (h6 : σ 0 6 = nI n) (hn : n ≤ 10) (h : post (extraF σ w n) σ) : w_X7_extraOf post σ w := by
  unfold w_X7_extraOf
  refine up_loop (fun k (p : MS × Int32 × Int32) => u_X7_extraOf_4 post w k p.1 p.2.1 p.2.2) (fun i => (σ, feesF σ w i, nI i)) n ?_ (fun i k hi hk => ?_)
  · show u_X7_extraOf_4 post w 1 σ (feesF σ w n) (nI n)
    rw [u_X7_extraOf_4, h6]
    exact ⟨fun _ => law_quarters h, fun c => absurd (le_self _) c⟩
  · show u_X7_extraOf_4 post w (k + 1) σ (feesF σ w i) (nI i)
    have hk : u_X7_extraOf_4 post w k σ (feesF σ w i + ifb (σ (73 + w) 8) (fun p => σ (29 + p) 3) i) (nI (i + 1)) := hk
    rw [u_X7_extraOf_4, h6, nI_1, nI_clamp (by omega)]
    refine ⟨fun c => absurd c (nI_ge hi (by omega)), fun _ => law_has (by omega) ⟨fun c => ?_, fun c => ⟨vp_in_nI (by omega) (by decide), ?_⟩⟩⟩
    · unfold ifb at hk
      rw [if_neg (by rw [b01_0.mp c]; exact Bool.false_ne_true), Int32.add_zero] at hk
      exact hk
    · unfold ifb at hk
      rw [if_pos (b01_1.mp c)] at hk
      exact hk
def wayF (σ : MS) (a b : Int32) : Int32 := σ (23 + a.toNatClampNeg) b.toNatClampNeg
theorem law_between {post : Int32 → MS → Prop} {σ : MS} {a b : Int32} (ha : vp_in a 6) (hb : vp_in b 6) (h : post (wayF σ a b) σ) : w_X4_between post σ a b := ⟨ha, hb, h⟩
def costF (σ : MS) (p w : Nat) : Int32 := ((σ (29 + p) 3) * (σ (73 + w) 4)) + (10 * (if 0 < wayF σ (σ (29 + p) 2) (σ (73 + w) 2) then wayF σ (σ (29 + p) 2) (σ (73 + w) 2) else 0))
theorem law_costAt {post : Int32 → MS → Prop} {σ : MS} {p w : Nat} (ha : vp_in (σ (29 + p) 2) 6) (hb : vp_in (σ (73 + w) 2) 6) (h : post (costF σ p w) σ) : w_X7_costAt post σ p w := law_between ha hb h
def wageF (σ : MS) (p w : Nat) : Int32 := costF σ p w + ((quF σ w * (σ (29 + p) 3)) / 4)
theorem law_wageAt {post : Int32 → MS → Prop} {σ : MS} {p w : Nat} (ha : vp_in (σ (29 + p) 2) 6) (hb : vp_in (σ (73 + w) 2) 6) (h : post (wageF σ p w) σ) : w_X7_wageAt post σ p w := law_costAt ha hb (law_quarters h)
def owedF (σ : MS) (w : Nat) : Int32 :=
  if σ (73 + w) 1 - σ 0 9 < 30 then (if σ (73 + w) 1 - σ 0 9 < 14 then (if σ (73 + w) 1 - σ 0 9 < 7 then (σ (73 + w) 9 * 100) / 100 else (σ (73 + w) 9 * 70) / 100) else (σ (73 + w) 9 * 40) / 100) else (σ (73 + w) 9 * 20) / 100
theorem law_owedFor {post : Int32 → MS → Prop} {σ : MS} {w : Nat} (h : post (owedF σ w) σ) : w_X7_owedFor post σ w := by
  unfold w_X7_owedFor
  unfold owedF at h
  refine ⟨fun c => ⟨fun d => ⟨fun e => ?_, fun e => ?_⟩, fun d => ?_⟩, fun c => ?_⟩
  · rw [if_pos c, if_pos d, if_pos e] at h; exact h
  · rw [if_pos c, if_pos d, if_neg e] at h; exact h
  · rw [if_pos c, if_neg d] at h; exact h
  · rw [if_neg c] at h; exact h
def wagesF (σ : MS) (w n : Nat) : Int32 := sumI (ifb (σ (73 + w) 8) fun p => wageF σ p w) n
theorem law_allWagesAt {post : Int32 → MS → Prop} {σ : MS} {w n : Nat} (h6 : σ 0 6 = nI n) (hn : n ≤ 10) (ht : ∀ p, p < n → vp_in (σ (29 + p) 2) 6) (hb : vp_in (σ (73 + w) 2) 6) (h : post (wagesF σ w n) σ) : w_X7_allWagesAt post σ w := by
  unfold w_X7_allWagesAt
  refine up_loop (fun k (p : MS × Int32 × Int32) => u_X7_allWagesAt_4 post w k p.1 p.2.1 p.2.2) (fun i => (σ, wagesF σ w i, nI i)) n ?_ (fun i k hi hk => ?_)
  · show u_X7_allWagesAt_4 post w 1 σ (wagesF σ w n) (nI n)
    rw [u_X7_allWagesAt_4, h6]
    exact ⟨fun _ => h, fun c => absurd (le_self _) c⟩
  · show u_X7_allWagesAt_4 post w (k + 1) σ (wagesF σ w i) (nI i)
    have hk : u_X7_allWagesAt_4 post w k σ (wagesF σ w i + ifb (σ (73 + w) 8) (fun p => wageF σ p w) i) (nI (i + 1)) := hk
    rw [u_X7_allWagesAt_4, h6, nI_1, nI_clamp (by omega)]
    refine ⟨fun c => absurd c (nI_ge hi (by omega)), fun _ => law_has (by omega) ⟨fun c => ?_, fun c => ⟨vp_in_nI (by omega) (by decide), law_wageAt (ht i hi) hb ?_⟩⟩⟩
    · unfold ifb at hk
      rw [if_neg (by rw [b01_0.mp c]; exact Bool.false_ne_true), Int32.add_zero] at hk
      exact hk
    · unfold ifb at hk
      rw [if_pos (b01_1.mp c)] at hk
      exact hk
