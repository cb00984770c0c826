section
/-! plain facts to paste, each family by itself; over the kit's nI, lN and upd -/
/-! ===== drawers: more things than places ===== -/
theorem fb_holes : ∀ (m n : Nat) (f : Nat → Nat), (∀ i, i < n → f i < m) → (∀ i j, i < j → j < n → f i ≠ f j) → n ≤ m := by
  intro m
  induction m with
  | zero =>
    intro n f h1 _
    rcases Nat.eq_zero_or_pos n with h | h
    · omega
    · exact absurd (h1 0 h) (Nat.not_lt_zero _)
  | succ m ih =>
    intro n f h1 h2
    by_cases hx : ∃ i, i < n ∧ f i = m
    · obtain ⟨a, ha, hfa⟩ := hx
      have hg := ih (n - 1) (fun i => if i < a then f i else f (i + 1)) (by
        intro i hi
        by_cases q : i < a
        · simp only [if_pos q]
          have b1 := h1 i (by omega)
          have b2 := h2 i a q ha
          omega
        · simp only [if_neg q]
          have b1 := h1 (i + 1) (by omega)
          have b2 := h2 a (i + 1) (by omega) (by omega)
          omega) (by
        intro i j hij hj
        by_cases q : i < a
        · by_cases r : j < a
          · simp only [if_pos q, if_pos r]
            exact h2 i j hij (by omega)
          · simp only [if_pos q, if_neg r]
            exact h2 i (j + 1) (by omega) (by omega)
        · have r : ¬ j < a := by omega
          simp only [if_neg q, if_neg r]
          exact h2 (i + 1) (j + 1) (by omega) (by omega))
      omega
    · have hg := ih n f (fun i hi => by
        have b1 := h1 i hi
        have b2 : f i ≠ m := fun e => hx ⟨i, hi, e⟩
        omega) h2
      omega
/-- two of them in one place -/
theorem fb_twice {m n : Nat} {f : Nat → Nat} (h : ∀ i, i < n → f i < m) (hm : m < n) : ∃ i j, i < j ∧ j < n ∧ f i = f j := by
  refine Classical.byContradiction fun hx => ?_
  have := fb_holes m n f h (fun i j hij hj e => hx ⟨i, j, hij, hj, e⟩)
  omega
/-- as many as places, none twice: each place is taken -/
theorem fb_onto {n : Nat} {f : Nat → Nat} (h : ∀ i, i < n → f i < n) (h2 : ∀ i j, i < j → j < n → f i ≠ f j) {y : Nat} (hy : y < n) : ∃ i, i < n ∧ f i = y := by
  refine Classical.byContradiction fun hx => ?_
  have hne : ∀ i, i < n → f i ≠ y := fun i hi e => hx ⟨i, hi, e⟩
  have := fb_holes (n - 1) n (fun i => if f i < y then f i else f i - 1) (by
    intro i hi
    have b1 := h i hi
    have b2 := hne i hi
    by_cases q : f i < y
    · simp only [if_pos q]; omega
    · simp only [if_neg q]; omega) (by
    intro i j hij hj
    have b1 := hne i (by omega)
    have b2 := hne j hj
    have b3 := h2 i j hij hj
    by_cases q : f i < y
    · by_cases r : f j < y
      · simp only [if_pos q, if_pos r]; exact b3
      · simp only [if_pos q, if_neg r]; omega
    · by_cases r : f j < y
      · simp only [if_neg q, if_pos r]; omega
      · simp only [if_neg q, if_neg r]; omega)
  omega
/-! ===== how many places have a property ===== -/
def fb_ct (p : Nat → Bool) : Nat → Nat
  | 0 => 0
  | n + 1 => fb_ct p n + (if p n then 1 else 0)
theorem fb_ct_succ (p : Nat → Bool) (n : Nat) : fb_ct p (n + 1) = fb_ct p n + (if p n then 1 else 0) := rfl
theorem fb_ct_le (p : Nat → Bool) : ∀ n, fb_ct p n ≤ n
  | 0 => Nat.le_refl _
  | n + 1 => by
    have h := fb_ct_le p n
    rw [fb_ct_succ]
    split <;> omega
theorem fb_ct_step (p : Nat → Bool) (m : Nat) : ∀ n, fb_ct p m ≤ fb_ct p (m + n)
  | 0 => Nat.le_refl _
  | n + 1 => by
    have h := fb_ct_step p m n
    show fb_ct p m ≤ fb_ct p (m + n + 1)
    rw [fb_ct_succ]
    omega
theorem fb_ct_mono (p : Nat → Bool) {m n : Nat} (h : m ≤ n) : fb_ct p m ≤ fb_ct p n := by
  have := fb_ct_step p m (n - m)
  rwa [Nat.add_sub_cancel' h] at this
theorem fb_ct_cong {p q : Nat → Bool} : ∀ {n : Nat}, (∀ k, k < n → p k = q k) → fb_ct p n = fb_ct q n
  | 0, _ => rfl
  | n + 1, h => by
    rw [fb_ct_succ, fb_ct_succ, fb_ct_cong (fun k hk => h k (by omega)), h n (by omega)]
/-- one place changed -/
theorem fb_ct_out (p : Nat → Bool) (b : Bool) {i n : Nat} (h : n ≤ i) : fb_ct (fun k => if k = i then b else p k) n = fb_ct p n :=
  fb_ct_cong fun k hk => if_neg (by omega)
theorem fb_ct_upd (p : Nat → Bool) (b : Bool) {i : Nat} : ∀ {n : Nat}, i < n → fb_ct (fun k => if k = i then b else p k) n + (if p i then 1 else 0) = fb_ct p n + (if b then 1 else 0)
  | 0, h => absurd h (Nat.not_lt_zero i)
  | n + 1, h => by
    rw [fb_ct_succ, fb_ct_succ]
    rcases Nat.lt_or_ge i n with q | q
    · have := fb_ct_upd p b q
      have e : (if n = i then b else p n) = p n := if_neg (by omega)
      rw [e]
      omega
    · have e : i = n := by omega
      subst e
      rw [fb_ct_out p b (Nat.le_refl _)]
      simp only [if_true]
      omega
theorem fb_ct_sub {p q : Nat → Bool} : ∀ {n : Nat}, (∀ k, k < n → p k = true → q k = true) → fb_ct p n ≤ fb_ct q n
  | 0, _ => Nat.le_refl _
  | n + 1, h => by
    have h1 := fb_ct_sub (n := n) (p := p) (q := q) (fun k hk => h k (by omega))
    have h2 := h n (by omega)
    rw [fb_ct_succ, fb_ct_succ]
    cases hp : p n <;> cases hq : q n <;> simp_all <;> omega
theorem fb_ct_or {p q : Nat → Bool} : ∀ {n : Nat}, (∀ k, k < n → ¬ (p k = true ∧ q k = true)) → fb_ct (fun k => p k || q k) n = fb_ct p n + fb_ct q n
  | 0, _ => rfl
  | n + 1, h => by
    have h1 := fb_ct_or (n := n) (p := p) (q := q) (fun k hk => h k (by omega))
    have h2 := h n (by omega)
    rw [fb_ct_succ, fb_ct_succ, fb_ct_succ, h1]
    cases hp : p n <;> cases hq : q n <;> simp_all <;> omega
theorem fb_ct_not (p : Nat → Bool) : ∀ n, fb_ct p n + fb_ct (fun k => !p k) n = n
  | 0 => rfl
  | n + 1 => by
    have h := fb_ct_not p n
    rw [fb_ct_succ, fb_ct_succ]
    cases p n <;> simp <;> omega
theorem fb_ct_split (p : Nat → Bool) (m : Nat) : ∀ n, fb_ct p (m + n) = fb_ct p m + fb_ct (fun k => p (m + k)) n
  | 0 => rfl
  | n + 1 => by
    have h := fb_ct_split p m n
    show fb_ct p (m + n + 1) = _
    rw [fb_ct_succ, fb_ct_succ, h, Nat.add_assoc]
theorem fb_ct_zero {p : Nat → Bool} : ∀ {n : Nat}, fb_ct p n = 0 ↔ ∀ k, k < n → p k = false
  | 0 => ⟨fun _ k hk => absurd hk (Nat.not_lt_zero k), fun _ => rfl⟩
  | n + 1 => by
    have h := fb_ct_zero (p := p) (n := n)
    rw [fb_ct_succ]
    constructor
    · intro e k hk
      have e1 : fb_ct p n = 0 := by omega
      rcases Nat.lt_or_ge k n with q | q
      · exact h.mp e1 k q
      · have ek : k = n := by omega
        subst ek
        cases hp : p k
        · rfl
        · simp [hp] at e
    · intro a
      rw [h.mpr (fun k hk => a k (by omega)), a n (by omega)]
      rfl
theorem fb_ct_pos {p : Nat → Bool} {n : Nat} : 0 < fb_ct p n ↔ ∃ k, k < n ∧ p k = true := by
  constructor
  · intro h
    refine Classical.byContradiction fun hx => ?_
    have := fb_ct_zero.mpr (fun k hk => by
      cases hp : p k
      · rfl
      · exact absurd ⟨k, hk, hp⟩ hx : ∀ k, k < n → p k = false)
    omega
  · rintro ⟨k, hk, hp⟩
    rcases Nat.eq_zero_or_pos (fb_ct p n) with e | e
    · have := fb_ct_zero.mp e k hk
      rw [this] at hp
      cases hp
    · exact e
theorem fb_ct_all {p : Nat → Bool} {n : Nat} : fb_ct p n = n ↔ ∀ k, k < n → p k = true := by
  have h := fb_ct_not p n
  constructor
  · intro e k hk
    have z : fb_ct (fun k => !p k) n = 0 := by omega
    have := fb_ct_zero.mp z k hk
    cases hp : p k
    · simp [hp] at this
    · rfl
  · intro a
    have z : fb_ct (fun k => !p k) n = 0 := fb_ct_zero.mpr (fun k hk => by simp [a k hk])
    omega
/-- the k-th place with the property -/
theorem fb_ct_kth {p : Nat → Bool} {k : Nat} : ∀ {n : Nat}, k < fb_ct p n → ∃ i, i < n ∧ p i = true ∧ fb_ct p i = k
  | 0, h => absurd h (Nat.not_lt_zero k)
  | n + 1, h => by
    rcases Nat.lt_or_ge k (fb_ct p n) with q | q
    · obtain ⟨i, h1, h2⟩ := fb_ct_kth q
      exact ⟨i, by omega, h2⟩
    · rw [fb_ct_succ] at h
      cases hp : p n
      · simp [hp] at h; omega
      · simp [hp] at h
        exact ⟨n, by omega, hp, by omega⟩
theorem fb_ct_kth_one {p : Nat → Bool} {i j : Nat} (hi : p i = true) (hj : p j = true) (e : fb_ct p i = fb_ct p j) : i = j := by
  have key : ∀ a b : Nat, a < b → p a = true → fb_ct p a < fb_ct p b := by
    intro a b hab ha
    have h := fb_ct_mono p (show a + 1 ≤ b from hab)
    rw [fb_ct_succ, ha] at h
    simp at h
    omega
  rcases Nat.lt_trichotomy i j with q | q | q
  · have := key i j q hi; omega
  · exact q
  · have := key j i q hj; omega
/-! ===== sums over a range: one place changed, parts, bounds ===== -/
def fb_sm (f : Nat → Nat) : Nat → Nat
  | 0 => 0
  | n + 1 => fb_sm f n + f n
theorem fb_sm_succ (f : Nat → Nat) (n : Nat) : fb_sm f (n + 1) = fb_sm f n + f n := rfl
theorem fb_sm_cong {f g : Nat → Nat} : ∀ {n : Nat}, (∀ k, k < n → f k = g k) → fb_sm f n = fb_sm g n
  | 0, _ => rfl
  | n + 1, h => by rw [fb_sm_succ, fb_sm_succ, fb_sm_cong (fun k hk => h k (by omega)), h n (by omega)]
theorem fb_sm_out (f : Nat → Nat) (v : Nat) {i n : Nat} (h : n ≤ i) : fb_sm (fun k => if k = i then v else f k) n = fb_sm f n :=
  fb_sm_cong fun k hk => if_neg (by omega)
theorem fb_sm_upd (f : Nat → Nat) (v : Nat) {i : Nat} : ∀ {n : Nat}, i < n → fb_sm (fun k => if k = i then v else f k) n + f i = fb_sm f n + v
  | 0, h => absurd h (Nat.not_lt_zero i)
  | n + 1, h => by
    rw [fb_sm_succ, fb_sm_succ]
    rcases Nat.lt_or_ge i n with q | q
    · have := fb_sm_upd f v q
      have e : (if n = i then v else f n) = f n := if_neg (by omega)
      rw [e]
      omega
    · have e : i = n := by omega
      subst e
      rw [fb_sm_out f v (Nat.le_refl _)]
      simp only [if_true]
      omega
theorem fb_sm_add (f g : Nat → Nat) : ∀ n, fb_sm (fun k => f k + g k) n = fb_sm f n + fb_sm g n
  | 0 => rfl
  | n + 1 => by
    have h := fb_sm_add f g n
    rw [fb_sm_succ, fb_sm_succ, fb_sm_succ, h]
    omega
theorem fb_sm_le {f g : Nat → Nat} : ∀ {n : Nat}, (∀ k, k < n → f k ≤ g k) → fb_sm f n ≤ fb_sm g n
  | 0, _ => Nat.le_refl _
  | n + 1, h => by
    have h1 := fb_sm_le (n := n) (f := f) (g := g) (fun k hk => h k (by omega))
    have h2 := h n (by omega)
    rw [fb_sm_succ, fb_sm_succ]
    omega
theorem fb_sm_const (c : Nat) : ∀ n, fb_sm (fun _ => c) n = n * c
  | 0 => by rw [Nat.zero_mul]; rfl
  | n + 1 => by rw [fb_sm_succ, fb_sm_const c n, Nat.succ_mul]
theorem fb_sm_bound {f : Nat → Nat} {c n : Nat} (h : ∀ k, k < n → f k ≤ c) : fb_sm f n ≤ n * c := by
  rw [← fb_sm_const c n]
  exact fb_sm_le h
theorem fb_sm_mono (f : Nat → Nat) (m : Nat) : ∀ n, fb_sm f m ≤ fb_sm f (m + n)
  | 0 => Nat.le_refl _
  | n + 1 => by
    have h := fb_sm_mono f m n
    show fb_sm f m ≤ fb_sm f (m + n + 1)
    rw [fb_sm_succ]
    omega
theorem fb_sm_part (f : Nat → Nat) {i n : Nat} (h : i < n) : fb_sm f i + f i ≤ fb_sm f n := by
  have := fb_sm_mono f (i + 1) (n - (i + 1))
  rw [fb_sm_succ, show i + 1 + (n - (i + 1)) = n by omega] at this
  exact this
theorem fb_sm_split (f : Nat → Nat) (m : Nat) : ∀ n, fb_sm f (m + n) = fb_sm f m + fb_sm (fun k => f (m + k)) n
  | 0 => rfl
  | n + 1 => by
    have h := fb_sm_split f m n
    show fb_sm f (m + n + 1) = _
    rw [fb_sm_succ, fb_sm_succ, h, Nat.add_assoc]
theorem fb_sm_zero {f : Nat → Nat} {n : Nat} (h : fb_sm f n = 0) : ∀ k, k < n → f k = 0 := fun k hk => by
  have := fb_sm_part f hk
  omega
/-- the same over whole numbers -/
def fb_si (f : Nat → Int) : Nat → Int
  | 0 => 0
  | n + 1 => fb_si f n + f n
theorem fb_si_succ (f : Nat → Int) (n : Nat) : fb_si f (n + 1) = fb_si f n + f n := rfl
theorem fb_si_cong {f g : Nat → Int} : ∀ {n : Nat}, (∀ k, k < n → f k = g k) → fb_si f n = fb_si g n
  | 0, _ => rfl
  | n + 1, h => by rw [fb_si_succ, fb_si_succ, fb_si_cong (fun k hk => h k (by omega)), h n (by omega)]
theorem fb_si_out (f : Nat → Int) (v : Int) {i n : Nat} (h : n ≤ i) : fb_si (fun k => if k = i then v else f k) n = fb_si f n :=
  fb_si_cong fun k hk => if_neg (by omega)
theorem fb_si_upd (f : Nat → Int) (v : Int) {i : Nat} : ∀ {n : Nat}, i < n → fb_si (fun k => if k = i then v else f k) n = fb_si f n - f i + v
  | 0, h => absurd h (Nat.not_lt_zero i)
  | n + 1, h => by
    rw [fb_si_succ, fb_si_succ]
    rcases Nat.lt_or_ge i n with q | q
    · have := fb_si_upd f v q
      have e : (if n = i then v else f n) = f n := if_neg (by omega)
      rw [e]
      omega
    · have e : i = n := by omega
      subst e
      rw [fb_si_out f v (Nat.le_refl _)]
      simp only [if_true]
      omega
theorem fb_si_add (f g : Nat → Int) : ∀ n, fb_si (fun k => f k + g k) n = fb_si f n + fb_si g n
  | 0 => rfl
  | n + 1 => by
    have h := fb_si_add f g n
    rw [fb_si_succ, fb_si_succ, fb_si_succ, h]
    omega
theorem fb_si_sub (f g : Nat → Int) : ∀ n, fb_si (fun k => f k - g k) n = fb_si f n - fb_si g n
  | 0 => rfl
  | n + 1 => by
    have h := fb_si_sub f g n
    rw [fb_si_succ, fb_si_succ, fb_si_succ, h]
    omega
theorem fb_si_mul (c : Int) (f : Nat → Int) : ∀ n, fb_si (fun k => c * f k) n = c * fb_si f n
  | 0 => (Int.mul_zero c).symm
  | n + 1 => by
    have h := fb_si_mul c f n
    rw [fb_si_succ, fb_si_succ, h, Int.mul_add]
theorem fb_si_split (f : Nat → Int) (m : Nat) : ∀ n, fb_si f (m + n) = fb_si f m + fb_si (fun k => f (m + k)) n
  | 0 => (Int.add_zero _).symm
  | n + 1 => by
    have h := fb_si_split f m n
    show fb_si f (m + n + 1) = _
    rw [fb_si_succ, fb_si_succ, h, Int.add_assoc]
theorem fb_si_nat (f : Nat → Nat) : ∀ n, fb_si (fun k => (f k : Int)) n = (fb_sm f n : Int)
  | 0 => rfl
  | n + 1 => by
    have h := fb_si_nat f n
    rw [fb_si_succ, fb_sm_succ, h]
    omega
theorem fb_si_bound {f : Nat → Int} {c : Int} (hc : 0 ≤ c) : ∀ {n : Nat}, (∀ k, k < n → -c ≤ f k ∧ f k ≤ c) → -(n * c) ≤ fb_si f n ∧ fb_si f n ≤ n * c
  | 0, _ => by simp [fb_si]
  | n + 1, h => by
    have h1 := fb_si_bound (n := n) (f := f) hc (fun k hk => h k (by omega))
    have h2 := h n (by omega)
    have e : ((n + 1 : Nat) : Int) * c = n * c + c := by rw [Int.natCast_add, Int.add_mul]; simp
    rw [fb_si_succ, e]
    omega
/-! ===== bits of a long that isn't negative ===== -/
theorem fb_andL (a b : Nat) : lN a &&& lN b = lN (a &&& b) := by
  apply Int64.toBitVec_inj.1
  show BitVec.ofNat 64 a &&& BitVec.ofNat 64 b = BitVec.ofNat 64 (a &&& b)
  apply BitVec.eq_of_getLsbD_eq
  intro i hi
  simp [hi]
theorem fb_orL (a b : Nat) : lN a ||| lN b = lN (a ||| b) := by
  apply Int64.toBitVec_inj.1
  show BitVec.ofNat 64 a ||| BitVec.ofNat 64 b = BitVec.ofNat 64 (a ||| b)
  apply BitVec.eq_of_getLsbD_eq
  intro i hi
  simp [hi]
theorem fb_xorL (a b : Nat) : lN a ^^^ lN b = lN (a ^^^ b) := by
  apply Int64.toBitVec_inj.1
  show BitVec.ofNat 64 a ^^^ BitVec.ofNat 64 b = BitVec.ofNat 64 (a ^^^ b)
  apply BitVec.eq_of_getLsbD_eq
  intro i hi
  simp [hi]
theorem fb_xorI (a b : Nat) : nI a ^^^ nI b = nI (a ^^^ b) := by
  apply Int32.toBitVec_inj.1
  show BitVec.ofNat 32 a ^^^ BitVec.ofNat 32 b = BitVec.ofNat 32 (a ^^^ b)
  apply BitVec.eq_of_getLsbD_eq
  intro i hi
  simp [hi]
theorem fb_maskL (n k : Nat) : lN n &&& lN (2 ^ k - 1) = lN (n % 2 ^ k) := by rw [fb_andL, Nat.and_two_pow_sub_one_eq_mod]
theorem fb_or_sumL {a k : Nat} (b : Nat) (h : a < 2 ^ k) : lN (2 ^ k * b) ||| lN a = lN (2 ^ k * b + a) := by rw [fb_orL, Nat.two_pow_add_eq_or_of_lt h]
theorem fb_lN_inj {a b : Nat} (ha : a < 2 ^ 63) (hb : b < 2 ^ 63) : lN a = lN b ↔ a = b := by
  constructor
  · intro h
    have h1 : (BitVec.ofNat 64 a).toNat = (BitVec.ofNat 64 b).toNat := congrArg (fun x : Int64 => x.toBitVec.toNat) h
    rw [BitVec.toNat_ofNat, BitVec.toNat_ofNat, Nat.mod_eq_of_lt (by omega), Nat.mod_eq_of_lt (by omega)] at h1
    exact h1
  · rintro rfl; rfl
theorem fb_bit_nat (n j : Nat) : n &&& 2 ^ j = 0 ↔ n.testBit j = false := by
  constructor
  · intro h
    have h1 : (n &&& 2 ^ j).testBit j = false := by rw [h]; simp
    rw [Nat.testBit_and] at h1
    simpa using h1
  · intro h
    apply Nat.eq_of_testBit_eq
    intro i
    rw [Nat.testBit_and]
    by_cases hi : j = i
    · subst hi; simp [h]
    · first | (simp [Nat.testBit_two_pow, hi]; done) | (simp [Nat.testBit_two_pow_of_ne hi]; done)
/-- one bit of a long -/
theorem fb_bitL {n j : Nat} (hj : j < 63) : lN n &&& lN (2 ^ j) = 0 ↔ n.testBit j = false := by
  have h2 : (2 : Nat) ^ j < 2 ^ 63 := Nat.pow_lt_pow_right (by decide) hj
  have hle : n &&& 2 ^ j ≤ 2 ^ j := Nat.and_le_right
  rw [fb_andL, ← fb_bit_nat, show (0 : Int64) = lN 0 from rfl]
  exact fb_lN_inj (by omega) (by decide)
/-- a bit set, a bit taken off -/
theorem fb_bit_set (n j i : Nat) : (n ||| 2 ^ j).testBit i = (n.testBit i || decide (i = j)) := by
  rw [Nat.testBit_or]
  by_cases h : j = i
  · subst h; simp
  · have h2 : ¬ i = j := fun e => h e.symm
    first | (simp [Nat.testBit_two_pow, h, h2]; done) | (simp [Nat.testBit_two_pow_of_ne h, h2]; done)
theorem fb_bit_flip (n j i : Nat) : (n ^^^ 2 ^ j).testBit i = (n.testBit i ^^ decide (i = j)) := by
  rw [Nat.testBit_xor]
  by_cases h : j = i
  · subst h; simp
  · have h2 : ¬ i = j := fun e => h e.symm
    first | (simp [Nat.testBit_two_pow, h, h2]; done) | (simp [Nat.testBit_two_pow_of_ne h, h2]; done)
/-! ===== a stretch of an array written over by a function ===== -/
def fb_put {α : Type} (f g : Nat → α) (a n : Nat) : Nat → α := fun k => if a ≤ k ∧ k < a + n then g (k - a) else f k
theorem fb_put_0 {α : Type} (f g : Nat → α) (a : Nat) : fb_put f g a 0 = f := funext fun k => if_neg (by omega)
theorem fb_put_in {α : Type} {f g : Nat → α} {a n k : Nat} (h1 : a ≤ k) (h2 : k < a + n) : fb_put f g a n k = g (k - a) := if_pos ⟨h1, h2⟩
theorem fb_put_out {α : Type} {f g : Nat → α} {a n k : Nat} (h : k < a ∨ a + n ≤ k) : fb_put f g a n k = f k := if_neg (by omega)
theorem fb_put_succ (f g : Nat → Int32) (a n : Nat) : upd (fb_put f g a n) (a + n) (g n) = fb_put f g a (n + 1) := by
  funext k
  by_cases h : k = a + n
  · subst h
    simp [upd, fb_put]
  · by_cases h1 : a ≤ k ∧ k < a + n
    · have h2 : a ≤ k ∧ k < a + (n + 1) := by omega
      simp only [upd, fb_put, if_neg h, if_pos h1, if_pos h2]
    · have h2 : ¬ (a ≤ k ∧ k < a + (n + 1)) := by omega
      simp only [upd, fb_put, if_neg h, if_neg h1, if_neg h2]
/-- .. from the far end down -/
theorem fb_put_down (f g : Nat → Int32) {a n m : Nat} (h : m < n) : upd (fb_put f (fun k => g (k + (m + 1))) (a + (m + 1)) (n - (m + 1))) (a + m) (g m) = fb_put f (fun k => g (k + m)) (a + m) (n - m) := by
  funext k
  by_cases h0 : k = a + m
  · subst h0
    simp only [upd, if_true]
    rw [fb_put_in (by omega) (by omega)]
    exact congrArg g (by omega)
  · simp only [upd, if_neg h0]
    by_cases h1 : a + (m + 1) ≤ k ∧ k < a + (m + 1) + (n - (m + 1))
    · rw [fb_put_in h1.1 h1.2, fb_put_in (by omega) (by omega)]
      exact congrArg g (by omega)
    · rw [fb_put_out (by omega), fb_put_out (by omega)]
theorem fb_put_cong {α : Type} {f f2 g g2 : Nat → α} {a n : Nat} (hf : ∀ k, (k < a ∨ a + n ≤ k) → f k = f2 k) (hg : ∀ k, k < n → g k = g2 k) : fb_put f g a n = fb_put f2 g2 a n := by
  funext k
  by_cases h : a ≤ k ∧ k < a + n
  · rw [fb_put_in h.1 h.2, fb_put_in h.1 h.2, hg _ (by omega)]
  · rw [fb_put_out (by omega), fb_put_out (by omega), hf _ (by omega)]
/-! ===== the least, the first, the best so far; that there is one alone ===== -/
theorem fb_first {p : Nat → Prop} [DecidablePred p] : ∀ {n : Nat}, (∃ i, i < n ∧ p i) → ∃ i, i < n ∧ p i ∧ ∀ j, j < i → ¬ p j
  | 0, h => by obtain ⟨i, hi, -⟩ := h; exact absurd hi (Nat.not_lt_zero i)
  | n + 1, h => by
    by_cases q : ∃ i, i < n ∧ p i
    · obtain ⟨i, h1, h2⟩ := fb_first q
      exact ⟨i, by omega, h2⟩
    · obtain ⟨i, h1, h2⟩ := h
      have e : i = n := by
        rcases Nat.lt_or_ge i n with r | r
        · exact absurd ⟨i, r, h2⟩ q
        · omega
      subst e
      exact ⟨i, by omega, h2, fun j hj hp => q ⟨j, hj, hp⟩⟩
theorem fb_first_one {p : Nat → Prop} {i j : Nat} (hi : p i) (hi2 : ∀ k, k < i → ¬ p k) (hj : p j) (hj2 : ∀ k, k < j → ¬ p k) : i = j := by
  rcases Nat.lt_trichotomy i j with q | q | q
  · exact absurd hi (hj2 i q)
  · exact q
  · exact absurd hj (hi2 j q)
theorem fb_last {p : Nat → Prop} [DecidablePred p] : ∀ {n : Nat}, (∃ i, i < n ∧ p i) → ∃ i, i < n ∧ p i ∧ ∀ j, i < j → j < n → ¬ p j
  | 0, h => by obtain ⟨i, hi, -⟩ := h; exact absurd hi (Nat.not_lt_zero i)
  | n + 1, h => by
    by_cases q : p n
    · exact ⟨n, by omega, q, fun j h1 h2 => by omega⟩
    · obtain ⟨i, h1, h2⟩ := h
      have hi : i < n := by
        rcases Nat.lt_or_ge i n with r | r
        · exact r
        · have e : i = n := by omega
          subst e
          exact absurd h2 q
      obtain ⟨i2, a1, a2, a3⟩ := fb_last (n := n) ⟨i, hi, h2⟩
      refine ⟨i2, by omega, a2, fun j b1 b2 => ?_⟩
      rcases Nat.lt_or_ge j n with r | r
      · exact a3 j b1 r
      · have e : j = n := by omega
        subst e
        exact q
/-- the first greatest -/
theorem fb_best (f : Nat → Int) : ∀ {n : Nat}, 0 < n → ∃ i, i < n ∧ (∀ j, j < n → f j ≤ f i) ∧ ∀ j, j < i → f j < f i
  | 0, h => absurd h (Nat.lt_irrefl 0)
  | 1, _ => ⟨0, by omega, fun j hj => by have e : j = 0 := by omega
                                         subst e; exact Int.le_refl _, fun j hj => absurd hj (Nat.not_lt_zero j)⟩
  | n + 2, _ => by
    obtain ⟨i, h1, h2, h3⟩ := fb_best f (n := n + 1) (by omega)
    by_cases q : f i < f (n + 1)
    · refine ⟨n + 1, by omega, fun j hj => ?_, fun j hj => ?_⟩
      · rcases Nat.lt_or_ge j (n + 1) with r | r
        · have := h2 j r; omega
        · have e : j = n + 1 := by omega
          subst e; exact Int.le_refl _
      · have := h2 j hj; omega
    · refine ⟨i, by omega, fun j hj => ?_, h3⟩
      rcases Nat.lt_or_ge j (n + 1) with r | r
      · exact h2 j r
      · have e : j = n + 1 := by omega
        subst e; omega
theorem fb_best_one {f : Nat → Int} {n i j : Nat} (hi : i < n) (hi2 : ∀ k, k < n → f k ≤ f i) (hi3 : ∀ k, k < i → f k < f i) (hj : j < n) (hj2 : ∀ k, k < n → f k ≤ f j) (hj3 : ∀ k, k < j → f k < f j) : i = j := by
  rcases Nat.lt_trichotomy i j with q | q | q
  · have a := hj3 i q
    have b := hi2 j hj
    omega
  · exact q
  · have a := hi3 j q
    have b := hj2 i hi
    omega
/-- the first least -/
theorem fb_low (f : Nat → Int) {n : Nat} (h : 0 < n) : ∃ i, i < n ∧ (∀ j, j < n → f i ≤ f j) ∧ ∀ j, j < i → f i < f j := by
  obtain ⟨i, h1, h2, h3⟩ := fb_best (fun k => -f k) h
  exact ⟨i, h1, fun j hj => by have := h2 j hj; omega, fun j hj => by have := h3 j hj; omega⟩
/-! ===== signed ints as whole numbers, within bounds ===== -/
theorem fb_rng (x : Int32) : -2147483648 ≤ x.toInt ∧ x.toInt < 2147483648 := by
  have h1 := Int32.le_toInt x
  have h2 := Int32.toInt_lt x
  omega
theorem fb_bmod {z : Int} (h1 : -2147483648 ≤ z) (h2 : z < 2147483648) : z.bmod (2 ^ 32) = z := by
  rw [Int.bmod_eq_of_le (by omega) (by omega)]
theorem fb_addI {x y : Int32} (h1 : -2147483648 ≤ x.toInt + y.toInt) (h2 : x.toInt + y.toInt < 2147483648) : (x + y).toInt = x.toInt + y.toInt := by
  rw [Int32.toInt_add, fb_bmod h1 h2]
theorem fb_subI {x y : Int32} (h1 : -2147483648 ≤ x.toInt - y.toInt) (h2 : x.toInt - y.toInt < 2147483648) : (x - y).toInt = x.toInt - y.toInt := by
  rw [Int32.toInt_sub, fb_bmod h1 h2]
theorem fb_mulI {x y : Int32} (h1 : -2147483648 ≤ x.toInt * y.toInt) (h2 : x.toInt * y.toInt < 2147483648) : (x * y).toInt = x.toInt * y.toInt := by
  rw [Int32.toInt_mul, fb_bmod h1 h2]
theorem fb_negI {x : Int32} (h : x.toInt ≠ -2147483648) : (-x).toInt = -x.toInt := by
  have := fb_rng x
  rw [Int32.toInt_neg, fb_bmod (by omega) (by omega)]
theorem fb_ofI {z : Int} (h1 : -2147483648 ≤ z) (h2 : z < 2147483648) : (Int32.ofInt z).toInt = z := by
  rw [Int32.toInt_ofInt, fb_bmod h1 h2]
theorem fb_asI (x : Int32) : Int32.ofInt x.toInt = x := Int32.ofInt_toInt x
theorem fb_rngL (x : Int64) : -9223372036854775808 ≤ x.toInt ∧ x.toInt < 9223372036854775808 := by
  have h1 := Int64.le_toInt x
  have h2 := Int64.toInt_lt x
  omega
theorem fb_bmodL {z : Int} (h1 : -9223372036854775808 ≤ z) (h2 : z < 9223372036854775808) : z.bmod (2 ^ 64) = z := by
  rw [Int.bmod_eq_of_le (by omega) (by omega)]
theorem fb_addL {x y : Int64} (h1 : -9223372036854775808 ≤ x.toInt + y.toInt) (h2 : x.toInt + y.toInt < 9223372036854775808) : (x + y).toInt = x.toInt + y.toInt := by
  rw [Int64.toInt_add, fb_bmodL h1 h2]
theorem fb_subL {x y : Int64} (h1 : -9223372036854775808 ≤ x.toInt - y.toInt) (h2 : x.toInt - y.toInt < 9223372036854775808) : (x - y).toInt = x.toInt - y.toInt := by
  rw [Int64.toInt_sub, fb_bmodL h1 h2]
theorem fb_mulL {x y : Int64} (h1 : -9223372036854775808 ≤ x.toInt * y.toInt) (h2 : x.toInt * y.toInt < 9223372036854775808) : (x * y).toInt = x.toInt * y.toInt := by
  rw [Int64.toInt_mul, fb_bmodL h1 h2]
/-! ===== cuts of what is narrow already ===== -/
theorem fb_byte {x : Int32} (h1 : -128 ≤ x.toInt) (h2 : x.toInt < 128) : x.toInt8.toInt32 = x := by
  apply Int32.toInt_inj.1
  rw [Int8.toInt_toInt32, Int32.toInt_toInt8, Int.bmod_eq_of_le (by omega) (by omega)]
theorem fb_short {x : Int32} (h1 : -32768 ≤ x.toInt) (h2 : x.toInt < 32768) : x.toInt16.toInt32 = x := by
  apply Int32.toInt_inj.1
  rw [Int16.toInt_toInt32, Int32.toInt_toInt16, Int.bmod_eq_of_le (by omega) (by omega)]
theorem fb_byte_rng (x : Int32) : -128 ≤ x.toInt8.toInt32.toInt ∧ x.toInt8.toInt32.toInt < 128 := by
  rw [Int8.toInt_toInt32]
  have h1 := Int8.le_toInt x.toInt8
  have h2 := Int8.toInt_lt x.toInt8
  omega
theorem fb_short_rng (x : Int32) : -32768 ≤ x.toInt16.toInt32.toInt ∧ x.toInt16.toInt32.toInt < 32768 := by
  rw [Int16.toInt_toInt32]
  have h1 := Int16.le_toInt x.toInt16
  have h2 := Int16.toInt_lt x.toInt16
  omega
theorem fb_byte_twice (x : Int32) : x.toInt8.toInt32.toInt8.toInt32 = x.toInt8.toInt32 := fb_byte (fb_byte_rng x).1 (fb_byte_rng x).2
theorem fb_short_twice (x : Int32) : x.toInt16.toInt32.toInt16.toInt32 = x.toInt16.toInt32 := fb_short (fb_short_rng x).1 (fb_short_rng x).2
theorem fb_char {n : Nat} (h : n < 65536) : (nI n).toUInt32.toUInt16.toUInt32.toInt32 = nI n := by
  apply Int32.toBitVec_inj.1
  apply BitVec.eq_of_toNat_eq
  have e1 : (nI n).toBitVec.toNat = n := by
    show (BitVec.ofNat 32 n).toNat = n
    rw [BitVec.toNat_ofNat, Nat.mod_eq_of_lt (by omega)]
  have e2 : ((nI n).toUInt32.toUInt16.toUInt32).toNat = n := by
    rw [UInt16.toNat_toUInt32, UInt32.toNat_toUInt16]
    show (nI n).toBitVec.toNat % 2 ^ 16 = n
    rw [e1, Nat.mod_eq_of_lt (by omega)]
  rw [e1]
  exact e2
end
section
/-! rows on bits, shifts and unsigned numbers, to paste: each family out of a closed proof of our own, whole with what it rests on; each by itself clean at Lean in its own claim (generation 39, form 5). Take a family whole -/
/-! ===== Int32 by its bits: bt x i ===== -/
def bt (x : Int32) (i : Nat) : Bool := x.toBitVec.getLsbD i
theorem b_ext {x y : Int32} (h : ∀ i, i < 32 → bt x i = bt y i) : x = y := Int32.toBitVec_inj.mp (BitVec.eq_of_getLsbD_eq (fun i hi => h i hi))
theorem b_or (x y : Int32) (i : Nat) : bt (x ||| y) i = (bt x i || bt y i) := by unfold bt; rw [Int32.toBitVec_or, BitVec.getLsbD_or]
theorem b_and (x y : Int32) (i : Nat) : bt (x &&& y) i = (bt x i && bt y i) := by unfold bt; rw [Int32.toBitVec_and, BitVec.getLsbD_and]
theorem b_xor (x y : Int32) (i : Nat) : bt (x ^^^ y) i = (bt x i ^^ bt y i) := by unfold bt; rw [Int32.toBitVec_xor, BitVec.getLsbD_xor]
theorem b_big {x : Int32} {i : Nat} (h : 32 ≤ i) : bt x i = false := BitVec.getLsbD_of_ge _ _ h
theorem b_255 (i : Nat) : bt 255 i = decide (i < 8) := by
  rcases Nat.lt_or_ge i 32 with h | h
  · exact (by decide +kernel : ∀ i, i < 32 → bt 255 i = decide (i < 8)) i h
  · rw [b_big h, decide_eq_false (by omega)]
theorem b_65535 (i : Nat) : bt 65535 i = decide (i < 16) := by
  rcases Nat.lt_or_ge i 32 with h | h
  · exact (by decide +kernel : ∀ i, i < 32 → bt 65535 i = decide (i < 16)) i h
  · rw [b_big h, decide_eq_false (by omega)]
theorem b_m1 : ∀ i, i < 32 → bt (-1) i = true := by decide +kernel
theorem b_0 (i : Nat) : bt 0 i = false := BitVec.getLsbD_zero
theorem s_l : ∀ n, n < 32 → ((nI n &&& 31).toBitVec.smod 32).toNat = n := by decide +kernel
theorem s_u : ∀ n, n < 32 → (((nI n).toUInt32 &&& Int32.toUInt32 31).toBitVec % 32).toNat = n := by decide +kernel
theorem b_shl (n : Nat) (hn : n < 32) (x : Int32) {i : Nat} (hi : i < 32) : bt (x <<< (nI n &&& 31)) i = (decide (n ≤ i) && bt x (i - n)) := by
  unfold bt
  rw [Int32.toBitVec_shiftLeft]
  show (x.toBitVec <<< ((nI n &&& 31).toBitVec.smod 32).toNat).getLsbD i = _
  rw [s_l n hn, BitVec.getLsbD_shiftLeft]
  rcases Nat.lt_or_ge i n with h | h
  · simp [h, Nat.not_le.mpr h]
  · simp [hi, h, Nat.not_lt.mpr h]
theorem b_ushr (n : Nat) (hn : n < 32) (x : Int32) (i : Nat) : bt ((x.toUInt32 >>> ((nI n).toUInt32 &&& Int32.toUInt32 31)).toInt32) i = bt x (n + i) := by
  show (x.toUInt32 >>> ((nI n).toUInt32 &&& Int32.toUInt32 31)).toBitVec.getLsbD i = x.toUInt32.toBitVec.getLsbD (n + i)
  rw [UInt32.toBitVec_shiftRight]
  show (x.toUInt32.toBitVec >>> (((nI n).toUInt32 &&& Int32.toUInt32 31).toBitVec % 32).toNat).getLsbD i = _
  rw [s_u n hn, BitVec.getLsbD_ushiftRight]
theorem b_sshr (n : Nat) (hn : n < 32) (x : Int32) {i : Nat} (hi : i < 32) : bt (x >>> (nI n &&& 31)) i = if n + i < 32 then bt x (n + i) else bt x 31 := by
  unfold bt
  rw [Int32.toBitVec_shiftRight]
  show (x.toBitVec.sshiftRight ((nI n &&& 31).toBitVec.smod 32).toNat).getLsbD i = _
  rw [s_l n hn, BitVec.getLsbD_sshiftRight, BitVec.msb_eq_getLsbD_last]
  simp [hi]
theorem b_shl8 (x : Int32) {i : Nat} (hi : i < 32) : bt (x <<< ((8 : Int32) &&& 31)) i = (decide (8 ≤ i) && bt x (i - 8)) := b_shl 8 (by omega) x hi
theorem b_shl16 (x : Int32) {i : Nat} (hi : i < 32) : bt (x <<< ((16 : Int32) &&& 31)) i = (decide (16 ≤ i) && bt x (i - 16)) := b_shl 16 (by omega) x hi
theorem b_shl24 (x : Int32) {i : Nat} (hi : i < 32) : bt (x <<< ((24 : Int32) &&& 31)) i = (decide (24 ≤ i) && bt x (i - 24)) := b_shl 24 (by omega) x hi
theorem b_sshr8 (x : Int32) {i : Nat} (hi : i < 32) : bt (x >>> ((8 : Int32) &&& 31)) i = if 8 + i < 32 then bt x (8 + i) else bt x 31 := b_sshr 8 (by omega) x hi
/-! ===== nI under and, xor, >>>, one bit, 65535 ===== -/
/-! ===== nI under and, xor, >>>, one bit, 65535 ===== -/
theorem nx_and (a b : Nat) : nI a &&& nI b = nI (a &&& b) := by
  apply Int32.toBitVec_inj.1
  show BitVec.ofNat 32 a &&& BitVec.ofNat 32 b = BitVec.ofNat 32 (a &&& b)
  apply BitVec.eq_of_getLsbD_eq
  intro i hi
  simp [hi]
end
section
/-! LAWS OF THE CLASS'S METHODS, of numbers alone: queues, counts by state -/
/-- two asked ones of one band and day -/
def inQ (σ : MS) (a b : Nat) : Bool := decide (σ (73 + a) 7 = 0 ∧ σ (73 + b) 7 = 0 ∧ σ (73 + a) 0 = σ (73 + b) 0 ∧ σ (73 + a) 1 = σ (73 + b) 1)
abbrev b01 (b : Bool) : Int32 := if b then 1 else 0
theorem b01_0 {b : Bool} : b01 b = 0 ↔ b = false := by cases b <;> decide
theorem law_areInOneQueue {post : Int32 → MS → Prop} {σ : MS} {a b : Nat} (ha : a < 14) (hb : b < 14) (h : post (b01 (inQ σ a b)) σ) : w_X7_areInOneQueue post σ (nI a) (nI b) := by
  unfold w_X7_areInOneQueue
  rw [nI_clamp (by omega), nI_clamp (by omega)]
  unfold inQ at h
  refine ⟨vp_in_nI ha (by decide), vp_in_nI hb (by decide), fun c1 => ⟨fun c2 => ⟨fun c3 => ⟨fun c4 => ?_, fun c4 => ?_⟩, fun c3 => ?_⟩, fun c2 => ?_⟩, fun c1 => ?_⟩
  · rw [decide_eq_true (⟨c1, c2, c3, c4⟩ : _ ∧ _ ∧ _ ∧ _)] at h; exact h
  · rw [decide_eq_false (fun q => c4 q.2.2.2)] at h; exact h
  · rw [decide_eq_false (fun q => c3 q.2.2.1)] at h; exact h
  · rw [decide_eq_false (fun q => c2 q.2.1)] at h; exact h
  · rw [decide_eq_false (fun q => c1 q.1)] at h; exact h
def ahead (σ : MS) (a : Nat) : Nat := fb_ct (fun w => inQ σ w a) a
def pq (σ : MS) (a : Nat) : Int32 := if σ (73 + a) 7 = 0 then nI (ahead σ a) else -1
theorem law_placeInQueue {post : Int32 → MS → Prop} {σ : MS} {a : Nat} (ha : a < 14) (h : post (pq σ a) σ) : w_X7_placeInQueue post σ (nI a) := by
  unfold w_X7_placeInQueue
  rw [nI_clamp (by omega)]
  unfold pq at h
  refine ⟨vp_in_nI ha (by decide), fun c1 => ⟨a + 1, ?_⟩, fun c1 => ?_⟩
  · rw [if_pos c1] at h
    have key : ∀ d i, i + d = a → u_X7_placeInQueue_18 post (nI a) (d + 1) σ (nI (fb_ct (fun w => inQ σ w a) i)) (nI i) := by
      intro d
      induction d with
      | zero =>
        intro i hi
        obtain rfl : i = a := by omega
        rw [u_X7_placeInQueue_18]
        exact ⟨fun _ => h, fun c => absurd (Int32.le_refl _) c⟩
      | succ d ih =>
        intro i hi
        rw [u_X7_placeInQueue_18]
        refine ⟨fun c => absurd c (nI_ge (by omega) (by omega)), fun _ => law_areInOneQueue (by omega) ha ?_⟩
        have h2 := ih (i + 1) (by omega)
        rw [fb_ct_succ] at h2
        rw [nI_1, nI_1]
        refine ⟨fun c => ?_, fun c => ?_⟩
        · rw [b01_0.mp c] at h2; exact h2
        · have c2 : inQ σ i a = true := by
            cases q : inQ σ i a with
            | true => rfl
            | false => exact absurd (b01_0.mpr q) c
          rw [c2] at h2; exact h2
    exact key a 0 (by omega)
  · rw [if_neg c1] at h
    exact h
def isFst (σ : MS) (a : Nat) : Bool := decide (σ (73 + a) 7 = 0 ∧ ahead σ a = 0)
theorem ahead_le (σ : MS) (a : Nat) : ahead σ a ≤ a := fb_ct_le _ _
theorem law_isFirst {post : Int32 → MS → Prop} {σ : MS} {a : Nat} (ha : a < 14) (h : post (b01 (isFst σ a)) σ) : w_X7_isFirst post σ (nI a) := by
  refine law_placeInQueue ha ?_
  have hle := ahead_le σ a
  unfold pq
  unfold isFst at h
  by_cases c1 : σ (73 + a) 7 = 0
  · rw [if_pos c1]
    by_cases c2 : ahead σ a = 0
    · rw [decide_eq_true (⟨c1, c2⟩ : _ ∧ _)] at h
      rw [c2]
      exact ⟨fun _ => h, fun c => absurd nI_0 c⟩
    · rw [decide_eq_false (fun q => c2 q.2)] at h
      exact ⟨fun c => absurd c (nI_ne0 (by omega) (by omega)), fun _ => h⟩
  · rw [if_neg c1]
    rw [decide_eq_false (fun q => c1 q.1)] at h
    exact ⟨fun c => absurd c (by decide), fun _ => h⟩
/-- those ahead of i that stood in a's queue are lost -/
def loseQ (σ : MS) (a i : Nat) : MS := fun k j => if 73 ≤ k ∧ k < 73 + i ∧ k ≠ 73 + a ∧ inQ σ (k - 73) a = true ∧ j = 7 then 3 else σ k j
theorem loseQ_0 (σ : MS) (a : Nat) : loseQ σ a 0 = σ := by
  funext k j
  unfold loseQ
  rw [if_neg (by omega)]
theorem loseQ_s (σ : MS) (a i : Nat) : loseQ σ a (i + 1) = if i ≠ a ∧ inQ σ i a = true then up2 (loseQ σ a i) (73 + i) 7 3 else loseQ σ a i := by
  by_cases h : i ≠ a ∧ inQ σ i a = true
  · rw [if_pos h]
    funext k j
    by_cases hk : k = 73 + i
    · subst hk
      rw [up2_eq]
      unfold upd loseQ
      have e : 73 + i - 73 = i := by omega
      rw [e]
      by_cases hj : j = 7
      · rw [if_pos hj, if_pos ⟨by omega, by omega, by omega, h.2, hj⟩]
      · rw [if_neg hj, if_neg (fun q => hj q.2.2.2.2), if_neg (fun q => hj q.2.2.2.2)]
    · rw [up2_ne hk]
      unfold loseQ
      by_cases q : 73 ≤ k ∧ k < 73 + i ∧ k ≠ 73 + a ∧ inQ σ (k - 73) a = true ∧ j = 7
      · rw [if_pos q, if_pos ⟨q.1, by omega, q.2.2⟩]
      · rw [if_neg q, if_neg (fun z => q ⟨z.1, by omega, z.2.2⟩)]
  · rw [if_neg h]
    funext k j
    unfold loseQ
    by_cases q : 73 ≤ k ∧ k < 73 + i ∧ k ≠ 73 + a ∧ inQ σ (k - 73) a = true ∧ j = 7
    · rw [if_pos q, if_pos ⟨q.1, by omega, q.2.2⟩]
    · rw [if_neg q, if_neg (fun z => ?_)]
      by_cases hk : k = 73 + i
      · subst hk
        have e : 73 + i - 73 = i := by omega
        rw [e] at z
        exact h ⟨by omega, z.2.2.2.1⟩
      · exact q ⟨z.1, by omega, z.2.2⟩
theorem loseQ_inQ (σ : MS) (a i : Nat) : inQ (loseQ σ a i) i a = inQ σ i a := by
  have e1 : ∀ j, loseQ σ a i (73 + i) j = σ (73 + i) j := fun j => if_neg (by omega)
  have e2 : ∀ j, loseQ σ a i (73 + a) j = σ (73 + a) j := fun j => if_neg (by omega)
  unfold inQ
  rw [e1, e1, e1, e2, e2, e2]
theorem law_loseQueueOf {post : MS → Prop} {σ : MS} {a n : Nat} (h8 : σ 0 8 = nI n) (hn : n ≤ 14) (ha : a < 14) (h : post (loseQ σ a n)) : w_X7_loseQueueOf post σ (nI a) := by
  refine ⟨n + 1, ?_⟩
  have key : ∀ d i, i + d = n → u_X7_loseQueueOf_2 post (nI a) (d + 1) (loseQ σ a i) (nI i) := by
    intro d
    induction d with
    | zero =>
      intro i hi
      obtain rfl : i = n := by omega
      rw [u_X7_loseQueueOf_2]
      exact ⟨fun _ => h, fun c => absurd (by rw [show loseQ σ a i 0 8 = σ 0 8 from if_neg (by omega), h8]; exact Int32.le_refl _) c⟩
    | succ d ih =>
      intro i hi
      have h2 := ih (i + 1) (by omega)
      rw [loseQ_s] at h2
      rw [u_X7_loseQueueOf_2, show loseQ σ a i 0 8 = σ 0 8 from if_neg (by omega), h8, nI_1, nI_clamp (by omega)]
      refine ⟨fun c => absurd c (nI_ge (by omega) (by omega)), fun _ => ⟨fun c => ?_, fun c => law_areInOneQueue (by omega) ha ⟨fun c2 => ?_, fun c2 => ⟨vp_in_nI (by omega) (by decide), ?_⟩⟩⟩⟩
      · have c3 : i = a := (nI_eq (by omega) (by omega)).mp c
        rw [if_neg (fun q => q.1 c3)] at h2
        exact h2
      · rw [loseQ_inQ] at c2
        rw [if_neg (fun q => by rw [b01_0.mp c2] at q; exact Bool.false_ne_true q.2)] at h2
        exact h2
      · rw [loseQ_inQ] at c2
        have c3 : inQ σ i a = true := by
          cases q : inQ σ i a with
          | true => rfl
          | false => exact absurd (b01_0.mpr q) c2
        rw [if_pos ⟨fun q => c (by rw [q]), c3⟩] at h2
        exact h2
  have := key n 0 (by omega)
  rw [loseQ_0] at this
  exact this
theorem law_countInState {post : Int32 → MS → Prop} {σ : MS} {a : Int32} {n : Nat} (h8 : σ 0 8 = nI n) (hn : n ≤ 14) (h : post (nI (fb_ct (fun w => decide (σ (73 + w) 7 = a)) n)) σ) : w_X7_countInState post σ a := by
  refine ⟨n + 1, ?_⟩
  have key : ∀ d i, i + d = n → u_X7_countInState_4 post a (d + 1) σ (nI (fb_ct (fun w => decide (σ (73 + w) 7 = a)) i)) (nI i) := by
    intro d
    induction d with
    | zero =>
      intro i hi
      obtain rfl : i = n := by omega
      rw [u_X7_countInState_4]
      exact ⟨fun _ => h, fun c => absurd (by rw [h8]; exact Int32.le_refl _) c⟩
    | succ d ih =>
      intro i hi
      have h2 := ih (i + 1) (by omega)
      rw [fb_ct_succ] at h2
      rw [u_X7_countInState_4, h8, nI_1, nI_1, nI_clamp (by omega)]
      refine ⟨fun c => absurd c (nI_ge (by omega) (by omega)), fun _ => ⟨vp_in_nI (by omega) (by decide), fun c => ?_, fun c => ?_⟩⟩
      · rw [decide_eq_true c] at h2; exact h2
      · rw [decide_eq_false c] at h2; exact h2
  exact key n 0 (by omega)
end
section
/-! LAWS: small methods, counts, money, stage -/
theorem up_loop {S : Type} (U : Nat → S → Prop) (f : Nat → S) (n : Nat) (hz : U 1 (f n)) (hs : ∀ i k, i < n → U k (f (i + 1)) → U (k + 1) (f i)) : ∃ k, U k (f 0) := by
  have key : ∀ d i, i + d = n → U (d + 1) (f i) := by
    intro d
    induction d with
    | zero => intro i hi; obtain rfl : i = n := by omega
              exact hz
    | succ d ih => intro i hi; exact hs i (d + 1) (by omega) (ih (i + 1) (by omega))
  exact ⟨n + 1, key n 0 (by omega)⟩
theorem le_self (x : Int32) : x ≤ x := Int32.le_refl x
theorem b01_1 {b : Bool} : ¬ b01 b = 0 ↔ b = true := by cases b <;> decide
theorem and1 (x : Int32) : (x &&& 1) = 0 ↔ bt x 0 = false := by
  have h1 : ∀ i, bt 1 i = decide (i = 0) := fun i => by
    rcases Nat.lt_or_ge i 32 with h | h
    · exact (by decide +kernel : ∀ i, i < 32 → bt 1 i = decide (i = 0)) i h
    · rw [b_big h, decide_eq_false (by omega)]
  constructor
  · intro h
    have := congrArg (fun y => bt y 0) h
    simp only [b_and, h1, b_0] at this
    simpa using this
  · intro h
    refine b_ext fun i _ => ?_
    rw [b_and, h1, b_0]
    by_cases hi : i = 0
    · subst hi; rw [h]; rfl
    · rw [decide_eq_false hi, Bool.and_false]
theorem law_has {post : Int32 → MS → Prop} {σ : MS} {s : Int32} {p : Nat} (hp : p < 32) (h : post (b01 (bt s p)) σ) : w_X7_has post σ s (nI p) := by
  have e : bt (s >>> (nI p &&& 31)) 0 = bt s p := by rw [b_sshr p hp s (by decide), Nat.add_zero, if_pos hp]
  unfold w_X7_has
  rw [and1, e]
  refine ⟨fun c => ?_, fun c => ?_⟩
  · rw [c] at h; exact h
  · have c2 : bt s p = true := by cases q : bt s p with
      | true => rfl
      | false => exact absurd q c
    rw [c2] at h; exact h
/-- Integer.bitCount, as its code reckons -/
def bcI (x : Int32) : Int32 :=
  let a := x - ((((Int32.toUInt32 x) >>> ((Int32.toUInt32 1) &&& Int32.toUInt32 31)).toInt32) &&& 1431655765)
  let b := (a &&& 858993459) + (((Int32.toUInt32 a) >>> ((Int32.toUInt32 2) &&& Int32.toUInt32 31)).toInt32 &&& 858993459)
  let c := (b + ((Int32.toUInt32 b) >>> ((Int32.toUInt32 4) &&& Int32.toUInt32 31)).toInt32) &&& 252645135
  let d := c + ((Int32.toUInt32 c) >>> ((Int32.toUInt32 8) &&& Int32.toUInt32 31)).toInt32
  (d + ((Int32.toUInt32 d) >>> ((Int32.toUInt32 16) &&& Int32.toUInt32 31)).toInt32) &&& 63
theorem law_bitCount {post : Int32 → MS → Prop} {σ : MS} {x : Int32} (h : post (bcI x) σ) : w_J6_bitCount_0f7a4 post σ x := by
  unfold w_J6_bitCount_0f7a4
  intro y1 h1 y2 h2 y3 h3 y4 h4
  subst h1
  subst h2
  subst h3
  subst h4
  exact h
theorem law_isTown {post : Int32 → MS → Prop} {σ : MS} {a : Int32} (h : post (b01 (decide (0 ≤ a ∧ a < 6))) σ) : w_X7_isTown post σ a := by
  unfold w_X7_isTown
  refine ⟨fun c => ?_, fun c => ⟨fun d => ?_, fun d => ?_⟩⟩
  · rw [decide_eq_false (fun q => Int32.not_lt.mpr q.1 c)] at h; exact h
  · rw [decide_eq_false (fun q => Int32.not_lt.mpr d q.2)] at h; exact h
  · rw [decide_eq_true ⟨Int32.not_lt.mp c, Int32.not_le.mp d⟩] at h; exact h
theorem law_isSetOfSongs {post : Int32 → MS → Prop} {σ : MS} {a : Int32} (h : post (b01 (decide (0 ≤ a ∧ a < 65536))) σ) : w_X7_isSetOfSongs post σ a := by
  unfold w_X7_isSetOfSongs
  refine ⟨fun c => ?_, fun c => ⟨fun d => ?_, fun d => ?_⟩⟩
  · rw [decide_eq_false (fun q => Int32.not_lt.mpr q.1 c)] at h; exact h
  · rw [decide_eq_false (fun q => Int32.not_lt.mpr d q.2)] at h; exact h
  · rw [decide_eq_true ⟨Int32.not_lt.mp c, Int32.not_le.mp d⟩] at h; exact h
def hoursOk (a b : Int32) : Bool := decide (¬ a < 10 ∧ ¬ 22 < a ∧ ¬ b < 1 ∧ ¬ 6 < b ∧ ¬ 24 < a + b)
theorem law_areHours {post : Int32 → MS → Prop} {σ : MS} {a b : Int32} (h : post (b01 (hoursOk a b)) σ) : w_X7_areHours post σ a b := by
  unfold w_X7_areHours
  unfold hoursOk at h
  refine ⟨fun c => ?_, fun c => ⟨fun d => ?_, fun d => ⟨fun e => ?_, fun e => ⟨fun f => ?_, fun f => ⟨fun g => ?_, fun g => ?_⟩⟩⟩⟩⟩
  · rw [decide_eq_false (fun q => q.1 c)] at h; exact h
  · rw [decide_eq_false (fun q => q.2.1 d)] at h; exact h
  · rw [decide_eq_false (fun q => q.2.2.1 e)] at h; exact h
  · rw [decide_eq_false (fun q => q.2.2.2.1 f)] at h; exact h
  · rw [decide_eq_false (fun q => q.2.2.2.2 g)] at h; exact h
  · rw [decide_eq_true ⟨c, d, e, f, g⟩] at h; exact h
/-- one of the first n is fixed for that band and day -/
def taken (σ : MS) (a b : Int32) : Nat → Bool
  | 0 => false
  | n + 1 => taken σ a b n || decide (σ (73 + n) 7 = 1 ∧ σ (73 + n) 0 = a ∧ σ (73 + n) 1 = b)
theorem taken_le {σ : MS} {a b : Int32} {i n : Nat} (h : i ≤ n) (ht : taken σ a b i = true) : taken σ a b n = true := by
  induction n with
  | zero => obtain rfl : i = 0 := by omega
            exact ht
  | succ n ih =>
    by_cases q : i = n + 1
    · subst q; exact ht
    · unfold taken; rw [ih (by omega)]; rfl
theorem law_isTaken {post : Int32 → MS → Prop} {σ : MS} {a b : Int32} {n : Nat} (h8 : σ 0 8 = nI n) (hn : n ≤ 14) (h : post (b01 (taken σ a b n)) σ) : w_X7_isTaken post σ a b := by
  have key : ∀ d i, i + d = n → taken σ a b i = false → u_X7_isTaken_2 post a b (d + 1) σ (nI i) := by
    intro d
    induction d with
    | zero =>
      intro i hi hf
      obtain rfl : i = n := by omega
      rw [u_X7_isTaken_2]
      rw [hf] at h
      exact ⟨fun _ => h, fun c => absurd (by rw [h8]; exact le_self _) c⟩
    | succ d ih =>
      intro i hi hf
      have step : ¬ (σ (73 + i) 7 = 1 ∧ σ (73 + i) 0 = a ∧ σ (73 + i) 1 = b) → u_X7_isTaken_2 post a b (d + 1) σ (nI (i + 1)) := fun hx => ih (i + 1) (by omega) (by unfold taken; rw [hf, decide_eq_false hx]; rfl)
      rw [u_X7_isTaken_2, h8, nI_1, nI_clamp (by omega)]
      refine ⟨fun c => absurd c (nI_ge (by omega) (by omega)), fun _ => ⟨vp_in_nI (by omega) (by decide), fun c1 => ⟨fun c2 => ⟨fun c3 => ?_, fun c3 => step fun q => c3 q.2.2⟩, fun c2 => step fun q => c2 q.2.1⟩, fun c1 => step fun q => c1 q.1⟩⟩
      have ht : taken σ a b (i + 1) = true := by unfold taken; rw [decide_eq_true ⟨c1, c2, c3⟩, Bool.or_true]
      rw [taken_le (n := n) (by omega) ht] at h
      exact h
  exact ⟨n + 1, key n 0 (by omega) rfl⟩
def quF (σ : MS) (w : Nat) : Int32 := ((if (((24 - (σ (73 + w) 3)) - (σ (73 + w) 4)) * 60) < (σ (73 + w) 10) then (((24 - (σ (73 + w) 3)) - (σ (73 + w) 4)) * 60) else (σ (73 + w) 10)) + 14) / 15
theorem law_quarters {post : Int32 → MS → Prop} {σ : MS} {w : Nat} (h : post (quF σ w) σ) : w_X6_quarters post σ w := by
  unfold w_X6_quarters
  intro y hy
  subst hy
  exact h
def sumI (f : Nat → Int32) : Nat → Int32
  | 0 => 0
  | n + 1 => sumI f n + f n
/-- the bit p of s: f p, else 0 -/
abbrev ifb (s : Int32) (f : Nat → Int32) : Nat → Int32 := fun p => if bt s p = true then f p else 0
def feesF (σ : MS) (w n : Nat) : Int32 := sumI (ifb (σ (73 + w) 8) fun p => σ (29 + p) 3) n
def extraF (σ : MS) (w n : Nat) : Int32 := (quF σ w * feesF σ w n) / 4
theorem law_extraOf {post : Int32 → MS → Prop} {σ : MS} {w n : Nat} (h6 : σ 0 6 = nI n) (hn : n ≤ 10) (h : post (extraF σ w n) σ) : w_X7_extraOf post σ w := by
  unfold w_X7_extraOf
  refine up_loop (fun k (p : MS × Int32 × Int32) => u_X7_extraOf_4 post w k p.1 p.2.1 p.2.2) (fun i => (σ, feesF σ w i, nI i)) n ?_ (fun i k hi hk => ?_)
  · show u_X7_extraOf_4 post w 1 σ (feesF σ w n) (nI n)
    rw [u_X7_extraOf_4, h6]
    exact ⟨fun _ => law_quarters h, fun c => absurd (le_self _) c⟩
  · show u_X7_extraOf_4 post w (k + 1) σ (feesF σ w i) (nI i)
    have hk : u_X7_extraOf_4 post w k σ (feesF σ w i + ifb (σ (73 + w) 8) (fun p => σ (29 + p) 3) i) (nI (i + 1)) := hk
    rw [u_X7_extraOf_4, h6, nI_1, nI_clamp (by omega)]
    refine ⟨fun c => absurd c (nI_ge hi (by omega)), fun _ => law_has (by omega) ⟨fun c => ?_, fun c => ⟨vp_in_nI (by omega) (by decide), ?_⟩⟩⟩
    · unfold ifb at hk
      rw [if_neg (by rw [b01_0.mp c]; exact Bool.false_ne_true), Int32.add_zero] at hk
      exact hk
    · unfold ifb at hk
      rw [if_pos (b01_1.mp c)] at hk
      exact hk
def wayF (σ : MS) (a b : Int32) : Int32 := σ (23 + a.toNatClampNeg) b.toNatClampNeg
theorem law_between {post : Int32 → MS → Prop} {σ : MS} {a b : Int32} (ha : vp_in a 6) (hb : vp_in b 6) (h : post (wayF σ a b) σ) : w_X4_between post σ a b := ⟨ha, hb, h⟩
def costF (σ : MS) (p w : Nat) : Int32 := ((σ (29 + p) 3) * (σ (73 + w) 4)) + (10 * (if 0 < wayF σ (σ (29 + p) 2) (σ (73 + w) 2) then wayF σ (σ (29 + p) 2) (σ (73 + w) 2) else 0))
theorem law_costAt {post : Int32 → MS → Prop} {σ : MS} {p w : Nat} (ha : vp_in (σ (29 + p) 2) 6) (hb : vp_in (σ (73 + w) 2) 6) (h : post (costF σ p w) σ) : w_X7_costAt post σ p w := law_between ha hb h
def wageF (σ : MS) (p w : Nat) : Int32 := costF σ p w + ((quF σ w * (σ (29 + p) 3)) / 4)
theorem law_wageAt {post : Int32 → MS → Prop} {σ : MS} {p w : Nat} (ha : vp_in (σ (29 + p) 2) 6) (hb : vp_in (σ (73 + w) 2) 6) (h : post (wageF σ p w) σ) : w_X7_wageAt post σ p w := law_costAt ha hb (law_quarters h)
def owedF (σ : MS) (w : Nat) : Int32 :=
  if σ (73 + w) 1 - σ 0 9 < 30 then (if σ (73 + w) 1 - σ 0 9 < 14 then (if σ (73 + w) 1 - σ 0 9 < 7 then (σ (73 + w) 9 * 100) / 100 else (σ (73 + w) 9 * 70) / 100) else (σ (73 + w) 9 * 40) / 100) else (σ (73 + w) 9 * 20) / 100
theorem law_owedFor {post : Int32 → MS → Prop} {σ : MS} {w : Nat} (h : post (owedF σ w) σ) : w_X7_owedFor post σ w := by
  unfold w_X7_owedFor
  unfold owedF at h
  refine ⟨fun c => ⟨fun d => ⟨fun e => ?_, fun e => ?_⟩, fun d => ?_⟩, fun c => ?_⟩
  · rw [if_pos c, if_pos d, if_pos e] at h; exact h
  · rw [if_pos c, if_pos d, if_neg e] at h; exact h
  · rw [if_pos c, if_neg d] at h; exact h
  · rw [if_neg c] at h; exact h
def wagesF (σ : MS) (w n : Nat) : Int32 := sumI (ifb (σ (73 + w) 8) fun p => wageF σ p w) n
theorem law_allWagesAt {post : Int32 → MS → Prop} {σ : MS} {w n : Nat} (h6 : σ 0 6 = nI n) (hn : n ≤ 10) (ht : ∀ p, p < n → vp_in (σ (29 + p) 2) 6) (hb : vp_in (σ (73 + w) 2) 6) (h : post (wagesF σ w n) σ) : w_X7_allWagesAt post σ w := by
  unfold w_X7_allWagesAt
  refine up_loop (fun k (p : MS × Int32 × Int32) => u_X7_allWagesAt_4 post w k p.1 p.2.1 p.2.2) (fun i => (σ, wagesF σ w i, nI i)) n ?_ (fun i k hi hk => ?_)
  · show u_X7_allWagesAt_4 post w 1 σ (wagesF σ w n) (nI n)
    rw [u_X7_allWagesAt_4, h6]
    exact ⟨fun _ => h, fun c => absurd (le_self _) c⟩
  · show u_X7_allWagesAt_4 post w (k + 1) σ (wagesF σ w i) (nI i)
    have hk : u_X7_allWagesAt_4 post w k σ (wagesF σ w i + ifb (σ (73 + w) 8) (fun p => wageF σ p w) i) (nI (i + 1)) := hk
    rw [u_X7_allWagesAt_4, h6, nI_1, nI_clamp (by omega)]
    refine ⟨fun c => absurd c (nI_ge hi (by omega)), fun _ => law_has (by omega) ⟨fun c => ?_, fun c => ⟨vp_in_nI (by omega) (by decide), law_wageAt (ht i hi) hb ?_⟩⟩⟩
    · unfold ifb at hk
      rw [if_neg (by rw [b01_0.mp c]; exact Bool.false_ne_true), Int32.add_zero] at hk
      exact hk
    · unfold ifb at hk
      rw [if_pos (b01_1.mp c)] at hk
      exact hk
end
section
/-! LAWS: counts, stage, who is free -/
def fxw (σ : MS) (w p : Nat) : Bool := decide (σ (73 + w) 7 = 1) && bt (σ (73 + w) 8) p
theorem law_isFixedWith {post : Int32 → MS → Prop} {σ : MS} {w p : Nat} (hp : p < 32) (h : post (b01 (fxw σ w p)) σ) : w_X6_isFixedWith post σ w (nI p) := by
  unfold w_X6_isFixedWith
  unfold fxw at h
  refine ⟨fun c => law_has hp ?_, fun c => ?_⟩
  · rw [decide_eq_true c, Bool.true_and] at h
    refine ⟨fun d => ?_, fun d => ?_⟩
    · rw [b01_0.mp d] at h; exact h
    · rw [b01_1.mp d] at h; exact h
  · rw [decide_eq_false c, Bool.false_and] at h
    exact h
theorem law_countFixedWith {post : Int32 → MS → Prop} {σ : MS} {p n : Nat} (hp : p < 32) (h8 : σ 0 8 = nI n) (hn : n ≤ 14) (h : post (nI (fb_ct (fun w => fxw σ w p) n)) σ) : w_X7_countFixedWith post σ (nI p) := by
  unfold w_X7_countFixedWith
  refine up_loop (fun k (q : MS × Int32 × Int32) => u_X7_countFixedWith_4 post (nI p) k q.1 q.2.1 q.2.2) (fun i => (σ, nI (fb_ct (fun w => fxw σ w p) i), nI i)) n ?_ (fun i k hi hk => ?_)
  · show u_X7_countFixedWith_4 post (nI p) 1 σ (nI (fb_ct (fun w => fxw σ w p) n)) (nI n)
    rw [u_X7_countFixedWith_4, h8]
    exact ⟨fun _ => h, fun c => absurd (le_self _) c⟩
  · show u_X7_countFixedWith_4 post (nI p) (k + 1) σ (nI (fb_ct (fun w => fxw σ w p) i)) (nI i)
    have hk : u_X7_countFixedWith_4 post (nI p) k σ (nI (fb_ct (fun w => fxw σ w p) i + (if fxw σ i p then 1 else 0))) (nI (i + 1)) := hk
    rw [u_X7_countFixedWith_4, h8, nI_1, nI_1, nI_clamp (by omega)]
    refine ⟨fun c => absurd c (nI_ge hi (by omega)), fun _ => ⟨vp_in_nI (by omega) (by decide), law_isFixedWith hp ⟨fun c => ?_, fun c => ?_⟩⟩⟩
    · rw [b01_0.mp c] at hk; exact hk
    · rw [b01_1.mp c] at hk; exact hk
theorem law_countKnowing {post : Int32 → MS → Prop} {σ : MS} {s n : Nat} (hs : s < 32) (h6 : σ 0 6 = nI n) (hn : n ≤ 10) (h : post (nI (fb_ct (fun q => bt (σ (29 + q) 1) s) n)) σ) : w_X7_countKnowing post σ (nI s) := by
  unfold w_X7_countKnowing
  refine up_loop (fun k (q : MS × Int32 × Int32) => u_X7_countKnowing_4 post (nI s) k q.1 q.2.1 q.2.2) (fun i => (σ, nI (fb_ct (fun q => bt (σ (29 + q) 1) s) i), nI i)) n ?_ (fun i k hi hk => ?_)
  · show u_X7_countKnowing_4 post (nI s) 1 σ (nI (fb_ct (fun q => bt (σ (29 + q) 1) s) n)) (nI n)
    rw [u_X7_countKnowing_4, h6]
    exact ⟨fun _ => h, fun c => absurd (le_self _) c⟩
  · show u_X7_countKnowing_4 post (nI s) (k + 1) σ (nI (fb_ct (fun q => bt (σ (29 + q) 1) s) i)) (nI i)
    have hk : u_X7_countKnowing_4 post (nI s) k σ (nI (fb_ct (fun q => bt (σ (29 + q) 1) s) i + (if bt (σ (29 + i) 1) s then 1 else 0))) (nI (i + 1)) := hk
    rw [u_X7_countKnowing_4, h6, nI_1, nI_1, nI_clamp (by omega)]
    refine ⟨fun c => absurd c (nI_ge hi (by omega)), fun _ => ⟨vp_in_nI (by omega) (by decide), law_has hs ⟨fun c => ?_, fun c => ?_⟩⟩⟩
    · rw [b01_0.mp c] at hk; exact hk
    · rw [b01_1.mp c] at hk; exact hk
def ofBd (σ : MS) (a b : Int32) (w : Nat) : Bool := decide (σ (73 + w) 0 = a ∧ (b = 0 ∨ σ (73 + w) 7 = 2))
theorem law_countOfBand {post : Int32 → MS → Prop} {σ : MS} {a b : Int32} {n : Nat} (h8 : σ 0 8 = nI n) (hn : n ≤ 14) (h : post (nI (fb_ct (ofBd σ a b) n)) σ) : w_X7_countOfBand post σ a b := by
  unfold w_X7_countOfBand
  refine up_loop (fun k (q : MS × Int32 × Int32) => u_X7_countOfBand_5 post a b k q.1 q.2.1 q.2.2) (fun i => (σ, nI (fb_ct (ofBd σ a b) i), nI i)) n ?_ (fun i k hi hk => ?_)
  · show u_X7_countOfBand_5 post a b 1 σ (nI (fb_ct (ofBd σ a b) n)) (nI n)
    rw [u_X7_countOfBand_5, h8]
    exact ⟨fun _ => h, fun c => absurd (le_self _) c⟩
  · show u_X7_countOfBand_5 post a b (k + 1) σ (nI (fb_ct (ofBd σ a b) i)) (nI i)
    have hk : u_X7_countOfBand_5 post a b k σ (nI (fb_ct (ofBd σ a b) i + (if ofBd σ a b i then 1 else 0))) (nI (i + 1)) := hk
    unfold ofBd at hk ⊢
    rw [u_X7_countOfBand_5, h8, nI_1, nI_1, nI_clamp (by omega)]
    refine ⟨fun c => absurd c (nI_ge hi (by omega)), fun _ => ⟨vp_in_nI (by omega) (by decide), fun c => ⟨fun d => ?_, fun d => ⟨vp_in_nI (by omega) (by decide), fun e => ?_, fun e => ?_⟩⟩, fun c => ?_⟩⟩
    · rw [decide_eq_true (⟨c, Or.inl d⟩ : _ ∧ _)] at hk; exact hk
    · rw [decide_eq_true (⟨c, Or.inr e⟩ : _ ∧ _)] at hk; exact hk
    · rw [decide_eq_false (fun q => q.2.elim d e)] at hk; exact hk
    · rw [decide_eq_false (fun q => c q.1)] at hk; exact hk
theorem law_countFeuds {post : Int32 → MS → Prop} {σ : MS} {n : Nat} (h6 : σ 0 6 = nI n) (hn : n ≤ 10) (h : post (sumI (fun p => bcI (σ (29 + p) 4)) n / 2) σ) : w_X7_countFeuds post σ := by
  unfold w_X7_countFeuds
  refine up_loop (fun k (q : MS × Int32 × Int32) => u_X7_countFeuds_4 post k q.1 q.2.1 q.2.2) (fun i => (σ, sumI (fun p => bcI (σ (29 + p) 4)) i, nI i)) n ?_ (fun i k hi hk => ?_)
  · show u_X7_countFeuds_4 post 1 σ (sumI (fun p => bcI (σ (29 + p) 4)) n) (nI n)
    rw [u_X7_countFeuds_4, h6]
    exact ⟨fun _ => h, fun c => absurd (le_self _) c⟩
  · show u_X7_countFeuds_4 post (k + 1) σ (sumI (fun p => bcI (σ (29 + p) 4)) i) (nI i)
    rw [u_X7_countFeuds_4, h6, nI_1, nI_clamp (by omega)]
    exact ⟨fun c => absurd c (nI_ge hi (by omega)), fun _ => ⟨vp_in_nI (by omega) (by decide), law_bitCount hk⟩⟩
theorem law_countDaysOff {post : Int32 → MS → Prop} {σ : MS} (h : post (sumI (fun d => bcI (σ 6 d)) 366) σ) : w_X7_countDaysOff post σ := by
  unfold w_X7_countDaysOff
  refine up_loop (fun k (q : MS × Int32 × Int32) => u_X7_countDaysOff_4 post k q.1 q.2.1 q.2.2) (fun i => (σ, sumI (fun d => bcI (σ 6 d)) i, nI i)) 366 ?_ (fun i k hi hk => ?_)
  · show u_X7_countDaysOff_4 post 1 σ (sumI (fun d => bcI (σ 6 d)) 366) (nI 366)
    rw [u_X7_countDaysOff_4]
    exact ⟨fun _ => h, fun c => absurd (show (365 : Int32) < nI 366 by decide) c⟩
  · show u_X7_countDaysOff_4 post (k + 1) σ (sumI (fun d => bcI (σ 6 d)) i) (nI i)
    rw [u_X7_countDaysOff_4, nI_1, nI_clamp (by omega)]
    exact ⟨fun c => absurd (show nI 365 < nI i from c) (nI_nlt (by omega) (by decide)), fun _ => ⟨vp_in_nI (by omega) (by decide), law_bitCount hk⟩⟩
theorem law_allEarned {post : Int32 → MS → Prop} {σ : MS} {n : Nat} (h6 : σ 0 6 = nI n) (hn : n ≤ 10) (h : post (sumI (fun p => σ (29 + p) 5) n) σ) : w_X7_allEarned post σ := by
  unfold w_X7_allEarned
  refine up_loop (fun k (q : MS × Int32 × Int32) => u_X7_allEarned_4 post k q.1 q.2.1 q.2.2) (fun i => (σ, sumI (fun p => σ (29 + p) 5) i, nI i)) n ?_ (fun i k hi hk => ?_)
  · show u_X7_allEarned_4 post 1 σ (sumI (fun p => σ (29 + p) 5) n) (nI n)
    rw [u_X7_allEarned_4, h6]
    exact ⟨fun _ => h, fun c => absurd (le_self _) c⟩
  · show u_X7_allEarned_4 post (k + 1) σ (sumI (fun p => σ (29 + p) 5) i) (nI i)
    rw [u_X7_allEarned_4, h6, nI_1, nI_clamp (by omega)]
    exact ⟨fun c => absurd c (nI_ge hi (by omega)), fun _ => ⟨vp_in_nI (by omega) (by decide), hk⟩⟩
def mxI (f : Nat → Int32) (m : Int32) : Nat → Int32
  | 0 => m
  | n + 1 => if mxI f m n < f n then f n else mxI f m n
def mnI (f : Nat → Int32) (m : Int32) : Nat → Int32
  | 0 => m
  | n + 1 => if f n < mnI f m n then f n else mnI f m n
def gapF (σ : MS) (n : Nat) : Int32 := mxI (fun p => σ (29 + p) 7) 0 n - mnI (fun p => σ (29 + p) 7) (if n = 0 then 0 else σ 29 7) n
theorem law_gapOfHours {post : Int32 → MS → Prop} {σ : MS} {n : Nat} (h6 : σ 0 6 = nI n) (hn : n ≤ 10) (h : post (gapF σ n) σ) : w_X7_gapOfHours post σ := by
  have key : ∀ m0 : Int32, post (mxI (fun p => σ (29 + p) 7) 0 n - mnI (fun p => σ (29 + p) 7) m0 n) σ → ∃ k, u_X7_gapOfHours_25 post k σ 0 m0 0 := by
    intro m0 h
    refine up_loop (fun k (q : MS × Int32 × Int32 × Int32) => u_X7_gapOfHours_25 post k q.1 q.2.1 q.2.2.1 q.2.2.2) (fun i => (σ, mxI (fun p => σ (29 + p) 7) 0 i, mnI (fun p => σ (29 + p) 7) m0 i, nI i)) n ?_ (fun i k hi hk => ?_)
    · show u_X7_gapOfHours_25 post 1 σ (mxI (fun p => σ (29 + p) 7) 0 n) (mnI (fun p => σ (29 + p) 7) m0 n) (nI n)
      rw [u_X7_gapOfHours_25, h6]
      exact ⟨fun _ => h, fun c => absurd (le_self _) c⟩
    · show u_X7_gapOfHours_25 post (k + 1) σ (mxI (fun p => σ (29 + p) 7) 0 i) (mnI (fun p => σ (29 + p) 7) m0 i) (nI i)
      rw [u_X7_gapOfHours_25, h6, nI_1, nI_clamp (by omega)]
      exact ⟨fun c => absurd c (nI_ge hi (by omega)), fun _ => ⟨vp_in_nI (by omega) (by decide), vp_in_nI (by omega) (by decide), hk⟩⟩
  unfold w_X7_gapOfHours
  unfold gapF at h
  rw [h6]
  refine ⟨fun c => ?_, fun c => ⟨(by show ¬ ((0 : Int32) < 0 ∨ 10 ≤ (0 : Int32).toNatClampNeg); decide), ?_⟩⟩
  · have hz : n = 0 := (nI_eq (by omega) (by decide)).mp (c.trans nI_0.symm)
    rw [if_pos hz] at h
    exact key 0 h
  · have hz : ¬ n = 0 := fun q => c (by rw [q]; exact nI_0)
    rw [if_neg hz] at h
    exact key _ h
def shAll (σ : MS) : Int32 := sumI (fun s => σ (39 + s) 2 * σ (39 + s) 3) 16
def shareF (σ : MS) (s : Nat) : Int32 := if shAll σ = 0 then 0 else ((σ (39 + s) 2 * σ (39 + s) 3) * 1000) / shAll σ
theorem law_shareOf {post : Int32 → MS → Prop} {σ : MS} {s : Nat} (h : post (shareF σ s) σ) : w_X7_shareOf post σ s := by
  unfold w_X7_shareOf
  refine up_loop (fun k (q : MS × Int32 × Int32) => u_X7_shareOf_4 post s k q.1 q.2.1 q.2.2) (fun i => (σ, sumI (fun s => σ (39 + s) 2 * σ (39 + s) 3) i, nI i)) 16 ?_ (fun i k hi hk => ?_)
  · show u_X7_shareOf_4 post s 1 σ (shAll σ) (nI 16)
    unfold shareF at h
    rw [u_X7_shareOf_4]
    refine ⟨fun _ => ⟨fun c => ?_, fun c => ⟨c, ?_⟩⟩, fun c => absurd (show (16 : Int32) ≤ nI 16 by decide) c⟩
    · rw [if_pos c] at h; exact h
    · rw [if_neg c] at h; exact h
  · show u_X7_shareOf_4 post s (k + 1) σ (sumI (fun s => σ (39 + s) 2 * σ (39 + s) 3) i) (nI i)
    rw [u_X7_shareOf_4, nI_1, nI_clamp (by omega)]
    exact ⟨fun c => absurd (show nI 16 ≤ nI i from c) (nI_ge hi (by decide)), fun _ => ⟨vp_in_nI (by omega) (by decide), vp_in_nI (by omega) (by decide), hk⟩⟩
/-- who plays as it is fixed, the first n of stage -/
def stg (σ : MS) (n : Nat) : MS := fun k j => if k = 7 ∧ j < n then (if σ (73 + j) 7 = 1 then σ (73 + j) 8 else 0) else σ k j
theorem stg_0 (σ : MS) : stg σ 0 = σ := by
  funext k j
  exact if_neg (by omega)
theorem stg_k {σ : MS} {n k : Nat} (h : k ≠ 7) : stg σ n k = σ k := by
  funext j
  exact if_neg (fun q => h q.1)
theorem stg_s (σ : MS) (n : Nat) : stg σ (n + 1) = up2 (stg σ n) 7 n (if σ (73 + n) 7 = 1 then σ (73 + n) 8 else 0) := by
  funext k j
  by_cases hk : k = 7
  · subst hk
    rw [up2_eq]
    unfold upd stg
    by_cases hj : j = n
    · subst hj
      rw [if_pos ⟨rfl, by omega⟩, if_pos rfl]
    · rw [if_neg hj]
      by_cases h2 : j < n
      · rw [if_pos (show (7 : Nat) = 7 ∧ j < n + 1 from ⟨rfl, by omega⟩), if_pos (show (7 : Nat) = 7 ∧ j < n from ⟨rfl, h2⟩)]
      · rw [if_neg (fun q => absurd q.2 (by omega)), if_neg (fun q => h2 q.2)]
  · rw [up2_ne hk, stg_k hk, stg_k hk]
theorem law_stageAsFixed {post : MS → Prop} {σ : MS} {n : Nat} (h8 : σ 0 8 = nI n) (hn : n ≤ 14) (h : post (stg σ n)) : w_X7_stageAsFixed post σ := by
  unfold w_X7_stageAsFixed
  have hl := up_loop (fun k (q : MS × Int32) => u_X7_stageAsFixed_2 post k q.1 q.2) (fun i => (stg σ i, nI i)) n ?_ (fun i k hi hk => ?_)
  · have hl : ∃ k, u_X7_stageAsFixed_2 post k (stg σ 0) 0 := hl
    rw [stg_0] at hl
    exact hl
  · show u_X7_stageAsFixed_2 post 1 (stg σ n) (nI n)
    rw [u_X7_stageAsFixed_2, stg_k (by decide), h8]
    exact ⟨fun _ => h, fun c => absurd (le_self _) c⟩
  · show u_X7_stageAsFixed_2 post (k + 1) (stg σ i) (nI i)
    have hk : u_X7_stageAsFixed_2 post k (stg σ (i + 1)) (nI (i + 1)) := hk
    rw [stg_s] at hk
    rw [u_X7_stageAsFixed_2, nI_1, nI_clamp (by omega), stg_k (k := 0) (by decide), stg_k (k := 73 + i) (by omega), h8]
    have v : vp_in (nI i) 14 := vp_in_nI (by omega) (by decide)
    refine ⟨fun c => absurd c (nI_ge hi (by omega)), fun _ => ⟨v, fun c => ⟨v, v, ?_⟩, fun c => ⟨v, ?_⟩⟩⟩
    · rw [if_pos c] at hk; exact hk
    · rw [if_neg c] at hk; exact hk
/-- those who waited too long are lost, of the first n -/
def waitL (σ : MS) (n : Nat) : MS := fun k j => if 73 ≤ k ∧ k < 73 + n ∧ σ k 7 = 0 ∧ ¬ σ 0 9 < σ k 6 + 5 ∧ j = 7 then 3 else σ k j
theorem waitL_0 (σ : MS) : waitL σ 0 = σ := by
  funext k j
  exact if_neg (by omega)
theorem waitL_k {σ : MS} {n k : Nat} (h : ¬ (73 ≤ k ∧ k < 73 + n)) : waitL σ n k = σ k := by
  funext j
  exact if_neg (fun q => h ⟨q.1, q.2.1⟩)
theorem waitL_s (σ : MS) (n : Nat) : waitL σ (n + 1) = if σ (73 + n) 7 = 0 ∧ ¬ σ 0 9 < σ (73 + n) 6 + 5 then up2 (waitL σ n) (73 + n) 7 3 else waitL σ n := by
  by_cases h : σ (73 + n) 7 = 0 ∧ ¬ σ 0 9 < σ (73 + n) 6 + 5
  · rw [if_pos h]
    funext k j
    by_cases hk : k = 73 + n
    · subst hk
      rw [up2_eq]
      unfold upd waitL
      by_cases hj : j = 7
      · rw [if_pos hj, if_pos ⟨by omega, by omega, h.1, h.2, hj⟩]
      · rw [if_neg hj, if_neg (fun q => hj q.2.2.2.2), if_neg (fun q => hj q.2.2.2.2)]
    · rw [up2_ne hk]
      unfold waitL
      by_cases q : 73 ≤ k ∧ k < 73 + n ∧ σ k 7 = 0 ∧ ¬ σ 0 9 < σ k 6 + 5 ∧ j = 7
      · rw [if_pos q, if_pos ⟨q.1, by omega, q.2.2⟩]
      · rw [if_neg q, if_neg (fun z => q ⟨z.1, by omega, z.2.2⟩)]
  · rw [if_neg h]
    funext k j
    unfold waitL
    by_cases q : 73 ≤ k ∧ k < 73 + n ∧ σ k 7 = 0 ∧ ¬ σ 0 9 < σ k 6 + 5 ∧ j = 7
    · rw [if_pos q, if_pos ⟨q.1, by omega, q.2.2⟩]
    · rw [if_neg q, if_neg (fun z => ?_)]
      by_cases hk : k = 73 + n
      · subst hk
        exact h ⟨z.2.2.1, z.2.2.2.1⟩
      · exact q ⟨z.1, by omega, z.2.2⟩
theorem law_loseThoseWhoWaited {post : MS → Prop} {σ : MS} {n : Nat} (h8 : σ 0 8 = nI n) (hn : n ≤ 14) (h : post (waitL σ n)) : w_X7_loseThoseWhoWaited post σ := by
  unfold w_X7_loseThoseWhoWaited
  have hl := up_loop (fun k (q : MS × Int32) => u_X7_loseThoseWhoWaited_2 post k q.1 q.2) (fun i => (waitL σ i, nI i)) n ?_ (fun i k hi hk => ?_)
  · have hl : ∃ k, u_X7_loseThoseWhoWaited_2 post k (waitL σ 0) 0 := hl
    rw [waitL_0] at hl
    exact hl
  · show u_X7_loseThoseWhoWaited_2 post 1 (waitL σ n) (nI n)
    rw [u_X7_loseThoseWhoWaited_2, waitL_k (k := 0) (by omega), h8]
    exact ⟨fun _ => h, fun c => absurd (le_self _) c⟩
  · show u_X7_loseThoseWhoWaited_2 post (k + 1) (waitL σ i) (nI i)
    have hk : u_X7_loseThoseWhoWaited_2 post k (waitL σ (i + 1)) (nI (i + 1)) := hk
    rw [waitL_s] at hk
    rw [u_X7_loseThoseWhoWaited_2, nI_1, nI_clamp (by omega), waitL_k (k := 0) (by omega), waitL_k (k := 73 + i) (by omega), h8]
    have v : vp_in (nI i) 14 := vp_in_nI (by omega) (by decide)
    refine ⟨fun c => absurd c (nI_ge hi (by omega)), fun _ => ⟨v, fun c => ⟨v, fun d => ?_, fun d => ⟨v, ?_⟩⟩, fun c => ?_⟩⟩
    · rw [if_neg (fun q => q.2 d)] at hk; exact hk
    · rw [if_pos ⟨c, d⟩] at hk; exact hk
    · rw [if_neg (fun q => c q.1)] at hk; exact hk
end
section
/-! LAWS: what holds of every state; who is free; feuds, costs, songs of a set -/
def Ok (σ : MS) (P B W T : Nat) : Prop :=
  (σ 0 6 = nI P) ∧ (P ≤ 10) ∧ (σ 0 7 = nI B) ∧ (B ≤ 6) ∧ (σ 0 8 = nI W) ∧ (W ≤ 14) ∧ (σ 0 9 = nI T) ∧ (T ≤ 365) ∧ (∀ p, p < 10 → vp_in (σ (29 + p) 2) 6) ∧ (∀ w, w < 14 → vp_in (σ (73 + w) 0) 6) ∧ (∀ w, w < 14 → vp_in (σ (73 + w) 1) 366) ∧ (∀ w, w < 14 → vp_in (σ (73 + w) 2) 6) ∧ (∀ b, b < 6 → ∃ s, s ≤ 5 ∧ σ (55 + b) 2 = nI s) ∧ (∀ b j, b < 6 → j < 5 → ∃ q, q < 6 ∧ σ (67 + b) j = nI q)
theorem Ok.h6 {σ : MS} {P B W T : Nat} (O : Ok σ P B W T) : σ 0 6 = nI P := O.1
theorem Ok.hP {σ : MS} {P B W T : Nat} (O : Ok σ P B W T) : P ≤ 10 := O.2.1
theorem Ok.h7 {σ : MS} {P B W T : Nat} (O : Ok σ P B W T) : σ 0 7 = nI B := O.2.2.1
theorem Ok.hB {σ : MS} {P B W T : Nat} (O : Ok σ P B W T) : B ≤ 6 := O.2.2.2.1
theorem Ok.h8 {σ : MS} {P B W T : Nat} (O : Ok σ P B W T) : σ 0 8 = nI W := O.2.2.2.2.1
theorem Ok.hW {σ : MS} {P B W T : Nat} (O : Ok σ P B W T) : W ≤ 14 := O.2.2.2.2.2.1
theorem Ok.h9 {σ : MS} {P B W T : Nat} (O : Ok σ P B W T) : σ 0 9 = nI T := O.2.2.2.2.2.2.1
theorem Ok.hT {σ : MS} {P B W T : Nat} (O : Ok σ P B W T) : T ≤ 365 := O.2.2.2.2.2.2.2.1
theorem Ok.home {σ : MS} {P B W T : Nat} (O : Ok σ P B W T) : ∀ p, p < 10 → vp_in (σ (29 + p) 2) 6 := O.2.2.2.2.2.2.2.2.1
theorem Ok.band {σ : MS} {P B W T : Nat} (O : Ok σ P B W T) : ∀ w, w < 14 → vp_in (σ (73 + w) 0) 6 := O.2.2.2.2.2.2.2.2.2.1
theorem Ok.day {σ : MS} {P B W T : Nat} (O : Ok σ P B W T) : ∀ w, w < 14 → vp_in (σ (73 + w) 1) 366 := O.2.2.2.2.2.2.2.2.2.2.1
theorem Ok.town {σ : MS} {P B W T : Nat} (O : Ok σ P B W T) : ∀ w, w < 14 → vp_in (σ (73 + w) 2) 6 := O.2.2.2.2.2.2.2.2.2.2.2.1
theorem Ok.size {σ : MS} {P B W T : Nat} (O : Ok σ P B W T) : ∀ b, b < 6 → ∃ s, s ≤ 5 ∧ σ (55 + b) 2 = nI s := O.2.2.2.2.2.2.2.2.2.2.2.2.1
theorem Ok.place {σ : MS} {P B W T : Nat} (O : Ok σ P B W T) : ∀ b j, b < 6 → j < 5 → ∃ q, q < 6 ∧ σ (67 + b) j = nI q := O.2.2.2.2.2.2.2.2.2.2.2.2.2
/-- but for stage, seated, found and the best set -/
def Scr (σ σ' : MS) : Prop := ∀ k, (k < 7 ∨ 15 ≤ k) → σ' k = σ k
theorem Scr.rf (σ : MS) : Scr σ σ := fun _ _ => rfl
theorem Scr.tr {a b c : MS} (h : Scr a b) (g : Scr b c) : Scr a c := fun k hk => (g k hk).trans (h k hk)
theorem Scr.up {σ : MS} {k j : Nat} {v : Int32} (h1 : 7 ≤ k) (h2 : k < 15) : Scr σ (up2 σ k j v) := fun i hi => up2_ne (by omega)
theorem Scr.stg (σ : MS) (n : Nat) : Scr σ (stg σ n) := fun k hk => stg_k (by omega)
theorem Ok.scr {σ σ' : MS} {P B W T : Nat} (O : Ok σ P B W T) (h : Scr σ σ') : Ok σ' P B W T := ⟨(by rw [h 0 (by omega)]; exact O.h6), O.hP, (by rw [h 0 (by omega)]; exact O.h7), O.hB, (by rw [h 0 (by omega)]; exact O.h8), O.hW, (by rw [h 0 (by omega)]; exact O.h9), O.hT, (fun p hp => by rw [h (29 + p) (by omega)]; exact O.home p hp), (fun w hw => by rw [h (73 + w) (by omega)]; exact O.band w hw), (fun w hw => by rw [h (73 + w) (by omega)]; exact O.day w hw), (fun w hw => by rw [h (73 + w) (by omega)]; exact O.town w hw), (fun b hb => by rw [h (55 + b) (by omega)]; exact O.size b hb), (fun b j hb hj => by rw [h (67 + b) (by omega)]; exact O.place b j hb hj)⟩
def lv2 (σ : MS) (e l : Nat) : Bool := decide (¬ wayF σ (σ (73 + e) 2) (σ (73 + l) 2) = -1 ∧ ¬ σ (73 + l) 3 < (σ (73 + e) 3 + σ (73 + e) 4) + wayF σ (σ (73 + e) 2) (σ (73 + l) 2))
def leaveB (σ : MS) (a b : Nat) : Bool := if σ (73 + a) 3 ≤ σ (73 + b) 3 then lv2 σ a b else lv2 σ b a
theorem law_lv2 {post : Int32 → MS → Prop} {σ : MS} {a1 a2 : Int32} {e l : Nat} (hl : l < 14) (h1 : vp_in (σ (73 + e) 2) 6) (h2 : vp_in (σ (73 + l) 2) 6) (h : post (b01 (lv2 σ e l)) σ) : u_X7_leaveTime_56 post a1 a2 σ e (nI l) := by
  unfold u_X7_leaveTime_56
  rw [nI_clamp (by omega)]
  unfold lv2 at h
  refine ⟨vp_in_nI hl (by decide), law_between h1 h2 ⟨fun c => ?_, fun c => ⟨fun d => ?_, fun d => ?_⟩⟩⟩
  · rw [decide_eq_false (fun q => q.1 c)] at h; exact h
  · rw [decide_eq_false (fun q => q.2 d)] at h; exact h
  · rw [decide_eq_true ⟨c, d⟩] at h; exact h
theorem law_leaveTime {post : Int32 → MS → Prop} {σ : MS} {P B W T a b : Nat} (O : Ok σ P B W T) (ha : a < 14) (hb : b < 14) (h : post (b01 (leaveB σ a b)) σ) : w_X7_leaveTime post σ (nI a) (nI b) := by
  unfold w_X7_leaveTime
  rw [nI_clamp (by omega), nI_clamp (by omega)]
  unfold leaveB at h
  refine ⟨vp_in_nI hb (by decide), vp_in_nI ha (by decide), fun c => ?_, fun c => ?_⟩
  · rw [if_pos c] at h
    unfold u_X7_leaveTime_26 u_X7_leaveTime_40
    rw [nI_clamp (by omega)]
    exact ⟨fun _ => ⟨vp_in_nI ha (by decide), fun _ => law_lv2 hb (O.town a ha) (O.town b hb) h, fun q => absurd rfl q⟩, fun q => absurd rfl q⟩
  · rw [if_neg c] at h
    unfold u_X7_leaveTime_26 u_X7_leaveTime_40
    rw [nI_clamp (by omega), nI_clamp (by omega)]
    exact ⟨fun q => absurd q (by decide), fun _ => ⟨vp_in_nI hb (by decide), fun q => absurd q (by decide), fun _ => law_lv2 ha (O.town b hb) (O.town a ha) h⟩⟩
def othB (σ : MS) (p w i : Nat) : Bool := decide (i ≠ w ∧ σ (73 + i) 1 = σ (73 + w) 1 ∧ bt (σ 7 i) p = true)
def okUp (σ : MS) (p w : Nat) : Nat → Bool
  | 0 => true
  | n + 1 => okUp σ p w n && (!othB σ p w n || leaveB σ (if w < n then w else n) (if n < w then w else n))
theorem okUp_le {σ : MS} {p w i n : Nat} (h : i ≤ n) (ht : okUp σ p w i = false) : okUp σ p w n = false := by
  induction n with
  | zero => obtain rfl : i = 0 := by omega
            exact ht
  | succ n ih =>
    by_cases q : i = n + 1
    · subst q; exact ht
    · unfold okUp; rw [ih (by omega)]; rfl
/-- whether the player is there that day, and can come -/
def freeB (σ : MS) (p w W : Nat) : Bool := !bt (σ 6 (σ (73 + w) 1).toNatClampNeg) p && (!decide (wayF σ (σ (29 + p) 2) (σ (73 + w) 2) = -1) && okUp σ p w W)
theorem law_isFreeFor {post : Int32 → MS → Prop} {σ : MS} {P B W T p w : Nat} (O : Ok σ P B W T) (hp : p < 10) (hw : w < 14) (h : post (b01 (freeB σ p w W)) σ) : w_X7_isFreeFor post σ (nI p) (nI w) := by
  have hW := O.hW
  have key : ∀ d i, i + d = W → okUp σ p w i = true → post (b01 (okUp σ p w W)) σ → u_X7_isFreeFor_52 post (nI p) (nI w) (d + 1) σ w (nI i) := by
    intro d
    induction d with
    | zero =>
      intro i hi hf h
      obtain rfl : i = W := by omega
      rw [u_X7_isFreeFor_52, O.h8]
      rw [hf] at h
      exact ⟨fun _ => h, fun c => absurd (le_self _) c⟩
    | succ d ih =>
      intro i hi hf h
      have step : ¬ (othB σ p w i = true) → u_X7_isFreeFor_102 post (nI p) (nI w) (fun σ w0 w1 => u_X7_isFreeFor_52 post (nI p) (nI w) (d + 1) σ w0 w1) σ w (nI i) := fun hx => by
        unfold u_X7_isFreeFor_102 u_X7_isFreeFor_103
        refine ⟨fun _ => ?_, fun q => absurd rfl q⟩
        show u_X7_isFreeFor_52 post (nI p) (nI w) (d + 1) σ w (nI i + 1)
        rw [nI_1]
        refine ih (i + 1) (by omega) ?_ h
        have hx2 : othB σ p w i = false := by cases q : othB σ p w i with
          | false => rfl
          | true => exact absurd q hx
        unfold okUp
        rw [hf, hx2]
        rfl
      rw [u_X7_isFreeFor_52, O.h8, nI_clamp (by omega)]
      have v : vp_in (nI i) 14 := vp_in_nI (by omega) (by decide)
      refine ⟨fun c => absurd c (nI_ge (by omega) (by omega)), fun _ => ⟨fun c => step fun q => ?_, fun c => ⟨v, fun c2 => ⟨v, law_has (by omega) ⟨fun c3 => step fun q => ?_, fun c3 => ?_⟩⟩, fun c2 => step fun q => ?_⟩⟩⟩
      · exact (of_decide_eq_true q).1 ((nI_eq (by omega) (by omega)).mp c)
      · have := (of_decide_eq_true q).2.2
        rw [b01_0.mp c3] at this
        exact Bool.false_ne_true this
      · have ho : othB σ p w i = true := decide_eq_true ⟨fun q => c (by rw [q]), c2, b01_1.mp c3⟩
        unfold u_X7_isFreeFor_103
        refine ⟨fun q => absurd q (by decide), fun _ => ?_⟩
        have e1 : (if nI w < nI i then nI w else nI i) = nI (if w < i then w else i) := by
          by_cases q : w < i
          · rw [if_pos q, if_pos (nI_lt q (by omega))]
          · rw [if_neg q, if_neg (nI_nlt (by omega) (by omega))]
        have e2 : (if nI i < nI w then nI w else nI i) = nI (if i < w then w else i) := by
          by_cases q : i < w
          · rw [if_pos q, if_pos (nI_lt q (by omega))]
          · rw [if_neg q, if_neg (nI_nlt (by omega) (by omega))]
        rw [e1, e2]
        refine law_leaveTime O (by split <;> omega) (by split <;> omega) ⟨fun c4 => ?_, fun c4 => ?_⟩
        · have : okUp σ p w (i + 1) = false := by
            unfold okUp
            rw [hf, ho, b01_0.mp c4]
            rfl
          rw [okUp_le (n := W) (by omega) this] at h
          exact h
        · show u_X7_isFreeFor_52 post (nI p) (nI w) (d + 1) σ w (nI i + 1)
          rw [nI_1]
          refine ih (i + 1) (by omega) ?_ h
          unfold okUp
          rw [hf, ho, b01_1.mp c4]
          rfl
      · exact c2 (of_decide_eq_true q).2.1
  unfold w_X7_isFreeFor
  rw [nI_clamp (by omega), nI_clamp (by omega)]
  unfold freeB at h
  refine ⟨vp_in_nI hw (by decide), O.day w hw, law_has (by omega) ⟨fun c => ⟨vp_in_nI hp (by decide), law_between (O.home p hp) (O.town w hw) ⟨fun c2 => ?_, fun c2 => ⟨W + 1, ?_⟩⟩⟩, fun c => ?_⟩⟩
  · rw [decide_eq_true c2, b01_0.mp c] at h
    exact h
  · rw [decide_eq_false c2, b01_0.mp c] at h
    exact key W 0 (by omega) rfl h
  · rw [b01_1.mp c] at h
    exact h
def orI (f : Nat → Int32) : Nat → Int32
  | 0 => 0
  | n + 1 => orI f n ||| f n
abbrev one (i : Nat) : Int32 := 1 <<< (nI i &&& 31)
def freeF (σ : MS) (w W n : Nat) : Int32 := orI (fun p => if freeB σ p w W = true then one p else 0) n
theorem law_freeFor {post : Int32 → MS → Prop} {σ : MS} {P B W T w : Nat} (O : Ok σ P B W T) (hw : w < 14) (h : post (freeF σ w W P) σ) : w_X7_freeFor post σ (nI w) := by
  have hP := O.hP
  unfold w_X7_freeFor
  refine up_loop (fun k (q : MS × Int32 × Int32) => u_X7_freeFor_4 post (nI w) k q.1 q.2.1 q.2.2) (fun i => (σ, freeF σ w W i, nI i)) P ?_ (fun i k hi hk => ?_)
  · show u_X7_freeFor_4 post (nI w) 1 σ (freeF σ w W P) (nI P)
    rw [u_X7_freeFor_4, O.h6]
    exact ⟨fun _ => h, fun c => absurd (le_self _) c⟩
  · show u_X7_freeFor_4 post (nI w) (k + 1) σ (freeF σ w W i) (nI i)
    have hk : u_X7_freeFor_4 post (nI w) k σ (freeF σ w W i ||| (if freeB σ i w W = true then one i else 0)) (nI (i + 1)) := hk
    rw [u_X7_freeFor_4, O.h6, nI_1]
    refine ⟨fun c => absurd c (nI_ge hi (by omega)), fun _ => law_isFreeFor O (by omega) hw ⟨fun c => ?_, fun c => ?_⟩⟩
    · rw [if_neg (by rw [b01_0.mp c]; exact Bool.false_ne_true), Int32.or_zero] at hk
      exact hk
    · rw [if_pos (b01_1.mp c)] at hk
      exact hk
/-- one of the first n, in the set, has a feud with one in the set -/
def feudB (σ : MS) (s : Int32) : Nat → Bool
  | 0 => false
  | n + 1 => feudB σ s n || decide (bt s n = true ∧ ¬ (σ (29 + n) 4 &&& s) = 0)
theorem feudB_le {σ : MS} {s : Int32} {i n : Nat} (h : i ≤ n) (ht : feudB σ s i = true) : feudB σ s n = true := by
  induction n with
  | zero => obtain rfl : i = 0 := by omega
            exact ht
  | succ n ih =>
    by_cases q : i = n + 1
    · subst q; exact ht
    · unfold feudB; rw [ih (by omega)]; rfl
theorem law_hasFeud {post : Int32 → MS → Prop} {σ : MS} {s : Int32} {n : Nat} (h6 : σ 0 6 = nI n) (hn : n ≤ 10) (h : post (b01 (feudB σ s n)) σ) : w_X7_hasFeud post σ s := by
  have key : ∀ d i, i + d = n → feudB σ s i = false → u_X7_hasFeud_2 post s (d + 1) σ (nI i) := by
    intro d
    induction d with
    | zero =>
      intro i hi hf
      obtain rfl : i = n := by omega
      rw [u_X7_hasFeud_2, h6]
      rw [hf] at h
      exact ⟨fun _ => h, fun c => absurd (le_self _) c⟩
    | succ d ih =>
      intro i hi hf
      have step : ¬ (bt s i = true ∧ ¬ (σ (29 + i) 4 &&& s) = 0) → u_X7_hasFeud_2 post s (d + 1) σ (nI (i + 1)) := fun hx => ih (i + 1) (by omega) (by unfold feudB; rw [hf, decide_eq_false hx]; rfl)
      rw [u_X7_hasFeud_2, h6, nI_1, nI_clamp (by omega)]
      refine ⟨fun c => absurd c (nI_ge (by omega) (by omega)), fun _ => law_has (by omega) ⟨fun c => step fun q => ?_, fun c => ⟨vp_in_nI (by omega) (by decide), fun c2 => step fun q => q.2 c2, fun c2 => ?_⟩⟩⟩
      · rw [b01_0.mp c] at q
        exact Bool.false_ne_true q.1
      · have ht : feudB σ s (i + 1) = true := by unfold feudB; rw [decide_eq_true ⟨b01_1.mp c, c2⟩, Bool.or_true]
        rw [feudB_le (n := n) (by omega) ht] at h
        exact h
  exact ⟨n + 1, key n 0 (by omega) rfl⟩
def costsF (σ : MS) (s : Int32) (w n : Nat) : Int32 := sumI (ifb s fun p => costF σ p w) n
theorem law_costOfAll {post : Int32 → MS → Prop} {σ : MS} {P B W T w : Nat} {s : Int32} (O : Ok σ P B W T) (hw : w < 14) (h : post (costsF σ s w P) σ) : w_X7_costOfAll post σ s w := by
  have hP := O.hP
  unfold w_X7_costOfAll
  refine up_loop (fun k (q : MS × Int32 × Int32) => u_X7_costOfAll_5 post s w k q.1 q.2.1 q.2.2) (fun i => (σ, costsF σ s w i, nI i)) P ?_ (fun i k hi hk => ?_)
  · show u_X7_costOfAll_5 post s w 1 σ (costsF σ s w P) (nI P)
    rw [u_X7_costOfAll_5, O.h6]
    exact ⟨fun _ => h, fun c => absurd (le_self _) c⟩
  · show u_X7_costOfAll_5 post s w (k + 1) σ (costsF σ s w i) (nI i)
    have hk : u_X7_costOfAll_5 post s w k σ (costsF σ s w i + ifb s (fun p => costF σ p w) i) (nI (i + 1)) := hk
    rw [u_X7_costOfAll_5, O.h6, nI_1, nI_clamp (by omega)]
    refine ⟨fun c => absurd c (nI_ge hi (by omega)), fun _ => law_has (by omega) ⟨fun c => ?_, fun c => ⟨vp_in_nI (by omega) (by decide), law_costAt (O.home i (by omega)) (O.town w hw) ?_⟩⟩⟩
    · unfold ifb at hk
      rw [if_neg (by rw [b01_0.mp c]; exact Bool.false_ne_true), Int32.add_zero] at hk
      exact hk
    · unfold ifb at hk
      rw [if_pos (b01_1.mp c)] at hk
      exact hk
/-- songs that one of the set knows, and that two of them know -/
def kn (σ : MS) (s : Int32) : Nat → Int32 × Int32
  | 0 => (0, 0)
  | n + 1 => if bt s n = true then ((kn σ s n).1 ||| σ (29 + n) 1, (kn σ s n).2 ||| ((kn σ s n).1 &&& σ (29 + n) 1)) else kn σ s n
def playF (σ : MS) (s : Int32) (n : Nat) : Int32 := if bcI s = 1 then (kn σ s n).1 else (kn σ s n).2
theorem law_playableFor {post : Int32 → MS → Prop} {σ : MS} {s : Int32} {n : Nat} (h6 : σ 0 6 = nI n) (hn : n ≤ 10) (h : post (playF σ s n) σ) : w_X7_playableFor post σ s := by
  unfold w_X7_playableFor
  refine up_loop (fun k (q : MS × Int32 × Int32 × Int32) => u_X7_playableFor_7 post s k q.1 q.2.1 q.2.2.1 q.2.2.2) (fun i => (σ, (kn σ s i).1, (kn σ s i).2, nI i)) n ?_ (fun i k hi hk => ?_)
  · show u_X7_playableFor_7 post s 1 σ (kn σ s n).1 (kn σ s n).2 (nI n)
    rw [u_X7_playableFor_7, h6]
    unfold playF at h
    refine ⟨fun _ => law_bitCount ⟨fun c => ?_, fun c => ?_⟩, fun c => absurd (le_self _) c⟩
    · rw [if_pos c] at h; exact h
    · rw [if_neg c] at h; exact h
  · show u_X7_playableFor_7 post s (k + 1) σ (kn σ s i).1 (kn σ s i).2 (nI i)
    have hk : u_X7_playableFor_7 post s k σ (kn σ s (i + 1)).1 (kn σ s (i + 1)).2 (nI (i + 1)) := hk
    unfold kn at hk
    rw [u_X7_playableFor_7, h6, nI_1, nI_clamp (by omega)]
    refine ⟨fun c => absurd c (nI_ge hi (by omega)), fun _ => law_has (by omega) ⟨fun c => ?_, fun c => ⟨vp_in_nI (by omega) (by decide), vp_in_nI (by omega) (by decide), ?_⟩⟩⟩
    · rw [if_neg (by rw [b01_0.mp c]; exact Bool.false_ne_true)] at hk
      exact hk
    · rw [if_pos (b01_1.mp c)] at hk
      exact hk
end
section
/-! LAWS: fillings -/
theorem nI_bv (x : Int32) : x = nI x.toBitVec.toNat := Int32.toBitVec_inj.mp (by show _ = BitVec.ofNat 32 _; simp)
theorem and_small {i M : Nat} (hi : i < M) (hM : M < 2 ^ 31) (x : Int32) : ∃ j, j ≤ i ∧ nI i &&& x = nI j := by
  rw [nI_bv x, nx_and]
  exact ⟨_, Nat.and_le_left, rfl⟩
theorem vp_and {i M : Nat} (hi : i < M) (hM : M < 2 ^ 31) (x : Int32) : vp_in (nI i &&& x) M := by
  obtain ⟨j, hj, h⟩ := and_small hi hM x
  rw [h]
  exact vp_in_nI (by omega) hM
def pl (σ : MS) (b j : Nat) : Nat := (σ (67 + b) j).toNatClampNeg
theorem Ok.plc {σ : MS} {P B W T b j : Nat} (O : Ok σ P B W T) (hb : b < 6) (hj : j < 5) : σ (67 + b) j = nI (pl σ b j) ∧ pl σ b j < 6 := by
  obtain ⟨q, hq, h⟩ := O.place b j hb hj
  unfold pl
  rw [h, nI_clamp (by omega)]
  exact ⟨rfl, hq⟩
/-- the set without p, as a number -/
def clr (s : Int32) (p : Nat) : Nat := (s &&& ((1 <<< (nI p &&& 31)) ^^^ (-1))).toNatClampNeg
/-- one of the first n can take the place, and the others are seated -/
def seatB (σ : MS) (b last : Nat) (s : Int32) : Nat → Bool
  | 0 => false
  | n + 1 => seatB σ b last s n || decide (bt s n = true ∧ bt (σ (29 + n) 0) (pl σ b last) = true ∧ ¬ σ 8 (clr s n) = 0)
theorem seatB_le {σ : MS} {b last : Nat} {s : Int32} {i n : Nat} (h : i ≤ n) (ht : seatB σ b last s i = true) : seatB σ b last s n = true := by
  induction n with
  | zero => obtain rfl : i = 0 := by omega
            exact ht
  | succ n ih =>
    by_cases q : i = n + 1
    · subst q; exact ht
    · unfold seatB; rw [ih (by omega)]; rfl
def seatF (σ : MS) (b : Nat) (s : Int32) (P : Nat) : Bool := if bcI s - 1 < 0 then false else if bcI s - 1 < σ (55 + b) 2 then seatB σ b (bcI s - 1).toNatClampNeg s P else false
theorem law_canBeSeated {post : Int32 → MS → Prop} {σ : MS} {P B W T b i : Nat} (O : Ok σ P B W T) (hb : b < 6) (hi : i < 1024) (h : post (b01 (seatF σ b (nI i) P)) σ) : w_X7_canBeSeated post σ (nI i) b := by
  have hP := O.hP
  unfold w_X7_canBeSeated
  unfold seatF at h
  refine law_bitCount ⟨fun c => ?_, fun c => ⟨fun d => ?_, fun d => ?_⟩⟩
  · rw [if_pos c] at h; exact h
  · rw [if_neg c, if_pos d] at h
    obtain ⟨sz, hsz, hs⟩ := O.size b hb
    obtain ⟨last, hlt, hl⟩ := nI_of c
    have hl5 : last < 5 := by
      rw [hl, hs] at d
      have := (nI_ltI hlt (by omega)).mp d
      omega
    rw [hl, nI_clamp (by omega)] at h
    rw [hl]
    obtain ⟨hp1, hp2⟩ := O.plc hb hl5
    have key : ∀ d j, j + d = P → seatB σ b last (nI i) j = false → u_X7_canBeSeated_24 post (nI i) b (d + 1) σ (nI last) (nI j) := by
      intro d
      induction d with
      | zero =>
        intro j hj hf
        obtain rfl : j = P := by omega
        rw [u_X7_canBeSeated_24, O.h6]
        rw [hf] at h
        exact ⟨fun _ => h, fun c => absurd (le_self _) c⟩
      | succ d ih =>
        intro j hj hf
        have step : ¬ (bt (nI i) j = true ∧ bt (σ (29 + j) 0) (pl σ b last) = true ∧ ¬ σ 8 (clr (nI i) j) = 0) → u_X7_canBeSeated_24 post (nI i) b (d + 1) σ (nI last) (nI (j + 1)) := fun hx => ih (j + 1) (by omega) (by unfold seatB; rw [hf, decide_eq_false hx]; rfl)
        rw [u_X7_canBeSeated_24, O.h6, nI_1, nI_clamp (by omega), nI_clamp (by omega)]
        refine ⟨fun c => absurd c (nI_ge (by omega) (by omega)), fun _ => law_has (by omega) ⟨fun c => step fun q => ?_, fun c => ⟨vp_in_nI (by omega) (by decide), vp_in_nI hl5 (by decide), (congrArg (w_X7_has _ _ _) hp1).mpr (law_has (by omega) ⟨fun c2 => step fun q => ?_, fun c2 => ⟨vp_and hi (by decide) _, fun c3 => step fun q => q.2.2 c3, fun c3 => ?_⟩⟩)⟩⟩⟩
        · rw [b01_0.mp c] at q
          exact Bool.false_ne_true q.1
        · rw [b01_0.mp c2] at q
          exact Bool.false_ne_true q.2.1
        · have ht : seatB σ b last (nI i) (j + 1) = true := by unfold seatB; rw [decide_eq_true ⟨b01_1.mp c, b01_1.mp c2, c3⟩, Bool.or_true]
          rw [seatB_le (n := P) (by omega) ht] at h
          exact h
    exact ⟨P + 1, key P 0 (by omega) rfl⟩
  · rw [if_neg c, if_neg d] at h; exact h
/-- seated, as the first n sets are marked -/
def sat (σ : MS) (b P : Nat) : Nat → MS
  | 0 => up2 σ 8 0 1
  | n + 1 => up2 (sat σ b P n) 8 (n + 1) (b01 (seatF (sat σ b P n) b (nI (n + 1)) P))
theorem Scr.sat (σ : MS) (b P : Nat) : ∀ n, Scr σ (sat σ b P n)
  | 0 => Scr.up (by decide) (by decide)
  | n + 1 => (Scr.sat σ b P n).tr (Scr.up (by decide) (by decide))
theorem nar01 (b : Bool) : vp_nar .boolean (b01 b) = b01 b := by cases b <;> decide
theorem shl1 : ∀ P, P ≤ 10 → (1 : Int32) <<< (nI P &&& 31) = nI (2 ^ P) := by decide +kernel
theorem pw1024 {P : Nat} (h : P ≤ 10) : 1 ≤ 2 ^ P ∧ 2 ^ P ≤ 1024 := ⟨Nat.one_le_two_pow, Nat.pow_le_pow_right (by decide) h⟩
theorem law_seatAll {post : MS → Prop} {σ : MS} {P B W T b : Nat} (O : Ok σ P B W T) (hb : b < 6) (h : post (sat σ b P (2 ^ P - 1))) : w_X7_seatAll post σ b := by
  have hP := O.hP
  obtain ⟨hp1, hp2⟩ := pw1024 hP
  unfold w_X7_seatAll
  refine ⟨by show ¬ ((0 : Int32) < 0 ∨ 1024 ≤ (0 : Int32).toNatClampNeg); decide, ?_⟩
  have hl := up_loop (fun k (q : MS × Int32) => u_X7_seatAll_9 post b k q.1 q.2) (fun i => (sat σ b P i, nI (i + 1))) (2 ^ P - 1) ?_ (fun i k hi hk => ?_)
  · exact hl
  · show u_X7_seatAll_9 post b 1 (sat σ b P (2 ^ P - 1)) (nI (2 ^ P - 1 + 1))
    rw [u_X7_seatAll_9, (O.scr (Scr.sat σ b P _)).h6, shl1 P hP, Nat.sub_add_cancel hp1]
    exact ⟨fun _ => h, fun c => absurd (le_self _) c⟩
  · show u_X7_seatAll_9 post b (k + 1) (sat σ b P i) (nI (i + 1))
    have hk : u_X7_seatAll_9 post b k (up2 (sat σ b P i) 8 (i + 1) (b01 (seatF (sat σ b P i) b (nI (i + 1)) P))) (nI (i + 1 + 1)) := hk
    rw [u_X7_seatAll_9, (O.scr (Scr.sat σ b P i)).h6, shl1 P hP, nI_1, nI_clamp (by omega)]
    exact ⟨fun c => absurd c (nI_ge (by omega) (by omega)), fun _ => law_canBeSeated (O.scr (Scr.sat σ b P i)) hb (by omega) ⟨vp_in_nI (by omega) (by decide), by rw [nar01]; exact hk⟩⟩
end
section
/-! LAWS: the survey of a wedding's fillings -/
def addF (σ : MS) (s c k : Int32) : MS :=
  let σ1 := if σ 9 3 = 0 ∨ σ 9 2 < k ∨ (k = σ 9 2 ∧ ¬ σ 9 1 ≤ c) then up2 (up2 (up2 σ 9 0 s) 9 1 c) 9 2 k else σ
  up2 (up2 σ1 9 3 (σ1 9 3 + 1)) 9 4 ((up2 σ1 9 3 (σ1 9 3 + 1)) 9 4 &&& s)
theorem law_add {post : MS → Prop} {σ : MS} {s c k : Int32} (h : post (addF σ s c k)) : w_X2_add post σ s c k := by
  unfold w_X2_add u_X2_add_31 u_X2_add_46
  unfold addF at h
  dsimp only at h
  refine ⟨fun a => ?_, fun a => ⟨fun b => ?_, fun b => ⟨fun d => ⟨fun e => ?_, fun e => ?_⟩, fun d => ?_⟩⟩⟩
  · rw [if_pos (Or.inl a)] at h; exact h
  · rw [if_pos (Or.inr (Or.inl b))] at h; exact h
  · rw [if_neg (fun q => q.elim a fun q => q.elim b fun q => q.2 e)] at h; exact h
  · rw [if_pos (Or.inr (Or.inr ⟨d, e⟩))] at h; exact h
  · rw [if_neg (fun q => q.elim a fun q => q.elim b fun q => d q.1)] at h; exact h
theorem Scr.add (σ : MS) (s c k : Int32) : Scr σ (addF σ s c k) := by
  unfold addF
  dsimp only
  have h1 : Scr σ (if σ 9 3 = 0 ∨ σ 9 2 < k ∨ (k = σ 9 2 ∧ ¬ σ 9 1 ≤ c) then up2 (up2 (up2 σ 9 0 s) 9 1 c) 9 2 k else σ) := by
    split
    · exact ((Scr.up (by decide) (by decide)).tr (Scr.up (by decide) (by decide))).tr (Scr.up (by decide) (by decide))
    · exact Scr.rf σ
  exact (h1.tr (Scr.up (by decide) (by decide))).tr (Scr.up (by decide) (by decide))
def clearF (σ : MS) : MS := up2 (up2 (up2 (up2 (up2 (up2 σ 9 0 (-1)) 9 1 (-1)) 9 2 0) 9 3 0) 9 4 (-1)) 9 5 0
theorem Scr.clear (σ : MS) : Scr σ (clearF σ) := (((((Scr.up (by decide) (by decide)).tr (Scr.up (by decide) (by decide))).tr (Scr.up (by decide) (by decide))).tr (Scr.up (by decide) (by decide))).tr (Scr.up (by decide) (by decide))).tr (Scr.up (by decide) (by decide))
/-- one set looked at: the state, whether one was seated, whether one could play -/
def svS (P w : Nat) (size free had : Int32) (s : Nat) (x : MS × Int32 × Int32) : MS × Int32 × Int32 :=
  if nI s &&& (free ^^^ (-1)) = 0 ∧ ¬ x.1 8 s = 0 ∧ bcI (nI s) = size then
    (if x.1 (73 + w) 5 &&& (playF x.1 (nI s) P ^^^ (-1)) = 0 then
      (if feudB x.1 (nI s) P = true then (x.1, 1, 1) else (addF x.1 (nI s) (costsF x.1 (nI s) w P) (bcI (nI s &&& had)), 1, 1))
    else (x.1, 1, x.2.2))
  else x
def sv (σ : MS) (P w : Nat) (size free had : Int32) : Nat → MS × Int32 × Int32
  | 0 => (σ, 0, 0)
  | n + 1 => svS P w size free had (n + 1) (sv σ P w size free had n)
theorem Scr.svStep (P w : Nat) (size free had : Int32) (s : Nat) (x : MS × Int32 × Int32) : Scr x.1 (svS P w size free had s x).1 := by
  unfold svS
  split
  · split
    · split
      · exact Scr.rf _
      · exact Scr.add _ _ _ _
    · exact Scr.rf _
  · exact Scr.rf _
theorem Scr.sv (σ : MS) (P w : Nat) (size free had : Int32) : ∀ n, Scr σ (sv σ P w size free had n).1
  | 0 => Scr.rf σ
  | n + 1 => (Scr.sv σ P w size free had n).tr (Scr.svStep P w size free had (n + 1) _)
def whyF (x : MS × Int32 × Int32) (size free : Int32) : Int32 :=
  if x.1 9 3 ≤ 0 then (if size ≤ bcI free then (if x.2.1 = 0 then 2 else if x.2.2 = 0 then 4 else 3) else 1) else 0
theorem law_sv {post : MS → Prop} {σ : MS} {P B W T w a1 : Nat} {size free had : Int32} {a : Int32} (O : Ok σ P B W T) (hw : w < 14) (h : post (up2 (sv σ P w size free had (2 ^ P - 1)).1 9 5 (whyF (sv σ P w size free had (2 ^ P - 1)) size free))) : ∃ k, u_X7_survey_53 post a free had k σ w size 0 0 1 := by
  have hP := O.hP
  obtain ⟨hp1, hp2⟩ := pw1024 hP
  have hl := up_loop (fun k (q : (MS × Int32 × Int32) × Int32) => u_X7_survey_53 post a free had k q.1.1 w size q.1.2.1 q.1.2.2 q.2) (fun i => (sv σ P w size free had i, nI (i + 1))) (2 ^ P - 1) ?_ (fun i k hi hk => ?_)
  · exact hl
  · show u_X7_survey_53 post a free had 1 (sv σ P w size free had (2 ^ P - 1)).1 w size (sv σ P w size free had (2 ^ P - 1)).2.1 (sv σ P w size free had (2 ^ P - 1)).2.2 (nI (2 ^ P - 1 + 1))
    have Ox := (O.scr (Scr.sv σ P w size free had (2 ^ P - 1))).h6
    generalize sv σ P w size free had (2 ^ P - 1) = x at h Ox ⊢
    rw [u_X7_survey_53, Ox, shl1 P hP, Nat.sub_add_cancel hp1]
    unfold whyF at h
    refine ⟨fun _ => ⟨fun c => law_bitCount ⟨fun d => ⟨fun e => ?_, fun e => ⟨fun f => ?_, fun f => ?_⟩⟩, fun d => ?_⟩, fun c => ?_⟩, fun c => absurd (le_self _) c⟩
    · rw [if_pos c, if_pos d, if_pos e] at h; exact h
    · rw [if_pos c, if_pos d, if_neg e, if_pos f] at h; exact h
    · rw [if_pos c, if_pos d, if_neg e, if_neg f] at h; exact h
    · rw [if_pos c, if_neg d] at h; exact h
    · rw [if_neg c] at h; exact h
  · show u_X7_survey_53 post a free had (k + 1) (sv σ P w size free had i).1 w size (sv σ P w size free had i).2.1 (sv σ P w size free had i).2.2 (nI (i + 1))
    have hk : u_X7_survey_53 post a free had k (svS P w size free had (i + 1) (sv σ P w size free had i)).1 w size (svS P w size free had (i + 1) (sv σ P w size free had i)).2.1 (svS P w size free had (i + 1) (sv σ P w size free had i)).2.2 (nI (i + 1 + 1)) := hk
    have Ox := O.scr (Scr.sv σ P w size free had i)
    generalize sv σ P w size free had i = x at hk Ox ⊢
    unfold svS at hk
    have v : vp_in (nI (i + 1)) 1024 := vp_in_nI (by omega) (by decide)
    rw [u_X7_survey_53, Ox.h6, shl1 P hP, nI_1, nI_clamp (by omega)]
    refine ⟨fun c => absurd c (nI_ge (by omega) (by omega)), fun _ => ⟨fun c => ⟨v, fun d => ?_, fun d => law_bitCount ⟨fun e => law_playableFor Ox.h6 hP ⟨fun f => law_hasFeud Ox.h6 hP ⟨fun g => law_costOfAll Ox hw (law_bitCount (law_add ?_)), fun g => ?_⟩, fun f => ?_⟩, fun e => ?_⟩⟩, fun c => ?_⟩⟩
    · rw [if_neg (fun q => q.2.1 d)] at hk; exact hk
    · rw [if_pos ⟨c, d, e⟩, if_pos f, if_neg (by rw [b01_0.mp g]; exact Bool.false_ne_true)] at hk; exact hk
    · rw [if_pos ⟨c, d, e⟩, if_pos f, if_pos (b01_1.mp g)] at hk; exact hk
    · rw [if_pos ⟨c, d, e⟩, if_neg f] at hk; exact hk
    · rw [if_neg (fun q => e q.2.2)] at hk; exact hk
    · rw [if_neg (fun q => c q.1)] at hk; exact hk
/-- the band of a wedding, as a number -/
def bdOf (σ : MS) (w : Nat) : Nat := (σ (73 + w) 0).toNatClampNeg
theorem Ok.bd {σ : MS} {P B W T w : Nat} (O : Ok σ P B W T) (hw : w < 14) : bdOf σ w < 6 := vlt (O.band w hw)
def svIn (σ : MS) (w P : Nat) : MS := sat (clearF σ) (bdOf σ w) P (2 ^ P - 1)
def svAll (σ : MS) (w P : Nat) (free had : Int32) : MS × Int32 × Int32 := sv (svIn σ w P) P w (σ (55 + bdOf σ w) 2) free had (2 ^ P - 1)
def survF (σ : MS) (w P : Nat) (free had : Int32) : MS := up2 (svAll σ w P free had).1 9 5 (whyF (svAll σ w P free had) (σ (55 + bdOf σ w) 2) free)
theorem Scr.svIn (σ : MS) (w P : Nat) : Scr σ (svIn σ w P) := (Scr.clear σ).tr (Scr.sat _ _ _ _)
theorem Scr.surv (σ : MS) (w P : Nat) (free had : Int32) : Scr σ (survF σ w P free had) := ((Scr.svIn σ w P).tr (Scr.sv _ _ _ _ _ _ _)).tr (Scr.up (by decide) (by decide))
theorem law_survey {post : MS → Prop} {σ : MS} {P B W T w : Nat} {free had : Int32} (O : Ok σ P B W T) (hw : w < 14) (h : post (survF σ w P free had)) : w_X7_survey post σ (nI w) free had := by
  unfold w_X7_survey
  rw [nI_clamp (by omega)]
  have e : clearF σ (73 + w) = σ (73 + w) := Scr.clear σ _ (by omega)
  have Oc := O.scr (Scr.clear σ)
  have hb := O.band w hw
  refine ⟨vp_in_nI hw (by decide), hb, ?_⟩
  show vp_in (clearF σ (73 + w) 0) 6 ∧ w_X7_seatAll _ (clearF σ) (clearF σ (73 + w) 0).toNatClampNeg
  rw [e]
  exact ⟨hb, law_seatAll Oc (O.bd hw) (law_sv (a1 := 0) (O.scr (Scr.svIn σ w P)) hw h)⟩
def snF (σ : MS) (w P W : Nat) : MS := survF (stg σ W) w P (freeF (stg σ W) w W P) 0
theorem Scr.sn (σ : MS) (w P W : Nat) : Scr σ (snF σ w P W) := (Scr.stg σ W).tr (Scr.surv _ _ _ _ _)
theorem law_surveyNow {post : MS → Prop} {σ : MS} {P B W T w : Nat} (O : Ok σ P B W T) (hw : w < 14) (h : post (snF σ w P W)) : w_X7_surveyNow post σ (nI w) :=
  law_stageAsFixed O.h8 O.hW (law_freeFor (O.scr (Scr.stg σ W)) hw (law_survey (O.scr (Scr.stg σ W)) hw h))
end
section
/-! LAWS: stages filled anew, money moved, sets of weddings -/
def swS (σ : MS) (P W p : Nat) (day : Int32) : Nat → MS × Int32
  | 0 => (stg σ W, 0)
  | n + 1 =>
    let x := swS σ P W p day n
    let y := survF x.1 n P (freeF x.1 n W P &&& (one p ^^^ (-1))) (x.1 7 n)
    if x.1 (73 + n) 1 = day ∧ bt (x.1 7 n) p = true then (up2 y 7 n (if y 9 3 = 0 then 0 else y 9 0), x.2 + (if y 9 3 = 0 then 1 else 0)) else x
theorem Scr.sw (σ : MS) (P W p : Nat) (day : Int32) : ∀ n, Scr σ (swS σ P W p day n).1
  | 0 => Scr.stg σ W
  | n + 1 => by
    unfold swS
    dsimp only
    split
    · exact ((Scr.sw σ P W p day n).tr (Scr.surv _ _ _ _ _)).tr (Scr.up (by decide) (by decide))
    · exact Scr.sw σ P W p day n
theorem law_stageWithout {post : Int32 → MS → Prop} {σ : MS} {P B W T p : Nat} {day : Int32} (O : Ok σ P B W T) (hp : p < 10) (h : post (swS σ P W p day W).2 (swS σ P W p day W).1) : w_X7_stageWithout post σ (nI p) day := by
  have hW := O.hW
  refine law_stageAsFixed O.h8 hW ?_
  have hl := up_loop (fun k (q : (MS × Int32) × Int32) => u_X7_stageWithout_9 post (nI p) day k q.1.1 q.1.2 q.2) (fun i => (swS σ P W p day i, nI i)) W ?_ (fun i k hi hk => ?_)
  · exact hl
  · show u_X7_stageWithout_9 post (nI p) day 1 (swS σ P W p day W).1 (swS σ P W p day W).2 (nI W)
    rw [u_X7_stageWithout_9, (O.scr (Scr.sw σ P W p day W)).h8]
    exact ⟨fun _ => h, fun c => absurd (le_self _) c⟩
  · show u_X7_stageWithout_9 post (nI p) day (k + 1) (swS σ P W p day i).1 (swS σ P W p day i).2 (nI i)
    have hk : u_X7_stageWithout_9 post (nI p) day k (swS σ P W p day (i + 1)).1 (swS σ P W p day (i + 1)).2 (nI (i + 1)) := hk
    unfold swS at hk
    have Ox := O.scr (Scr.sw σ P W p day i)
    generalize swS σ P W p day i = x at hk Ox ⊢
    dsimp only at hk
    have v : vp_in (nI i) 14 := vp_in_nI (by omega) (by decide)
    rw [u_X7_stageWithout_9, Ox.h8, nI_1, nI_clamp (by omega)]
    refine ⟨fun c => absurd c (nI_ge hi (by omega)), fun _ => ⟨v, fun c => ⟨v, law_has (by omega) ⟨fun d => ?_, fun d => law_freeFor Ox (by omega) ⟨v, law_survey Ox (by omega) ?_⟩⟩⟩, fun c => ?_⟩⟩
    · rw [if_neg (fun q => by rw [b01_0.mp d] at q; exact Bool.false_ne_true q.2)] at hk
      exact hk
    · rw [if_pos ⟨c, b01_1.mp d⟩] at hk
      dsimp only at hk
      generalize survF x.1 i P (freeF x.1 i W P &&& (one p ^^^ (-1))) (x.1 7 i) = y at hk ⊢
      unfold u_X7_stageWithout_98
      rw [nI_clamp (by omega), nI_1]
      refine ⟨fun e => ⟨v, fun _ => ?_, fun f => absurd e f⟩, fun e => ⟨v, fun f => absurd f e, fun _ => ?_⟩⟩
      · rw [if_pos e, if_pos e] at hk
        exact hk
      · rw [if_neg e, if_neg e] at hk
        exact hk
    · rw [if_neg (fun q => c q.1)] at hk
      exact hk
def priceI (c : Int32) : Int32 := ((c * 6) / 5) + 50
/-- the chosen ones filled, one after the other, of the first n; none where one has no filling -/
def saS (σ : MS) (P W : Nat) (ch : Int32) : Nat → Option (MS × Int32) × MS
  | 0 => (some (stg σ W, 0), stg σ W)
  | n + 1 => match (saS σ P W ch n).1 with
    | none => saS σ P W ch n
    | some x =>
      if bt ch n = true then
        (let y := survF x.1 n P (freeF x.1 n W P) 0
         if y 9 3 = 0 then (none, y) else (some (up2 y 7 n (y 9 0), x.2 + priceI (y 9 1)), y))
      else (some x, x.1)
theorem Scr.sa (σ : MS) (P W : Nat) (ch : Int32) : ∀ n, Scr σ (saS σ P W ch n).2 ∧ ∀ x, (saS σ P W ch n).1 = some x → Scr σ x.1
  | 0 => ⟨Scr.stg σ W, fun x hx => by cases hx; exact Scr.stg σ W⟩
  | n + 1 => by
    have ih := Scr.sa σ P W ch n
    unfold saS
    cases q : (saS σ P W ch n).1 with
    | none => exact ih
    | some x =>
      have hx := ih.2 x q
      dsimp only
      by_cases c : bt ch n = true
      · rw [if_pos c]
        have hy : Scr σ (survF x.1 n P (freeF x.1 n W P) 0) := hx.tr (Scr.surv _ _ _ _ _)
        by_cases d : survF x.1 n P (freeF x.1 n W P) 0 9 3 = 0
        · rw [if_pos d]
          exact ⟨hy, fun z hz => by cases hz⟩
        · rw [if_neg d]
          exact ⟨hy, fun z hz => by cases hz; exact hy.tr (Scr.up (by decide) (by decide))⟩
      · rw [if_neg c]
        exact ⟨hx, fun z hz => by cases hz; exact hx⟩
theorem saS_none {σ : MS} {P W : Nat} {ch : Int32} {i n : Nat} (h : i ≤ n) (hi : (saS σ P W ch i).1 = none) : saS σ P W ch n = saS σ P W ch i := by
  induction n with
  | zero => obtain rfl : i = 0 := by omega
            rfl
  | succ n ih =>
    by_cases q : i = n + 1
    · subst q; rfl
    · have e := ih (by omega)
      have hn : (saS σ P W ch n).1 = none := by rw [e]; exact hi
      rw [← e]
      conv => lhs; unfold saS
      rw [hn]
def saR (x : Option (MS × Int32) × MS) : Int32 × MS := match x.1 with
  | none => (-1, x.2)
  | some z => (z.2, z.1)
theorem law_stageAll {post : Int32 → MS → Prop} {σ : MS} {P B W T : Nat} {ch : Int32} (O : Ok σ P B W T) (h : post (saR (saS σ P W ch W)).1 (saR (saS σ P W ch W)).2) : w_X7_stageAll post σ ch := by
  have hW := O.hW
  refine law_stageAsFixed O.h8 hW ⟨W + 1, ?_⟩
  have key : ∀ d i, i + d = W → ∀ x, (saS σ P W ch i).1 = some x → u_X7_stageAll_8 post ch (d + 1) x.1 x.2 (nI i) := by
    intro d
    induction d with
    | zero =>
      intro i hi x hx
      obtain rfl : i = W := by omega
      have Ox := O.scr ((Scr.sa σ P i ch i).2 x hx)
      unfold saR at h
      rw [hx] at h
      rw [u_X7_stageAll_8, Ox.h8]
      exact ⟨fun _ => h, fun c => absurd (le_self _) c⟩
    | succ d ih =>
      intro i hi x hx
      have Ox := O.scr ((Scr.sa σ P W ch i).2 x hx)
      have hs : saS σ P W ch (i + 1) = if bt ch i = true then (if survF x.1 i P (freeF x.1 i W P) 0 9 3 = 0 then (none, survF x.1 i P (freeF x.1 i W P) 0) else (some (up2 (survF x.1 i P (freeF x.1 i W P) 0) 7 i (survF x.1 i P (freeF x.1 i W P) 0 9 0), x.2 + priceI (survF x.1 i P (freeF x.1 i W P) 0 9 1)), survF x.1 i P (freeF x.1 i W P) 0)) else (some x, x.1) := by
        conv => lhs; unfold saS
        rw [hx]
      rw [u_X7_stageAll_8, Ox.h8, nI_1, nI_clamp (by omega)]
      refine ⟨fun c => absurd c (nI_ge (by omega) (by omega)), fun _ => law_has (by omega) ⟨fun c => ?_, fun c => law_freeFor Ox (by omega) (law_survey Ox (by omega) ⟨fun e => ?_, fun e => ⟨vp_in_nI (by omega) (by decide), ?_⟩⟩)⟩⟩
      · rw [if_neg (by rw [b01_0.mp c]; exact Bool.false_ne_true)] at hs
        exact ih (i + 1) (by omega) x (by rw [hs])
      · rw [if_pos (b01_1.mp c), if_pos e] at hs
        have e2 := saS_none (n := W) (by omega) (show (saS σ P W ch (i + 1)).1 = none by rw [hs])
        rw [e2, hs] at h
        exact h
      · rw [if_pos (b01_1.mp c), if_neg e] at hs
        clear h
        generalize survF x.1 i P (freeF x.1 i W P) 0 = y at hs e ⊢
        have e9 : up2 y 7 i (y 9 0) 9 = y 9 := up2_ne (by decide)
        have hq := ih (i + 1) (by omega) (up2 y 7 i (y 9 0), x.2 + priceI (y 9 1)) (by rw [hs])
        unfold w_X7_priceOf
        rw [e9]
        exact hq
  exact key W 0 (by omega) (stg σ W, 0) rfl
def paidF (σ : MS) (w : Nat) (a : Int32) : MS := up2 (up2 σ (73 + w) 11 (σ (73 + w) 11 + a)) 0 10 (σ 0 10 + a)
theorem law_getPaid {post : MS → Prop} {σ : MS} {w : Nat} {a : Int32} (h : post (paidF σ w a)) : w_X7_getPaid post σ w a := by
  unfold w_X7_getPaid
  rw [up2_ne (show 0 ≠ 73 + w by omega)]
  exact h
def putF (σ : MS) (w : Nat) (s : Int32) : MS := if s = 0 then paidF (up2 σ (73 + w) 7 3) w ((-(σ (73 + w) 9 / 5)) - σ (73 + w) 9 / 10) else up2 σ (73 + w) 8 s
theorem law_putOnStage {post : MS → Prop} {σ : MS} {w : Nat} {s : Int32} (h : post (putF σ w s)) : w_X7_putOnStage post σ w s := by
  unfold w_X7_putOnStage
  unfold putF at h
  have e : up2 σ (73 + w) 7 3 (73 + w) 9 = σ (73 + w) 9 := by
    rw [up2_eq]
    exact if_neg (by decide)
  rw [e]
  refine ⟨fun c => law_getPaid ?_, fun c => ?_⟩
  · rw [if_pos c] at h; exact h
  · rw [if_neg c] at h; exact h
/-- the members of s at the places of c, of the first n: they, and how many s has -/
def memS (s c : Int32) : Nat → Int32 × Nat
  | 0 => (0, 0)
  | n + 1 => if bt s n = true then ((memS s c n).1 ||| (if bt c (memS s c n).2 = true then one n else 0), (memS s c n).2 + 1) else memS s c n
theorem memS_le (s c : Int32) : ∀ n, (memS s c n).2 ≤ n
  | 0 => Nat.le_refl _
  | n + 1 => by
    have := memS_le s c n
    unfold memS
    split
    · dsimp only; omega
    · omega
theorem law_membersAt {post : Int32 → MS → Prop} {σ : MS} {s c : Int32} (h : post (memS s c 14).1 σ) : w_X7_membersAt post σ s c := by
  unfold w_X7_membersAt
  refine up_loop (fun k (q : MS × Int32 × Int32 × Int32) => u_X7_membersAt_7 post s c k q.1 q.2.1 q.2.2.1 q.2.2.2) (fun i => (σ, (memS s c i).1, nI (memS s c i).2, nI i)) 14 ?_ (fun i k hi hk => ?_)
  · show u_X7_membersAt_7 post s c 1 σ (memS s c 14).1 (nI (memS s c 14).2) (nI 14)
    rw [u_X7_membersAt_7]
    exact ⟨fun _ => h, fun c => absurd (show (14 : Int32) ≤ nI 14 by decide) c⟩
  · show u_X7_membersAt_7 post s c (k + 1) σ (memS s c i).1 (nI (memS s c i).2) (nI i)
    have hk : u_X7_membersAt_7 post s c k σ (memS s c (i + 1)).1 (nI (memS s c (i + 1)).2) (nI (i + 1)) := hk
    have hm := memS_le s c i
    unfold memS at hk
    rw [u_X7_membersAt_7, nI_1, nI_1]
    refine ⟨fun q => absurd (show nI 14 ≤ nI i from q) (nI_ge hi (by decide)), fun _ => law_has (by omega) ⟨fun d => ?_, fun d => law_has (by omega) ⟨fun e => ?_, fun e => ?_⟩⟩⟩
    · rw [if_neg (by rw [b01_0.mp d]; exact Bool.false_ne_true)] at hk
      exact hk
    · rw [if_pos (b01_1.mp d), if_neg (by rw [b01_0.mp e]; exact Bool.false_ne_true)] at hk
      exact hk
    · rw [if_pos (b01_1.mp d), if_pos (b01_1.mp e)] at hk
      exact hk
def fstF (σ : MS) (day : Int32) : Nat → Int32
  | 0 => 0
  | n + 1 => if σ (73 + n) 1 = day ∧ isFst σ n = true ∧ ¬ 3 ≤ bcI (fstF σ day n) then fstF σ day n ||| one n else fstF σ day n
theorem law_firstOnesOf {post : Int32 → MS → Prop} {σ : MS} {day : Int32} {n : Nat} (h8 : σ 0 8 = nI n) (hn : n ≤ 14) (h : post (fstF σ day n) σ) : w_X7_firstOnesOf post σ day := by
  unfold w_X7_firstOnesOf
  refine up_loop (fun k (q : MS × Int32 × Int32) => u_X7_firstOnesOf_4 post day k q.1 q.2.1 q.2.2) (fun i => (σ, fstF σ day i, nI i)) n ?_ (fun i k hi hk => ?_)
  · show u_X7_firstOnesOf_4 post day 1 σ (fstF σ day n) (nI n)
    rw [u_X7_firstOnesOf_4, h8]
    exact ⟨fun _ => h, fun c => absurd (le_self _) c⟩
  · show u_X7_firstOnesOf_4 post day (k + 1) σ (fstF σ day i) (nI i)
    have hk : u_X7_firstOnesOf_4 post day k σ (fstF σ day (i + 1)) (nI (i + 1)) := hk
    unfold fstF at hk
    rw [u_X7_firstOnesOf_4, h8, nI_1, nI_clamp (by omega)]
    refine ⟨fun c => absurd c (nI_ge hi (by omega)), fun _ => ⟨vp_in_nI (by omega) (by decide), fun c => law_isFirst (by omega) ⟨fun d => ?_, fun d => law_bitCount ⟨fun e => ?_, fun e => ?_⟩⟩, fun c => ?_⟩⟩
    · rw [if_neg (fun q => by rw [b01_0.mp d] at q; exact Bool.false_ne_true q.2.1)] at hk
      exact hk
    · rw [if_neg (fun q => q.2.2 e)] at hk
      exact hk
    · rw [if_pos ⟨c, b01_1.mp d, e⟩] at hk
      exact hk
    · rw [if_neg (fun q => c q.1)] at hk
      exact hk
end
section
/-! LAWS: what is refused; fix, learn -/
theorem idx_in {a : Int32} {n : Nat} (hn : n < 2 ^ 31) (h1 : ¬ a < 0) (h2 : a < nI n) : ∃ p, p < n ∧ a = nI p := by
  obtain ⟨p, hp, rfl⟩ := nI_of h1
  exact ⟨p, (nI_ltI hp hn).mp h2, rfl⟩
theorem idx_out {a : Int32} {n : Nat} (hn : n < 2 ^ 31) (h : a < 0 ∨ ¬ a < nI n) : ∀ p, p < n → a ≠ nI p := by
  intro p hp e
  subst e
  rcases h with h | h
  · exact nI_pos (by omega) h
  · exact h (nI_lt hp hn)
abbrev xIO : String := "java/lang/IndexOutOfBoundsException"
abbrev xIA : String := "java/lang/IllegalArgumentException"
abbrev xIS : String := "java/lang/IllegalStateException"
theorem law_T_checkPlayer {post : MS → Prop} {pex : String → MS → Prop} {σ : MS} {P B W T : Nat} {a : Int32} (O : Ok σ P B W T) (h : ∀ p, p < P → a = nI p → post σ) (hx : (∀ p, p < P → a ≠ nI p) → pex xIO σ) : w_T_X7_checkPlayer post pex σ a := by
  have hP := O.hP
  unfold w_T_X7_checkPlayer u_T_X7_checkPlayer_12
  rw [O.h6]
  refine ⟨fun c => hx (idx_out (by omega) (Or.inl c)), fun c => ⟨fun d => ?_, fun d => hx (idx_out (by omega) (Or.inr d))⟩⟩
  obtain ⟨p, hp, e⟩ := idx_in (by omega) c d
  exact h p hp e
theorem law_T_checkBand {post : MS → Prop} {pex : String → MS → Prop} {σ : MS} {P B W T : Nat} {a : Int32} (O : Ok σ P B W T) (h : ∀ p, p < B → a = nI p → post σ) (hx : (∀ p, p < B → a ≠ nI p) → pex xIO σ) : w_T_X7_checkBand post pex σ a := by
  have hB := O.hB
  unfold w_T_X7_checkBand u_T_X7_checkBand_12
  rw [O.h7]
  refine ⟨fun c => hx (idx_out (by omega) (Or.inl c)), fun c => ⟨fun d => ?_, fun d => hx (idx_out (by omega) (Or.inr d))⟩⟩
  obtain ⟨p, hp, e⟩ := idx_in (by omega) c d
  exact h p hp e
theorem law_T_checkWedding {post : MS → Prop} {pex : String → MS → Prop} {σ : MS} {P B W T : Nat} {a : Int32} (O : Ok σ P B W T) (h : ∀ p, p < W → a = nI p → post σ) (hx : (∀ p, p < W → a ≠ nI p) → pex xIO σ) : w_T_X7_checkWedding post pex σ a := by
  have hW := O.hW
  unfold w_T_X7_checkWedding u_T_X7_checkWedding_12
  rw [O.h8]
  refine ⟨fun c => hx (idx_out (by omega) (Or.inl c)), fun c => ⟨fun d => ?_, fun d => hx (idx_out (by omega) (Or.inr d))⟩⟩
  obtain ⟨p, hp, e⟩ := idx_in (by omega) c d
  exact h p hp e
theorem law_T_checkSong {post : MS → Prop} {pex : String → MS → Prop} {σ : MS} {a : Int32} (h : ∀ p, p < 16 → a = nI p → post σ) (hx : (∀ p, p < 16 → a ≠ nI p) → pex xIO σ) : w_T_X7_checkSong post pex σ a := by
  unfold w_T_X7_checkSong u_T_X7_checkSong_10
  refine ⟨fun c => hx (idx_out (by omega) (Or.inl c)), fun c => ⟨fun d => ?_, fun d => hx (idx_out (n := 16) (by omega) (Or.inr d))⟩⟩
  obtain ⟨p, hp, e⟩ := idx_in (n := 16) (by omega) c d
  exact h p hp e
theorem law_T_checkTown {post : MS → Prop} {pex : String → MS → Prop} {σ : MS} {a : Int32} (h : ∀ p, p < 6 → a = nI p → post σ) (hx : (∀ p, p < 6 → a ≠ nI p) → pex xIO σ) : w_T_X7_checkTown post pex σ a := by
  unfold w_T_X7_checkTown
  refine law_isTown ⟨fun c => ?_, fun c => ?_⟩
  · have d := of_decide_eq_false (b01_0.mp c)
    refine hx fun p hp e => d ?_
    subst e
    exact ⟨nI_pos' (by omega), nI_lt (b := 6) hp (by decide)⟩
  · have d := of_decide_eq_true (b01_1.mp c)
    obtain ⟨p, hp, e⟩ := idx_in (n := 6) (by omega) (Int32.not_lt.mpr d.1) d.2
    exact h p hp e
theorem law_T_checkDayToCome {post : MS → Prop} {pex : String → MS → Prop} {σ : MS} {P B W T : Nat} {a : Int32} (O : Ok σ P B W T) (h : ∀ d, T ≤ d → d ≤ 365 → a = nI d → post σ) (hx : (∀ d, T ≤ d → d ≤ 365 → a ≠ nI d) → pex xIA σ) : w_T_X7_checkDayToCome post pex σ a := by
  have hT := O.hT
  unfold w_T_X7_checkDayToCome u_T_X7_checkDayToCome_15
  rw [O.h9]
  refine ⟨fun c => hx fun d h1 h2 e => ?_, fun c => ⟨fun d => ?_, fun d => hx fun k h1 h2 e => ?_⟩⟩
  · subst e
    exact nI_nlt h1 (by omega) c
  · have h0 : ¬ a < 0 := fun q => c (Int32.lt_of_lt_of_le q (nI_pos' (by omega)))
    obtain ⟨k, hk, e⟩ := nI_of h0
    subst e
    refine h k ?_ ?_ rfl
    · exact Nat.le_of_not_lt fun q => c (nI_lt q (by omega))
    · exact (nI_leI hk (by decide)).mp (show nI k ≤ nI 365 from d)
  · subst e
    exact d (show nI k ≤ nI 365 from nI_le h2 (by decide))
/-- the state that fix leaves -/
def fixS (σ : MS) (w P W : Nat) : MS :=
  let z := loseQ (snF σ w P W) w W
  let z1 := up2 (up2 z (73 + w) 7 1) (73 + w) 8 (z 9 0)
  paidF (up2 z1 (73 + w) 9 (priceI (z 9 1))) w (priceI (z 9 1) / 5)
theorem loseQ_k {σ : MS} {a n k : Nat} (h : k < 73) : loseQ σ a n k = σ k := by
  funext j
  exact if_neg (by omega)
theorem law_T_fix {post : Int32 → MS → Prop} {pex : String → MS → Prop} {σ : MS} {P B W T : Nat} {a : Int32} (O : Ok σ P B W T)
    (hx : (∀ w, w < W → a ≠ nI w) → pex xIO σ)
    (hq : ∀ w, w < W → a = nI w → isFst σ w = false → pex xIS σ)
    (hf : ∀ w, w < W → a = nI w → isFst σ w = true → snF σ w P W 9 3 = 0 → pex xIS (snF σ w P W))
    (h : ∀ w, w < W → a = nI w → isFst σ w = true → ¬ snF σ w P W 9 3 = 0 → post (fixS σ w P W (73 + w) 9) (fixS σ w P W)) : w_T_X7_fix post pex σ a := by
  have hW := O.hW
  unfold w_T_X7_fix
  refine law_T_checkWedding O (fun w hw e => ?_) hx
  subst e
  have hq := hq w hw rfl
  have hf := hf w hw rfl
  have h := h w hw rfl
  rw [nI_clamp (by omega)]
  refine law_isFirst (by omega) ⟨fun c => hq (b01_0.mp c), fun c => law_surveyNow O (by omega) ⟨fun d => hf (b01_1.mp c) d, fun d => ?_⟩⟩
  have h := h (b01_1.mp c) d
  have Oy := O.scr (Scr.sn σ w P W)
  unfold fixS at h
  dsimp only at h
  generalize snF σ w P W = y at h Oy ⊢
  refine law_loseQueueOf Oy.h8 hW (by omega) ⟨vp_in_nI (by omega) (by decide), ?_⟩
  generalize loseQ y w W = z at h ⊢
  have e1 : up2 z (73 + w) 7 1 9 = z 9 := up2_ne (by omega)
  have e2 : ∀ v, up2 (up2 z (73 + w) 7 1) (73 + w) 8 v 9 = z 9 := fun v => (up2_ne (by omega)).trans e1
  rw [e1, e2]
  have e3 : ∀ (s : MS) (v : Int32), up2 s (73 + w) 9 v (73 + w) 9 = v := fun s v => by rw [up2_eq]; exact if_pos rfl
  unfold w_X7_priceOf
  refine law_getPaid ?_
  rw [e3]
  exact h
theorem law_T_learn {post : Int32 → MS → Prop} {pex : String → MS → Prop} {σ : MS} {P B W T : Nat} {a s : Int32} (O : Ok σ P B W T)
    (hx : (∀ p, p < P → a ≠ nI p) → pex xIO σ)
    (hq : ∀ p, p < P → a = nI p → ¬ (0 ≤ s ∧ s < 65536) → pex xIA σ)
    (h : ∀ p, p < P → a = nI p → 0 ≤ s ∧ s < 65536 → post (bcI (σ (29 + p) 1 ||| s)) (up2 σ (29 + p) 1 (σ (29 + p) 1 ||| s))) : w_T_X7_learn post pex σ a s := by
  have hP := O.hP
  unfold w_T_X7_learn
  refine law_T_checkPlayer O (fun p hp e => ?_) hx
  subst e
  have hq := hq p hp rfl
  have h := h p hp rfl
  rw [nI_clamp (by omega)]
  refine law_isSetOfSongs ⟨fun c => hq (of_decide_eq_false (b01_0.mp c)), fun c => ⟨vp_in_nI (by omega) (by decide), vp_in_nI (by omega) (by decide), law_bitCount ?_⟩⟩
  have e3 : up2 σ (29 + p) 1 (σ (29 + p) 1 ||| s) (29 + p) 1 = σ (29 + p) 1 ||| s := by rw [up2_eq]; exact if_pos rfl
  rw [e3]
  exact h (of_decide_eq_true (b01_1.mp c))
end
section
/-! LAWS: what keeps Ok; player, song, late, cancel, ask, feud -/
theorem up2_at {σ : MS} {k j k' j' : Nat} {v : Int32} (h : k' ≠ k ∨ j' ≠ j) : up2 σ k j v k' j' = σ k' j' := by
  by_cases hk : k' = k
  · subst hk
    rw [up2_eq]
    exact if_neg (fun q => h.elim (fun z => z rfl) (fun z => z q))
  · rw [up2_ne hk]
theorem up2_same {σ : MS} {k j : Nat} {v : Int32} : up2 σ k j v k j = v := by
  rw [up2_eq]
  exact if_pos rfl
/-- the places that Ok looks at -/
def okPl (k j : Nat) : Prop := (k = 0 ∧ 6 ≤ j ∧ j ≤ 9) ∨ (29 ≤ k ∧ k < 39 ∧ j = 2) ∨ (73 ≤ k ∧ k < 87 ∧ j ≤ 2) ∨ (55 ≤ k ∧ k < 61 ∧ j = 2) ∨ (67 ≤ k ∧ k < 73)
theorem Ok.same {σ σ' : MS} {P B W T : Nat} (O : Ok σ P B W T) (h : ∀ k j, okPl k j → σ' k j = σ k j) : Ok σ' P B W T :=
  ⟨(h 0 6 (Or.inl ⟨rfl, by decide, by decide⟩)).trans O.h6, O.hP, (h 0 7 (Or.inl ⟨rfl, by decide, by decide⟩)).trans O.h7, O.hB, (h 0 8 (Or.inl ⟨rfl, by decide, by decide⟩)).trans O.h8, O.hW, (h 0 9 (Or.inl ⟨rfl, by decide, by decide⟩)).trans O.h9, O.hT,
   fun p hp => by rw [h (29 + p) 2 (by unfold okPl; omega)]; exact O.home p hp,
   fun w hw => by rw [h (73 + w) 0 (by unfold okPl; omega)]; exact O.band w hw,
   fun w hw => by rw [h (73 + w) 1 (by unfold okPl; omega)]; exact O.day w hw,
   fun w hw => by rw [h (73 + w) 2 (by unfold okPl; omega)]; exact O.town w hw,
   fun b hb => by rw [h (55 + b) 2 (by unfold okPl; omega)]; exact O.size b hb,
   fun b j hb hj => by rw [h (67 + b) j (by unfold okPl; omega)]; exact O.place b j hb hj⟩
theorem Ok.up {σ : MS} {P B W T k j : Nat} {v : Int32} (O : Ok σ P B W T) (h : ¬ okPl k j) : Ok (up2 σ k j v) P B W T :=
  O.same fun k' j' h' => up2_at (Classical.byContradiction fun q => h (by
    have h1 : k' = k := Classical.byContradiction fun z => q (Or.inl z)
    have h2 : j' = j := Classical.byContradiction fun z => q (Or.inr z)
    rw [← h1, ← h2]; exact h'))
theorem Ok.paid {σ : MS} {P B W T w : Nat} {a : Int32} (O : Ok σ P B W T) (hw : w < 14) : Ok (paidF σ w a) P B W T :=
  (O.up (by unfold okPl; omega)).up (by unfold okPl; omega)
theorem Ok.lose {σ : MS} {P B W T a n : Nat} (O : Ok σ P B W T) (hn : n ≤ 14) : Ok (loseQ σ a n) P B W T :=
  O.same fun k j h => if_neg (fun q => by unfold okPl at h; omega)
theorem Ok.wait {σ : MS} {P B W T n : Nat} (O : Ok σ P B W T) (hn : n ≤ 14) : Ok (waitL σ n) P B W T :=
  O.same fun k j h => if_neg (fun q => by unfold okPl at h; omega)
theorem Ok.put {σ : MS} {P B W T w : Nat} {s : Int32} (O : Ok σ P B W T) (hw : w < 14) : Ok (putF σ w s) P B W T := by
  unfold putF
  split
  · exact (O.up (by unfold okPl; omega)).paid hw
  · exact O.up (by unfold okPl; omega)
theorem Ok.fix {σ : MS} {P B W T w : Nat} (O : Ok σ P B W T) (hw : w < 14) : Ok (fixS σ w P W) P B W T := by
  unfold fixS
  dsimp only
  exact ((((((O.scr (Scr.sn σ w P W)).lose O.hW).up (by unfold okPl; omega)).up (by unfold okPl; omega)).up (by unfold okPl; omega))).paid hw
def plOk (i s f : Int32) : Prop := ¬ i < 1 ∧ ¬ 64 ≤ i ∧ (0 ≤ s ∧ s < 65536) ∧ ¬ f < 1 ∧ f ≤ 99
def telP (σ : MS) (P : Nat) (i s t f : Int32) : MS := up2 (up2 (up2 (up2 (up2 σ (29 + P) 0 i) (29 + P) 1 s) (29 + P) 2 t) (29 + P) 3 f) 0 6 (nI (P + 1))
theorem law_T_player {post : Int32 → MS → Prop} {pex : String → MS → Prop} {σ : MS} {P B W T : Nat} {i s t f : Int32} (O : Ok σ P B W T)
    (hx : ¬ (0 ≤ t ∧ t < 6) → pex xIO σ) (hq : (0 ≤ t ∧ t < 6) → ¬ plOk i s f → pex xIA σ) (hf : (0 ≤ t ∧ t < 6) → plOk i s f → P = 10 → pex xIS σ)
    (h : (0 ≤ t ∧ t < 6) → plOk i s f → P < 10 → post (nI P) (telP σ P i s t f)) : w_T_X7_player post pex σ i s t f := by
  have hP := O.hP
  unfold w_T_X7_player u_T_X7_player_48
  refine law_isTown ⟨fun c => hx (of_decide_eq_false (b01_0.mp c)), fun c => ?_⟩
  have ht := of_decide_eq_true (b01_1.mp c)
  have hq := hq ht
  have hf := hf ht
  have h := h ht
  refine ⟨fun c1 => hq fun q => q.1 c1, fun c1 => ⟨fun c2 => hq fun q => q.2.1 c2, fun c2 => law_isSetOfSongs ⟨fun c3 => hq fun q => of_decide_eq_false (b01_0.mp c3) q.2.2.1, fun c3 => ⟨fun c4 => hq fun q => q.2.2.2.1 c4, fun c4 => ⟨fun c5 => ?_, fun c5 => hq fun q => c5 q.2.2.2.2⟩⟩⟩⟩⟩
  have hok : plOk i s f := ⟨c1, c2, of_decide_eq_true (b01_1.mp c3), c4, c5⟩
  rw [O.h6]
  refine ⟨fun c6 => ?_, fun c6 => hf hok ?_⟩
  · have hlt : P < 10 := (nI_ltI (b := 10) (by omega) (by decide)).mp c6
    rw [nI_clamp (by omega)]
    refine ⟨vp_in_nI hlt (by decide), fun y1 h1 y2 h2 => ?_⟩
    rw [up2_at (by omega), up2_at (by omega), up2_at (by omega), up2_at (by omega), O.h6] at h1
    subst h1
    rw [up2_same] at h2
    subst h2
    rw [nI_1, nI_pred]
    exact h hok hlt
  · exact Classical.byContradiction fun q => c6 (nI_lt (b := 10) (by omega) (by decide))
theorem Ok.tel {σ : MS} {P B W T : Nat} {i s t f : Int32} (O : Ok σ P B W T) (ht : 0 ≤ t ∧ t < 6) (hP : P < 10) : Ok (telP σ P i s t f) (P + 1) B W T := by
  have ht6 : vp_in t 6 := by
    obtain ⟨p, hp, e⟩ := idx_in (n := 6) (by decide) (Int32.not_lt.mpr ht.1) ht.2
    subst e
    exact vp_in_nI hp (by decide)
  have ne : ∀ k j, (k ≠ 0 ∨ j ≠ 6) → (k ≠ 29 + P ∨ 4 ≤ j) → telP σ P i s t f k j = σ k j := fun k j h1 h2 => by
    unfold telP
    rw [up2_at h1, up2_at (by omega), up2_at (by omega), up2_at (by omega), up2_at (by omega)]
  refine ⟨up2_same, by omega, (ne 0 7 (by omega) (by omega)).trans O.h7, O.hB, (ne 0 8 (by omega) (by omega)).trans O.h8, O.hW, (ne 0 9 (by omega) (by omega)).trans O.h9, O.hT, fun p hp => ?_, fun w hw => ?_, fun w hw => ?_, fun w hw => ?_, fun b hb => ?_, fun b j hb hj => ?_⟩
  · by_cases q : p = P
    · subst q
      have e : telP σ p i s t f (29 + p) 2 = t := by
        unfold telP
        rw [up2_at (by omega), up2_at (by omega), up2_same]
      rw [e]
      exact ht6
    · rw [ne (29 + p) 2 (by omega) (by omega)]
      exact O.home p hp
  · rw [ne (73 + w) 0 (by omega) (by omega)]; exact O.band w hw
  · rw [ne (73 + w) 1 (by omega) (by omega)]; exact O.day w hw
  · rw [ne (73 + w) 2 (by omega) (by omega)]; exact O.town w hw
  · rw [ne (55 + b) 2 (by omega) (by omega)]; exact O.size b hb
  · rw [ne (67 + b) j (by omega) (by omega)]; exact O.place b j hb hj
theorem law_T_late {post : Int32 → MS → Prop} {pex : String → MS → Prop} {σ : MS} {P B W T : Nat} {a m : Int32} (O : Ok σ P B W T)
    (hx : (∀ w, w < W → a ≠ nI w) → pex xIO σ) (hq : ∀ w, w < W → a = nI w → ¬ (¬ m < 0 ∧ m ≤ 240) → pex xIA σ)
    (hf : ∀ w, w < W → a = nI w → (¬ m < 0 ∧ m ≤ 240) → ¬ σ (73 + w) 7 = 1 → pex xIS σ)
    (h : ∀ w, w < W → a = nI w → (¬ m < 0 ∧ m ≤ 240) → σ (73 + w) 7 = 1 → post (quF (up2 σ (73 + w) 10 m) w) (up2 σ (73 + w) 10 m)) : w_T_X7_late post pex σ a m := by
  have hW := O.hW
  unfold w_T_X7_late u_T_X7_late_16
  refine law_T_checkWedding O (fun w hw e => ?_) hx
  subst e
  have hq := hq w hw rfl
  have hf := hf w hw rfl
  have h := h w hw rfl
  have v : vp_in (nI w) 14 := vp_in_nI (by omega) (by decide)
  rw [nI_clamp (by omega)]
  exact ⟨fun c => hq fun q => q.1 c, fun c => ⟨fun d => ⟨v, fun g => ⟨v, v, law_quarters (h ⟨c, d⟩ g)⟩, fun g => hf ⟨c, d⟩ g⟩, fun d => hq fun q => d q.2⟩⟩
/-- the state that cancel leaves -/
def canS (σ : MS) (w : Nat) : MS := if σ (73 + w) 7 = 1 then up2 (paidF σ w (if 0 < owedF σ w - σ (73 + w) 11 then owedF σ w - σ (73 + w) 11 else 0)) (73 + w) 7 3 else up2 σ (73 + w) 7 3
theorem law_T_cancel {post : Int32 → MS → Prop} {pex : String → MS → Prop} {σ : MS} {P B W T : Nat} {a : Int32} (O : Ok σ P B W T)
    (hx : (∀ w, w < W → a ≠ nI w) → pex xIO σ)
    (hf : ∀ w, w < W → a = nI w → ¬ (σ (73 + w) 7 = 0 ∨ σ (73 + w) 7 = 1) → pex xIS σ)
    (h : ∀ w, w < W → a = nI w → (σ (73 + w) 7 = 0 ∨ σ (73 + w) 7 = 1) → post (if σ (73 + w) 7 = 1 then owedF σ w else 0) (canS σ w)) : w_T_X7_cancel post pex σ a := by
  have hW := O.hW
  unfold w_T_X7_cancel
  refine law_T_checkWedding O (fun w hw e => ?_) hx
  subst e
  have hf := hf w hw rfl
  have h := h w hw rfl
  rw [nI_clamp (by omega)]
  have key : (σ (73 + w) 7 = 0 ∨ σ (73 + w) 7 = 1) → u_T_X7_cancel_37 post pex (nI w) σ w := fun z => by
    have h := h z
    unfold u_T_X7_cancel_37
    unfold canS at h
    refine ⟨fun c => law_owedFor (law_getPaid ?_), fun c => ?_⟩
    · rw [if_pos c, if_pos c] at h; exact h
    · rw [if_neg c, if_neg c] at h; exact h
  exact ⟨vp_in_nI (by omega) (by decide), fun c => key (Or.inl c), fun c => ⟨fun d => key (Or.inr d), fun d => hf fun q => q.elim c d⟩⟩
theorem Ok.can {σ : MS} {P B W T w : Nat} (O : Ok σ P B W T) (hw : w < 14) : Ok (canS σ w) P B W T := by
  unfold canS
  split
  · exact (O.paid hw).up (by unfold okPl; omega)
  · exact O.up (by unfold okPl; omega)
end
section
/-! LAWS: song, feud, ask, ill -/
def sgOk (k e m : Int32) : Prop := ¬ k < 0 ∧ ¬ 12 ≤ k ∧ ¬ e < 0 ∧ ¬ 10 ≤ e ∧ ¬ m < 2 ∧ m ≤ 9
def songS (σ : MS) (s : Nat) (k e m : Int32) : MS := up2 (up2 (up2 σ (39 + s) 0 k) (39 + s) 1 e) (39 + s) 2 m
theorem law_T_song {post : Int32 → MS → Prop} {pex : String → MS → Prop} {σ : MS} {a k e m : Int32}
    (hx : (∀ s, s < 16 → a ≠ nI s) → pex xIO σ) (hq : ∀ s, s < 16 → a = nI s → ¬ sgOk k e m → pex xIA σ)
    (h : ∀ s, s < 16 → a = nI s → sgOk k e m → post (σ (39 + s) 2) (songS σ s k e m)) : w_T_X7_song post pex σ a k e m := by
  unfold w_T_X7_song u_T_X7_song_37
  refine law_T_checkSong (fun s hs q => ?_) hx
  subst q
  have hq := hq s hs rfl
  have h := h s hs rfl
  rw [nI_clamp (by omega)]
  exact ⟨fun c1 => hq fun q => q.1 c1, fun c1 => ⟨fun c2 => hq fun q => q.2.1 c2, fun c2 => ⟨fun c3 => hq fun q => q.2.2.1 c3, fun c3 => ⟨fun c4 => hq fun q => q.2.2.2.1 c4, fun c4 => ⟨fun c5 => hq fun q => q.2.2.2.2.1 c5, fun c5 => ⟨fun c6 => ⟨vp_in_nI hs (by decide), h ⟨c1, c2, c3, c4, c5, c6⟩⟩, fun c6 => hq fun q => c6 q.2.2.2.2.2⟩⟩⟩⟩⟩⟩
theorem Ok.song {σ : MS} {P B W T s : Nat} {k e m : Int32} (O : Ok σ P B W T) (hs : s < 16) : Ok (songS σ s k e m) P B W T :=
  ((O.up (by unfold okPl; omega)).up (by unfold okPl; omega)).up (by unfold okPl; omega)
/-- the state that a feud told or ended leaves -/
def feudS (σ : MS) (p q : Nat) (was is : Int32) : MS := if was = is then σ else up2 (up2 σ (29 + p) 4 (σ (29 + p) 4 ^^^ one q)) (29 + q) 4 (σ (29 + q) 4 ^^^ one p)
theorem law_T_feud {post : Int32 → MS → Prop} {pex : String → MS → Prop} {σ : MS} {P B W T : Nat} {a b c : Int32} (O : Ok σ P B W T)
    (hx : ((∀ p, p < P → a ≠ nI p) ∨ (∀ p, p < P → b ≠ nI p)) → pex xIO σ)
    (hq : ∀ p, p < P → a = nI p → b = nI p → pex xIA σ)
    (h : ∀ p q, p < P → q < P → a = nI p → b = nI q → p ≠ q → post (b01 (bt (σ (29 + p) 4) q)) (feudS σ p q (b01 (bt (σ (29 + p) 4) q)) c)) : w_T_X7_feud post pex σ a b c := by
  have hP := O.hP
  unfold w_T_X7_feud
  refine law_T_checkPlayer O (fun p hp e => law_T_checkPlayer O (fun q hqP e2 => ?_) (fun z => hx (Or.inr z))) (fun z => hx (Or.inl z))
  subst e
  subst e2
  refine ⟨fun d => hq p hp rfl d.symm, fun d => ?_⟩
  have hne : p ≠ q := fun z => d (by rw [z])
  have h := h p q hp hqP rfl rfl hne
  unfold feudS at h
  rw [nI_clamp (by omega), nI_clamp (by omega)]
  have nr : ∀ x : Bool, narrow .boolean (.int (b01 x)) = .int (b01 x) := fun x => by cases x <;> rfl
  refine ⟨vp_in_nI (by omega) (by decide), law_has (by omega) ⟨fun g => ⟨nr _, ?_⟩, fun g => ⟨vp_in_nI (by omega) (by decide), vp_in_nI (by omega) (by decide), fun y hy => ⟨nr _, ?_⟩⟩⟩⟩
  · rw [if_pos g] at h
    exact h
  · rw [if_neg g] at h
    rw [up2_at (by omega)] at hy
    subst hy
    exact h
theorem Ok.feud {σ : MS} {P B W T p q : Nat} {x y : Int32} (O : Ok σ P B W T) (hp : p < 10) (hq : q < 10) : Ok (feudS σ p q x y) P B W T := by
  unfold feudS
  split
  · exact O
  · exact (O.up (by unfold okPl; omega)).up (by unfold okPl; omega)
/-- the state that an asked wedding leaves -/
def askS (σ : MS) (W : Nat) (b d t s l g : Int32) : MS := up2 (up2 (up2 (up2 (up2 (up2 (up2 (up2 σ (73 + W) 0 b) (73 + W) 1 d) (73 + W) 2 t) (73 + W) 3 s) (73 + W) 4 l) (73 + W) 5 g) (73 + W) 6 (σ 0 9)) 0 8 (nI (W + 1))
def askOk (σ : MS) (d s l g : Int32) : Prop := ¬ d < σ 0 9 ∧ ¬ 365 < d ∧ hoursOk s l = true ∧ (0 ≤ g ∧ g < 65536)
theorem law_T_ask {post : Int32 → MS → Prop} {pex : String → MS → Prop} {σ : MS} {P B W T : Nat} {b d t s l g : Int32} (O : Ok σ P B W T)
    (hx : ((∀ k, k < B → b ≠ nI k) ∨ (∀ k, k < 6 → t ≠ nI k)) → pex xIO σ)
    (hq : (∃ k, k < B ∧ b = nI k) → (∃ k, k < 6 ∧ t = nI k) → ¬ askOk σ d s l g → pex xIA σ)
    (hf : (∃ k, k < B ∧ b = nI k) → (∃ k, k < 6 ∧ t = nI k) → askOk σ d s l g → (W = 14 ∨ taken σ b d W = true) → pex xIS σ)
    (h : (∃ k, k < B ∧ b = nI k) → (∃ k, k < 6 ∧ t = nI k) → askOk σ d s l g → W < 14 → taken σ b d W = false → post (nI W) (askS σ W b d t s l g)) : w_T_X7_ask post pex σ b d t s l g := by
  have hW := O.hW
  unfold w_T_X7_ask u_T_X7_ask_42 u_T_X7_ask_70
  refine law_T_checkBand O (fun k1 hk1 e1 => law_T_checkTown (fun k2 hk2 e2 => ?_) (fun z => hx (Or.inr z))) (fun z => hx (Or.inl z))
  have hq := hq ⟨k1, hk1, e1⟩ ⟨k2, hk2, e2⟩
  have hf := hf ⟨k1, hk1, e1⟩ ⟨k2, hk2, e2⟩
  have h := h ⟨k1, hk1, e1⟩ ⟨k2, hk2, e2⟩
  refine ⟨fun c1 => hq fun q => q.1 c1, fun c1 => ⟨fun c2 => hq fun q => q.2.1 c2, fun c2 => law_areHours ⟨fun c3 => hq fun q => ?_, fun c3 => law_isSetOfSongs ⟨fun c4 => hq fun q => of_decide_eq_false (b01_0.mp c4) q.2.2.2, fun c4 => ?_⟩⟩⟩⟩
  · have := q.2.2.1
    rw [b01_0.mp c3] at this
    exact Bool.false_ne_true this
  have ok : askOk σ d s l g := ⟨c1, c2, b01_1.mp c3, of_decide_eq_true (b01_1.mp c4)⟩
  have hf := hf ok
  have h := h ok
  rw [O.h8]
  refine ⟨fun c5 => hf (Or.inl ?_), fun c5 => law_isTaken O.h8 hW ⟨fun c6 => ?_, fun c6 => hf (Or.inr (b01_1.mp c6))⟩⟩
  · have := (nI_leI (a := 14) (by decide) (by omega)).mp (show nI 14 ≤ nI W from c5)
    omega
  · have hlt : W < 14 := Classical.byContradiction fun q => c5 (show nI 14 ≤ nI W from nI_le (by omega) (by omega))
    rw [O.h8, nI_clamp (by omega)]
    refine ⟨vp_in_nI hlt (by decide), fun y1 h1 y2 h2 y3 h3 => ?_⟩
    rw [up2_at (by omega), up2_at (by omega), up2_at (by omega), up2_at (by omega), up2_at (by omega), up2_at (by omega)] at h1
    subst h1
    rw [up2_at (by omega), up2_at (by omega), up2_at (by omega), up2_at (by omega), up2_at (by omega), up2_at (by omega), up2_at (by omega), O.h8] at h2
    subst h2
    rw [up2_same] at h3
    subst h3
    rw [nI_1, nI_pred]
    exact h hlt (b01_0.mp c6)
theorem Ok.ask {σ : MS} {P B W T : Nat} {b d t s l g : Int32} (O : Ok σ P B W T) (hb : ∃ k, k < B ∧ b = nI k) (ht : ∃ k, k < 6 ∧ t = nI k) (ok : askOk σ d s l g) (hW : W < 14) : Ok (askS σ W b d t s l g) P B (W + 1) T := by
  have hB := O.hB
  have hb6 : vp_in b 6 := by
    obtain ⟨k, hk, rfl⟩ := hb
    exact vp_in_nI (by omega) (by decide)
  have ht6 : vp_in t 6 := by
    obtain ⟨k, hk, rfl⟩ := ht
    exact vp_in_nI hk (by decide)
  have hd : vp_in d 366 := by
    have h0 : ¬ d < 0 := fun q => ok.1 (by rw [O.h9]; exact Int32.lt_of_lt_of_le q (nI_pos' (by have := O.hT; omega)))
    obtain ⟨k, hk, rfl⟩ := nI_of h0
    have := (nI_leI hk (by decide)).mp (show nI k ≤ nI 365 from Int32.not_lt.mp ok.2.1)
    exact vp_in_nI (by omega) (by decide)
  have ne : ∀ k j, (k ≠ 0 ∨ j ≠ 8) → (k ≠ 73 + W ∨ 7 ≤ j) → askS σ W b d t s l g k j = σ k j := fun k j h1 h2 => by
    unfold askS
    rw [up2_at h1, up2_at (by omega), up2_at (by omega), up2_at (by omega), up2_at (by omega), up2_at (by omega), up2_at (by omega), up2_at (by omega)]
  refine ⟨(ne 0 6 (by omega) (by omega)).trans O.h6, O.hP, (ne 0 7 (by omega) (by omega)).trans O.h7, O.hB, up2_same, by omega, (ne 0 9 (by omega) (by omega)).trans O.h9, O.hT, fun p hp => ?_, fun w hw => ?_, fun w hw => ?_, fun w hw => ?_, fun b hb => ?_, fun b j hb hj => ?_⟩
  · rw [ne (29 + p) 2 (by omega) (by omega)]; exact O.home p hp
  · by_cases q : w = W
    · subst q
      have e : askS σ w b d t s l g (73 + w) 0 = b := by
        unfold askS
        rw [up2_at (by omega), up2_at (by omega), up2_at (by omega), up2_at (by omega), up2_at (by omega), up2_at (by omega), up2_at (by omega), up2_same]
      rw [e]; exact hb6
    · rw [ne (73 + w) 0 (by omega) (by omega)]; exact O.band w hw
  · by_cases q : w = W
    · subst q
      have e : askS σ w b d t s l g (73 + w) 1 = d := by
        unfold askS
        rw [up2_at (by omega), up2_at (by omega), up2_at (by omega), up2_at (by omega), up2_at (by omega), up2_at (by omega), up2_same]
      rw [e]; exact hd
    · rw [ne (73 + w) 1 (by omega) (by omega)]; exact O.day w hw
  · by_cases q : w = W
    · subst q
      have e : askS σ w b d t s l g (73 + w) 2 = t := by
        unfold askS
        rw [up2_at (by omega), up2_at (by omega), up2_at (by omega), up2_at (by omega), up2_at (by omega), up2_same]
      rw [e]; exact ht6
    · rw [ne (73 + w) 2 (by omega) (by omega)]; exact O.town w hw
  · rw [ne (55 + b) 2 (by omega) (by omega)]; exact O.size b hb
  · rw [ne (67 + b) j (by omega) (by omega)]; exact O.place b j hb hj
/-- those hit by an illness, of the first n, get the players on stage -/
def illS (σ : MS) (p : Nat) (day : Int32) : Nat → MS
  | 0 => σ
  | n + 1 => if illS σ p day n (73 + n) 1 = day ∧ fxw (illS σ p day n) n p = true then putF (illS σ p day n) n (illS σ p day n 7 n) else illS σ p day n
theorem Ok.ill {σ : MS} {P B W T p : Nat} {day : Int32} (O : Ok σ P B W T) : ∀ n, n ≤ 14 → Ok (illS σ p day n) P B W T
  | 0, _ => O
  | n + 1, h => by
    unfold illS
    split
    · exact (O.ill n (by omega)).put (by omega)
    · exact O.ill n (by omega)
/-- the state before those hit are served: filled anew on stage, the day off written down -/
def offS (σ : MS) (P W p d : Nat) : MS := up2 (swS σ P W p (nI d) W).1 6 d ((swS σ P W p (nI d) W).1 6 d ||| one p)
theorem Ok.off {σ : MS} {P B W T p d : Nat} (O : Ok σ P B W T) : Ok (offS σ P W p d) P B W T := (O.scr (Scr.sw σ P W p (nI d) W)).up (by unfold okPl; omega)
theorem law_T_ill {post : Int32 → MS → Prop} {pex : String → MS → Prop} {σ : MS} {P B W T : Nat} {a b : Int32} (O : Ok σ P B W T)
    (hx : (∀ p, p < P → a ≠ nI p) → pex xIO σ)
    (hq : ∀ p, p < P → a = nI p → (∀ d, T ≤ d → d ≤ 365 → b ≠ nI d) → pex xIA σ)
    (h : ∀ p d, p < P → T ≤ d → d ≤ 365 → a = nI p → b = nI d → post (swS σ P W p (nI d) W).2 (illS (offS σ P W p d) p (nI d) W)) : w_T_X7_ill post pex σ a b := by
  have hP := O.hP
  have hW := O.hW
  unfold w_T_X7_ill
  refine law_T_checkPlayer O (fun p hp e => law_T_checkDayToCome O (fun d hd1 hd2 e2 => ?_) (fun z => hq p hp e z)) hx
  have hh := h p d hp hd1 hd2 e e2
  subst e
  subst e2
  refine law_stageWithout O (by omega) ⟨vp_in_nI (by omega) (by decide), vp_in_nI (by omega) (by decide), ?_⟩
  rw [nI_clamp (by omega)]
  have O2 : Ok (offS σ P W p d) P B W T := O.off
  show ∃ k, u_T_X7_ill_32 post pex (nI p) (nI d) k (offS σ P W p d) (swS σ P W p (nI d) W).2 0
  generalize (swS σ P W p (nI d) W).2 = r at hh ⊢
  generalize offS σ P W p d = z at hh O2 ⊢
  have hl := up_loop (fun k (q : MS × Int32) => u_T_X7_ill_32 post pex (nI p) (nI d) k q.1 r q.2) (fun i => (illS z p (nI d) i, nI i)) W ?_ (fun i k hi hk => ?_)
  · exact hl
  · show u_T_X7_ill_32 post pex (nI p) (nI d) 1 (illS z p (nI d) W) r (nI W)
    rw [u_T_X7_ill_32, (O2.ill W hW).h8]
    exact ⟨fun _ => hh, fun c => absurd (le_self _) c⟩
  · show u_T_X7_ill_32 post pex (nI p) (nI d) (k + 1) (illS z p (nI d) i) r (nI i)
    have hk : u_T_X7_ill_32 post pex (nI p) (nI d) k (illS z p (nI d) (i + 1)) r (nI (i + 1)) := hk
    unfold illS at hk
    have Oi := O2.ill (p := p) (day := nI d) i (by omega)
    generalize illS z p (nI d) i = y at hk Oi ⊢
    have v : vp_in (nI i) 14 := vp_in_nI (by omega) (by decide)
    rw [u_T_X7_ill_32, Oi.h8, nI_1, nI_clamp (by omega)]
    refine ⟨fun c => absurd c (nI_ge hi (by omega)), fun _ => ⟨v, fun c => law_isFixedWith (by omega) ⟨fun g => ?_, fun g => ⟨v, law_putOnStage ?_⟩⟩, fun c => ?_⟩⟩
    · rw [if_neg (fun q => by rw [b01_0.mp g] at q; exact Bool.false_ne_true q.2)] at hk
      exact hk
    · rw [if_pos ⟨c, b01_1.mp g⟩] at hk
      exact hk
    · rw [if_neg (fun q => c q.1)] at hk
      exact hk
end
