section
/-! THE PLAN OF A DAY, ON BOTH SIDES -/
/-- the n bits of v are f 0 .. f (c-1), rising, three at most -/
def fewF (n : Nat) (v : Int32) (c : Nat) (f : Nat → Nat) : Prop := c ≤ 3 ∧ (∀ i j, i < j → j < c → f i < f j) ∧ (∀ i, i < c → f i < n) ∧ bcI v = nI c ∧ ∀ w, bt v w = true ↔ ∃ i, i < c ∧ f i = w
/-- the reference's try, of the first n: its books, the prices' sum, whom it fixed -/
def trR (x : MS) (P W : Nat) (f : Nat → Nat) (m : Int32) : Nat → MS × Int32 × Int32
  | 0 => (x, 0, 0)
  | n + 1 => if bt m n = true then (if bR (trR x P W f m n).1 (f n) P (freeF (stg (trR x P W f m n).1 W) (f n) W P) 0 (2 ^ P - 1) = -1 then ((trR x P W f m n).1, -999999, (trR x P W f m n).2.2) else (fxN (trR x P W f m n).1 (f n) P (bR (trR x P W f m n).1 (f n) P (freeF (stg (trR x P W f m n).1 W) (f n) W P) 0 (2 ^ P - 1)), (trR x P W f m n).2.1 + priceI (costsF (trR x P W f m n).1 (bR (trR x P W f m n).1 (f n) P (freeF (stg (trR x P W f m n).1 W) (f n) W P) 0 (2 ^ P - 1)) (f n) P), (trR x P W f m n).2.2 ||| one n)) else trR x P W f m n
/-- .. taken back -/
def bkR (z : MS) (f : Nat → Nat) (m : Int32) : Nat → MS
  | 0 => z
  | n + 1 => if bt m n = true then up2 (up2 (up2 (up2 (bkR z f m n) (73 + f n) 7 0) (73 + f n) 8 0) (73 + f n) 9 0) (73 + f n) 11 0 else bkR z f m n
section PLANB
variable {x y z : MS} {Γ : RG} {σ τ ρ : MS} {a a0 a1 a2 a3 a4 b : Int32} {w P B W T : Nat}
theorem seg_ind {c W : Nat} {f : Nat → Nat} {Pr : Nat → Nat → Prop} (hm : ∀ i j, i < j → j < c → f i < f j) (hW : ∀ i, i < c → f i < W) (h0 : Pr 0 0) (hs : ∀ n i, n < W → (∀ k, k < c → f k ≠ n) → Pr n i → Pr (n + 1) i) (ht : ∀ i, i < c → Pr (f i) i → Pr (f i + 1) (i + 1)) : Pr W c := by
  have key : ∀ n, n ≤ W → ∃ i, i ≤ c ∧ (∀ k, k < c → (f k < n ↔ k < i)) ∧ Pr n i := by
    intro n
    induction n with
    | zero => exact fun _ => ⟨0, Nat.zero_le _, fun k hk => ⟨fun h => absurd h (by omega), fun h => absurd h (by omega)⟩, h0⟩
    | succ n ih =>
      intro hn
      obtain ⟨i, h1, h2, h3⟩ := ih (by omega)
      by_cases q : ∃ k, k < c ∧ f k = n
      · obtain ⟨k, hk, e⟩ := q
        have e1 : ¬ k < i := fun z => by have := (h2 k hk).mpr z; omega
        have e2 : ¬ i < k := fun z => by
          have a1 := hm i k z hk
          have a2 := (h2 i (by omega)).mp (by omega)
          omega
        have e3 : k = i := by omega
        subst e3
        refine ⟨k + 1, by omega, fun j hj => ⟨fun h => ?_, fun h => ?_⟩, by rw [← e]; exact ht k hk (by rw [e]; exact h3)⟩
        · rcases Nat.lt_trichotomy j k with z | z | z
          · omega
          · omega
          · have := hm k j z hj; omega
        · rcases Nat.lt_or_ge j k with z | z
          · have := (h2 j hj).mpr z; omega
          · have : j = k := by omega
            subst this
            omega
      · refine ⟨i, h1, fun k hk => ?_, hs n i (by omega) (fun k hk e => q ⟨k, hk, e⟩) h3⟩
        have : f k ≠ n := fun e => q ⟨k, hk, e⟩
        rw [← h2 k hk]
        omega
  obtain ⟨i, h1, h2, h3⟩ := key W (Nat.le_refl _)
  have : i = c := by
    rcases Nat.lt_or_ge i c with z | z
    · have := (h2 i z).mp (hW i z); omega
    · omega
  rw [← this]
  exact h3
theorem fewF.zero : fewF 0 0 0 (fun _ => 0) := ⟨by decide, fun i j _ h => absurd h (by omega), fun i h => absurd h (by omega), by decide +kernel, fun w => by rw [b_0]; exact ⟨fun h => absurd h Bool.false_ne_true, fun ⟨i, hi, _⟩ => absurd hi (by omega)⟩⟩
theorem fewF.suc {n c : Nat} {v : Int32} {f : Nat → Nat} (h : fewF n v c f) : fewF (n + 1) v c f := ⟨h.1, h.2.1, fun i hi => by have := h.2.2.1 i hi; omega, h.2.2.2⟩
theorem fewF.add {n c : Nat} {v : Int32} {f : Nat → Nat} (hn : n < 14) (hc : c < 3) (h : fewF n v c f) : fewF (n + 1) (v ||| one n) (c + 1) (fun i => if i = c then n else f i) := by
  obtain ⟨h1, h2, h3, h4, h5⟩ := h
  refine ⟨by omega, fun i j hij hj => ?_, fun i hi => ?_, ?_, fun w => ?_⟩
  · dsimp only
    rw [if_neg (by omega)]
    by_cases e : j = c
    · rw [if_pos e]; exact h3 i (by omega)
    · rw [if_neg e]; exact h2 i j hij (by omega)
  · dsimp only
    by_cases e : i = c
    · rw [if_pos e]; omega
    · rw [if_neg e]; have := h3 i (by omega); omega
  · rcases (by omega : c = 0 ∨ c = 1 ∨ c = 2) with e | e | e
    · subst e
      have : v = 0 := b_ext fun i hi => by
        rw [b_0]
        exact Bool.eq_false_iff.mpr (fun q => by obtain ⟨k, hk, _⟩ := (h5 i).mp q; omega)
      rw [this, Int32.zero_or]
      exact bc_1 n hn
    · subst e
      have g0 := h3 0 (by omega)
      have : v = one (f 0) := b_ext fun i hi => by
        rw [b_one (by omega) hi, Bool.eq_iff_iff, h5, decide_eq_true_iff]
        exact ⟨fun ⟨k, hk, e⟩ => by obtain rfl : k = 0 := by omega
                                    exact e.symm, fun e => ⟨0, by omega, e.symm⟩⟩
      rw [this]
      exact bc_2 (f 0) (by omega) n hn (by omega)
    · subst e
      have g0 := h3 0 (by omega)
      have g1 := h3 1 (by omega)
      have g2 := h2 0 1 (by omega) (by omega)
      have : v = one (f 0) ||| one (f 1) := b_ext fun i hi => by
        rw [b_or, b_one (by omega) hi, b_one (by omega) hi, Bool.eq_iff_iff, h5, Bool.or_eq_true, decide_eq_true_iff, decide_eq_true_iff]
        refine ⟨fun ⟨k, hk, e⟩ => ?_, fun e => e.elim (fun e => ⟨0, by omega, e.symm⟩) (fun e => ⟨1, by omega, e.symm⟩)⟩
        rcases (by omega : k = 0 ∨ k = 1) with z | z
        · subst z; exact Or.inl e.symm
        · subst z; exact Or.inr e.symm
      rw [this]
      exact bc_3 (f 0) (by omega) (f 1) (by omega) g2 n hn g1
  · rcases Nat.lt_or_ge w 32 with hw | hw
    · rw [b_or, b_one (by omega) hw, Bool.or_eq_true, decide_eq_true_iff, h5]
      constructor
      · rintro (⟨i, hi, e⟩ | e)
        · exact ⟨i, by omega, by dsimp only; rw [if_neg (by omega)]; exact e⟩
        · exact ⟨c, by omega, by dsimp only; rw [if_pos rfl]; exact e.symm⟩
      · rintro ⟨i, hi, e⟩
        dsimp only at e
        by_cases z : i = c
        · rw [if_pos z] at e; exact Or.inr e.symm
        · rw [if_neg z] at e; exact Or.inl ⟨i, by omega, e⟩
    · rw [b_big hw]
      refine ⟨fun h => absurd h Bool.false_ne_true, fun ⟨i, hi, e⟩ => ?_⟩
      dsimp only at e
      by_cases z : i = c
      · rw [if_pos z] at e; omega
      · rw [if_neg z] at e; have := h3 i (by omega); omega
/-- the members of a few at the places of m -/
theorem memS_few {n c : Nat} {v m : Int32} {f : Nat → Nat} (hn : n ≤ 14) (h : fewF n v c f) (w : Nat) : bt (memS v m 14).1 w = true ↔ ∃ i, i < c ∧ f i = w ∧ bt m i = true := by
  obtain ⟨h1, h2, h3, h4, h5⟩ := h
  have hno : ∀ k, (∀ j, j < c → f j ≠ k) → ¬ bt v k = true := fun k q z => by
    obtain ⟨i, hi, e⟩ := (h5 k).mp z
    exact q i hi e
  have := seg_ind (c := c) (W := 14) (f := f) (Pr := fun k i => (memS v m k).2 = i ∧ ∀ w, bt (memS v m k).1 w = true ↔ ∃ j, j < i ∧ f j = w ∧ bt m j = true) h2 (fun i hi => by have := h3 i hi; omega) ⟨rfl, fun w => by
    show bt 0 w = true ↔ _
    rw [b_0]
    exact ⟨fun z => absurd z Bool.false_ne_true, fun ⟨j, hj, _⟩ => absurd hj (by omega)⟩⟩ (fun k i hk q g => by
    unfold memS
    rw [if_neg (hno k q)]
    exact g) (fun i hi g => by
    have gi := h3 i hi
    unfold memS
    rw [if_pos ((h5 (f i)).mpr ⟨i, hi, rfl⟩), g.1]
    refine ⟨rfl, fun w => ?_⟩
    show bt ((memS v m (f i)).1 ||| (if bt m i = true then one (f i) else 0)) w = true ↔ _
    rcases Nat.lt_or_ge w 32 with hw | hw
    · rw [b_or, Bool.or_eq_true, g.2 w]
      constructor
      · rintro (⟨j, hj, e, e2⟩ | e)
        · exact ⟨j, by omega, e, e2⟩
        · by_cases z : bt m i = true
          · rw [if_pos z, b_one (by omega) hw, decide_eq_true_iff] at e
            exact ⟨i, by omega, e.symm, z⟩
          · rw [if_neg z, b_0] at e
            exact absurd e Bool.false_ne_true
      · rintro ⟨j, hj, e, e2⟩
        by_cases z : j = i
        · subst z
          right
          rw [if_pos e2, b_one (by omega) hw, decide_eq_true_iff]
          exact e.symm
        · exact Or.inl ⟨j, by omega, e, e2⟩
    · rw [b_big hw]
      refine ⟨fun z => absurd z Bool.false_ne_true, fun ⟨j, hj, e, _⟩ => ?_⟩
      have := h3 j (by omega)
      omega)
  exact this.2 w
theorem fst_more {day : Int32} {j : Nat} (h : 3 ≤ bcI (fstF x day j)) : ∀ n, j ≤ n → fstF x day n = fstF x day j := by
  intro n
  induction n with
  | zero => intro hn; obtain rfl : j = 0 := by omega
            rfl
  | succ n ih =>
    intro hn
    by_cases e : j = n + 1
    · rw [e]
    · have ih := ih (by omega)
      show (if x (73 + n) 1 = day ∧ isFst x n = true ∧ ¬ 3 ≤ bcI (fstF x day n) then fstF x day n ||| one n else fstF x day n) = _
      rw [ih, if_neg (fun q => q.2.2 h)]
/-! what the tries cost -/
theorem nI_div5 {n : Nat} (h : n < 2 ^ 31) : nI n / 5 = nI (n / 5) := by
  apply Int32.toInt_inj.mp
  have e5 : (5 : Int32).toInt = 5 := by decide
  have e1 : (nI n).toInt = n := nI_toInt h
  have e2 : (nI (n / 5)).toInt = (n / 5 : Nat) := nI_toInt (by omega)
  rw [Int32.toInt_div, e1, e5, e2, Int.tdiv_eq_ediv_of_nonneg (by omega), Int.bmod_eq_of_le (by omega) (by omega)]
  omega
theorem costF_rg {p : Nat} (Y : Sy x) (HS : SI x P B W) (hp : p < P) (hw : w < W) (hh : ∃ t, t < 6 ∧ x (29 + p) 2 = nI t) (ht : ∃ t, t < 6 ∧ x (73 + w) 2 = nI t) : ∃ t, t ≤ 6354 ∧ costF x p w = nI t := by
  obtain ⟨⟨f, f1, f2, ef⟩, _⟩ := HS.1 p hp
  obtain ⟨_, s, l, _, _, l1, l2, _, _, el⟩ := HS.2.2.2 w hw
  unfold costF
  have key : ∃ n, n ≤ 576 ∧ (if 0 < wayF x (x (29 + p) 2) (x (73 + w) 2) then wayF x (x (29 + p) 2) (x (73 + w) 2) else 0) = nI n := by
    rcases way_rg Y hh ht with e | e
    · rw [e]
      exact ⟨0, by omega, by decide⟩
    · rw [mx_way e]
      exact e
  obtain ⟨n, hn, en⟩ := key
  rw [en, ef, el, show (10 : Int32) = nI 10 from rfl, nI_mul, nI_mul, nI_add]
  refine ⟨f * l + 10 * n, ?_, rfl⟩
  have := Nat.mul_le_mul f2 l2
  omega
theorem sumI_rg {f : Nat → Int32} {k : Nat} : ∀ n, (∀ p, p < n → ∃ t, t ≤ k ∧ f p = nI t) → ∃ t, t ≤ n * k ∧ sumI f n = nI t
  | 0, _ => ⟨0, by omega, nI_0.symm⟩
  | n + 1, h => by
    obtain ⟨t, ht, e⟩ := sumI_rg n (fun p hp => h p (by omega))
    obtain ⟨u, hu, e2⟩ := h n (by omega)
    refine ⟨t + u, ?_, ?_⟩
    · rw [Nat.succ_mul]; omega
    · show sumI f n + f n = _
      rw [e, e2, nI_add]
theorem price_rg {s : Int32} (Y : Sy x) (HS : SI x P B W) (hP : P ≤ 10) (hw : w < W) (hh : ∀ p, p < 10 → ∃ t, t < 6 ∧ x (29 + p) 2 = nI t) (ht : ∃ t, t < 6 ∧ x (73 + w) 2 = nI t) : ∃ t, t ≤ 76298 ∧ priceI (costsF x s w P) = nI t := by
  obtain ⟨c, hc, ec⟩ := sumI_rg (f := ifb s fun p => costF x p w) (k := 6354) P (fun p hp => by
    by_cases q : bt s p = true
    · obtain ⟨t, h1, h2⟩ := costF_rg (P := P) (B := B) (W := W) Y HS hp hw (hh p (by omega)) ht
      exact ⟨t, h1, (if_pos q).trans h2⟩
    · exact ⟨0, by omega, (if_neg q).trans nI_0.symm⟩)
  have hc2 : c ≤ 63540 := Nat.le_trans hc (Nat.mul_le_mul_right 6354 hP)
  have ec : costsF x s w P = nI c := ec
  unfold priceI
  rw [ec, show (6 : Int32) = nI 6 from rfl, nI_mul, nI_div5 (by omega), show (50 : Int32) = nI 50 from rfl, nI_add]
  exact ⟨c * 6 / 5 + 50, by omega, rfl⟩
/-! the reference's books while it tries -/
theorem fxN_k {s : Int32} {k j : Nat} (h : ¬ (k = 73 + w ∧ (j = 7 ∨ j = 8 ∨ j = 9 ∨ j = 11)) ∧ ¬ (k = 0 ∧ j = 10)) : fxN x w P s k j = x k j := by
  unfold fxN
  rw [up2_off (by omega), up2_off (by omega), up2_off (by omega), up2_off (by omega), up2_off (by omega)]
theorem trR_fl {f : Nat → Nat} {m : Int32} : ∀ n, Fl x (trR x P W f m n).1
  | 0 => Fl.rf
  | n + 1 => by
    have ih := trR_fl (f := f) (m := m) n
    unfold trR
    split
    · split
      · exact ih
      · exact ih.tr (fun k j hk => fxN_k (by unfold flc at hk; omega))
    · exact ih
theorem trR_k {f : Nat → Nat} {m : Int32} {k j : Nat} (h : ¬ (73 ≤ k ∧ (j = 7 ∨ j = 8 ∨ j = 9 ∨ j = 11)) ∧ ¬ (k = 0 ∧ j = 10)) : ∀ n, (trR x P W f m n).1 k j = x k j
  | 0 => rfl
  | n + 1 => by
    have ih := trR_k (f := f) (m := m) h n
    unfold trR
    split
    · split
      · exact ih
      · exact (fxN_k (by omega)).trans ih
    · exact ih
theorem trR_m {f : Nat → Nat} {m : Int32} : ∀ n, n ≤ 31 → (∀ i, bt (trR x P W f m n).2.2 i = true → i < n) ∧ ∀ w j, (∀ i, bt (trR x P W f m n).2.2 i = true → f i ≠ w) → (trR x P W f m n).1 (73 + w) j = x (73 + w) j
  | 0, _ => ⟨fun i h => by
      have h : bt 0 i = true := h
      rw [b_0] at h
      exact absurd h Bool.false_ne_true, fun _ _ _ => rfl⟩
  | n + 1, hn => by
    obtain ⟨h1, h2⟩ := trR_m (f := f) (m := m) n (by omega)
    unfold trR
    split
    · split
      · exact ⟨fun i h => by have := h1 i h; omega, h2⟩
      · have hb : ∀ i, bt ((trR x P W f m n).2.2 ||| one n) i = true ↔ (bt (trR x P W f m n).2.2 i = true ∨ i = n) := fun i => by
          rcases Nat.lt_or_ge i 32 with hi | hi
          · rw [b_or, b_one (by omega) hi, Bool.or_eq_true, decide_eq_true_iff]
          · rw [b_big hi, b_big hi]
            exact ⟨fun z => absurd z Bool.false_ne_true, fun z => z.elim (fun z => absurd z Bool.false_ne_true) (fun z => by omega)⟩
        refine ⟨fun i h => ?_, fun w j h => ?_⟩
        · rcases (hb i).mp h with z | z
          · have := h1 i z; omega
          · omega
        · have hw : f n ≠ w := h n ((hb n).mpr (Or.inr rfl))
          exact (fxN_k (by omega)).trans (h2 w j (fun i q => h i ((hb i).mpr (Or.inl q))))
    · exact ⟨fun i h => by have := h1 i h; omega, h2⟩
theorem bkR_at {f : Nat → Nat} {m : Int32} : ∀ n k j, (bkR z f m n k j = 0 ∧ ∃ i, i < n ∧ bt m i = true ∧ k = 73 + f i ∧ (j = 7 ∨ j = 8 ∨ j = 9 ∨ j = 11)) ∨ (bkR z f m n k j = z k j ∧ ∀ i, i < n → bt m i = true → ¬ (k = 73 + f i ∧ (j = 7 ∨ j = 8 ∨ j = 9 ∨ j = 11)))
  | 0, k, j => Or.inr ⟨rfl, fun i hi => absurd hi (by omega)⟩
  | n + 1, k, j => by
    have ih := bkR_at (f := f) (m := m) n k j
    unfold bkR
    by_cases q : bt m n = true
    · rw [if_pos q]
      by_cases c : k = 73 + f n ∧ (j = 7 ∨ j = 8 ∨ j = 9 ∨ j = 11)
      · refine Or.inl ⟨?_, n, by omega, q, c.1, c.2⟩
        obtain ⟨rfl, c⟩ := c
        rcases c with rfl | rfl | rfl | rfl
        · rw [up2_off (by omega), up2_off (by omega), up2_off (by omega), up2_same]
        · rw [up2_off (by omega), up2_off (by omega), up2_same]
        · rw [up2_off (by omega), up2_same]
        · rw [up2_same]
      · rw [up2_off (by omega), up2_off (by omega), up2_off (by omega), up2_off (by omega)]
        rcases ih with ⟨e, i, hi, h⟩ | ⟨e, h⟩
        · exact Or.inl ⟨e, i, by omega, h⟩
        · refine Or.inr ⟨e, fun i hi hb => ?_⟩
          by_cases z : i = n
          · subst z; exact c
          · exact h i (by omega) hb
    · rw [if_neg q]
      rcases ih with ⟨e, i, hi, h⟩ | ⟨e, h⟩
      · exact Or.inl ⟨e, i, by omega, h⟩
      · refine Or.inr ⟨e, fun i hi hb => ?_⟩
        by_cases z : i = n
        · subst z; exact absurd hb q
        · exact h i (by omega) hb
/-- all taken back -/
theorem tr_back {f : Nat → Nat} {m : Int32} {n : Nat} (hn : n ≤ 31) (hf : ∀ i, i < n → f i < 14) (h0 : ∀ i, i < n → x (73 + f i) 7 = 0 ∧ x (73 + f i) 8 = 0 ∧ x (73 + f i) 9 = 0 ∧ x (73 + f i) 11 = 0) : ∀ a b, seen a b → x a b = up2 (bkR (trR x P W f m n).1 f (trR x P W f m n).2.2 n) 0 10 (x 0 10) a b := by
  intro a b hs
  by_cases c0 : a = 0 ∧ b = 10
  · obtain ⟨rfl, rfl⟩ := c0
    rw [up2_same]
  rw [up2_off c0]
  obtain ⟨g1, g2⟩ := trR_m (x := x) (P := P) (W := W) (f := f) (m := m) n hn
  rcases bkR_at (z := (trR x P W f m n).1) (f := f) (m := (trR x P W f m n).2.2) n a b with ⟨e, i, hi, hb, ea, c⟩ | ⟨e, h⟩
  · rw [e, ea]
    obtain ⟨q1, q2, q3, q4⟩ := h0 i hi
    rcases c with rfl | rfl | rfl | rfl
    · exact q1
    · exact q2
    · exact q3
    · exact q4
  · rw [e]
    by_cases c : 73 ≤ a ∧ (b = 7 ∨ b = 8 ∨ b = 9 ∨ b = 11)
    · obtain ⟨v, rfl⟩ : ∃ v, a = 73 + v := ⟨a - 73, by omega⟩
      exact (g2 v b (fun i hb e => h i (g1 i hb) hb ⟨by rw [e], c.2⟩)).symm
    · exact (trR_k ⟨c, c0⟩ n).symm
theorem surv_1 {free had : Int32} (hP : P ≤ 10) (h : ¬ bR x w P free had (2 ^ P - 1) = -1) : survF x w P free had 9 1 = costsF x (bR x w P free had (2 ^ P - 1)) w P := ((surv_is (x := x) (w := w) (free := free) (had := had) hP).2.2.1 h).1
/-- who is free is one, where the stages are -/
theorem freeF_cg (h : Fl x y) (hP : P ≤ 10) (hW : W ≤ 14) (hw : w < 14) (hh : ∀ v, v < 14 → ∃ t, t < 6 ∧ x (73 + v) 2 = nI t) (hq2 : ∀ q, q < 10 → ∃ t, t < 6 ∧ x (29 + q) 2 = nI t) (h7 : ∀ j, j < W → y 7 j = x 7 j) (h6 : ∀ d, y 6 d = x 6 d) : freeF y w W P = freeF x w W P := b_ext fun i hi => by
  rw [freeF_bt hi hP, freeF_bt hi hP]
  by_cases g : i < P
  · rw [freeB_fl h hW hw (by omega) hh (hq2 i (by omega)) h7 (fun d => by rw [h6])]
  · rw [decide_eq_false g, Bool.false_and, Bool.false_and]
/-- class and reference try alike -/
theorem tr_sync {c : Nat} {f : Nat → Nat} {m ch : Int32} (O : Ok x P B W T) (Y : Sy x) (HS : SI x P B W) (hy : Scr x y) (hc : c ≤ 3) (hm : ∀ i j, i < j → j < c → f i < f j) (hfW : ∀ i, i < c → f i < W) (hch : ∀ w, bt ch w = true ↔ ∃ i, i < c ∧ f i = w ∧ bt m i = true) :
    (∃ Z s, (saS y P W ch W).1 = some (Z, s) ∧ (trR x P W f m c).2.1 = s ∧ ∃ t, t ≤ 228894 ∧ s = nI t) ∨ ((saS y P W ch W).1 = none ∧ ∃ t, t ≤ 228894 ∧ (trR x P W f m c).2.1 = -999999 + nI t) := by
  have hW := O.hW
  have hP := O.hP
  have := seg_ind (c := c) (W := W) (f := f) (Pr := fun n i =>
    (∃ Z s, (saS y P W ch n).1 = some (Z, s) ∧ (trR x P W f m i).2.1 = s ∧ (∀ j, j < W → Z 7 j = stg (trR x P W f m i).1 W 7 j) ∧ ∃ t, t ≤ 76298 * i ∧ s = nI t) ∨ ((saS y P W ch n).1 = none ∧ ∃ t, t ≤ 76298 * i ∧ (trR x P W f m i).2.1 = -999999 + nI t)) hm hfW
    (Or.inl ⟨stg y W, 0, rfl, rfl, fun j hj => by
      show stg y W 7 j = stg x W 7 j
      rw [stg_at hj, stg_at hj, hy.c73], 0, by omega, nI_0.symm⟩)
    (fun n i hn q g => by
      have nb : ¬ bt ch n = true := fun z => by
        obtain ⟨k, hk, e, _⟩ := (hch n).mp z
        exact q k hk e
      rcases g with ⟨Z, s, e, r⟩ | ⟨e, r⟩
      · refine Or.inl ⟨Z, s, ?_, r⟩
        unfold saS
        rw [e]
        dsimp only
        rw [if_neg nb]
      · refine Or.inr ⟨?_, r⟩
        unfold saS
        rw [e]
        exact e)
    (fun i hi g => by
      have hfi := hfW i hi
      have ifl := trR_fl (x := x) (P := P) (W := W) (f := f) (m := m) i
      have i6 : ∀ d, (trR x P W f m i).1 6 d = x 6 d := fun d => trR_k (by omega) i
      have hbt : bt ch (f i) = true ↔ bt m i = true := by
        rw [hch]
        constructor
        · rintro ⟨k, hk, e, e2⟩
          have : k = i := by
            rcases Nat.lt_trichotomy k i with z | z | z
            · have := hm k i z hi; omega
            · exact z
            · have := hm i k z hk; omega
          rw [← this]; exact e2
        · exact fun q => ⟨i, hi, rfl, q⟩
      have pr : ∀ s, ∃ t, t ≤ 76298 ∧ priceI (costsF (trR x P W f m i).1 s (f i) P) = nI t := fun s => by
        rw [costsF_fl ifl (by omega) hP (fun p hp => O.hom (by omega))]
        exact price_rg Y HS hP hfi (fun p hp => O.hom hp) (O.twn (by omega))
      rcases g with ⟨Z, s, e, r1, r2, t, ht, r3⟩ | ⟨e, t, ht, r⟩
      · have hZ : Scr y Z := (Scr.sa y P W ch (f i)).2 _ e
        have hxZ : Scr x Z := hy.tr hZ
        have f1 : Fl Z (trR x P W f m i).1 := (Fl.scr hxZ).sy.tr ifl
        have hfr : freeF (stg (trR x P W f m i).1 W) (f i) W P = freeF Z (f i) W P :=
          freeF_cg (f1.tr (Fl.scr (Scr.stg _ W))) hP hW (by omega) (fun v hv => by rw [hxZ.c73]; exact O.twn hv) (fun q hq => by rw [hxZ.c29]; exact O.hom hq) (fun j hj => (r2 j hj).symm) (fun d => by rw [stg_k (by decide), i6, hxZ.c6])
        have hb : bR (trR x P W f m i).1 (f i) P (freeF (stg (trR x P W f m i).1 W) (f i) W P) 0 (2 ^ P - 1) = bR Z (f i) P (freeF Z (f i) W P) 0 (2 ^ P - 1) := by
          obtain ⟨p1, p2⟩ := pw1024 hP
          rw [hfr]
          refine bR_fl f1 (by omega) hP ⟨by rw [bdOf_sc hxZ]; exact O.bd (by omega), ?_⟩ (fun q hq => by rw [hxZ.c29]; exact O.hom (by omega)) _ (by omega)
          obtain ⟨sz, s1, s2⟩ := (O.bz (w := f i) (by omega)).2
          exact ⟨sz, s1, by rw [bdOf_sc hxZ, hxZ.c55]; exact s2⟩
        by_cases q : bt m i = true
        · have vn := surv_no (x := Z) (w := f i) (free := freeF Z (f i) W P) (had := 0) hP
          have v0 := surv_0 (x := Z) (w := f i) (free := freeF Z (f i) W P) (had := 0) hP
          have v7 := surv_7 (x := Z) (w := f i) (P := P) (free := freeF Z (f i) W P) (had := 0)
          have v1 := surv_1 (x := Z) (w := f i) (free := freeF Z (f i) W P) (had := 0) hP
          unfold trR saS
          rw [e, if_pos q, hb]
          dsimp only
          rw [if_pos (hbt.mpr q)]
          generalize survF Z (f i) P (freeF Z (f i) W P) 0 = V at vn v0 v7 v1 ⊢
          generalize bR Z (f i) P (freeF Z (f i) W P) 0 (2 ^ P - 1) = bb at vn v0 v1 ⊢
          by_cases c1 : bb = -1
          · rw [if_pos c1, if_pos (vn.mpr c1)]
            exact Or.inr ⟨rfl, 0, by omega, by rw [nI_0, Int32.add_zero]⟩
          · rw [if_neg c1, if_neg (fun z => c1 (vn.mp z))]
            obtain ⟨u, hu, eu⟩ := pr bb
            have ec : costsF (trR x P W f m i).1 bb (f i) P = V 9 1 := by
              rw [v1 c1]
              exact costsF_fl f1 (by omega) hP (fun p hp => by rw [hxZ.c29]; exact O.hom (by omega))
            refine Or.inl ⟨_, _, rfl, ?_, fun j hj => ?_, t + u, by omega, ?_⟩
            · show (trR x P W f m i).2.1 + priceI (costsF (trR x P W f m i).1 bb (f i) P) = s + priceI (V 9 1)
              rw [r1, ec]
            · show up2 V 7 (f i) (V 9 0) 7 j = stg (fxN (trR x P W f m i).1 (f i) P bb) W 7 j
              rw [stg_at hj]
              by_cases z : j = f i
              · subst z
                have k7 : fxN (trR x P W f m i).1 (f i) P bb (73 + f i) 7 = 1 := by
                  unfold fxN
                  rw [up2_off (by omega), up2_off (by omega), up2_off (by omega), up2_off (by omega), up2_same]
                have k8 : fxN (trR x P W f m i).1 (f i) P bb (73 + f i) 8 = bb := by
                  unfold fxN
                  rw [up2_off (by omega), up2_off (by omega), up2_off (by omega), up2_same]
                rw [up2_same, k7, if_pos rfl, k8, v0]
              · rw [up2_off (by omega), v7, r2 j hj, stg_at hj, fxN_k (by omega), fxN_k (by omega)]
            · show s + priceI (V 9 1) = _
              rw [← ec, r3, eu, nI_add]
        · unfold trR saS
          rw [e, if_neg q]
          dsimp only
          rw [if_neg (fun z => q (hbt.mp z))]
          exact Or.inl ⟨Z, s, rfl, r1, r2, t, by omega, r3⟩
      · refine Or.inr ⟨by unfold saS; rw [e]; exact e, ?_⟩
        unfold trR
        split
        · split
          · exact ⟨0, by omega, by rw [nI_0, Int32.add_zero]⟩
          · obtain ⟨u, hu, eu⟩ := pr (bR (trR x P W f m i).1 (f i) P (freeF (stg (trR x P W f m i).1 W) (f i) W P) 0 (2 ^ P - 1))
            refine ⟨t + u, by omega, ?_⟩
            dsimp only
            rw [r, eu, Int32.add_assoc, nI_add]
        · exact ⟨t, by omega, r⟩)
  rcases this with ⟨Z, s, e, r1, _, t, ht, r3⟩ | ⟨e, t, ht, r⟩
  · exact Or.inl ⟨Z, s, e, r1, t, by omega, r3⟩
  · exact Or.inr ⟨e, t, by omega, r⟩
end PLANB
end
section
/-! THE PLAN OF A DAY, ON BOTH SIDES: the reference's walks -/
section PLANC
variable {x y z : MS} {Γ : RG} {σ τ ρ : MS} {a a0 a1 a2 a3 a4 b : Int32} {w P B W T : Nat}
theorem trR_no {f : Nat → Nat} {m : Int32} {n : Nat} (h : ¬ bt m n = true) : trR x P W f m (n + 1) = trR x P W f m n := if_neg h
theorem trR_none {f : Nat → Nat} {m : Int32} {n : Nat} (h : bt m n = true) (hb : bR (trR x P W f m n).1 (f n) P (freeF (stg (trR x P W f m n).1 W) (f n) W P) 0 (2 ^ P - 1) = -1) : trR x P W f m (n + 1) = ((trR x P W f m n).1, -999999, (trR x P W f m n).2.2) := (if_pos h).trans (if_pos hb)
theorem trR_fix {f : Nat → Nat} {m : Int32} {n : Nat} (h : bt m n = true) (hb : ¬ bR (trR x P W f m n).1 (f n) P (freeF (stg (trR x P W f m n).1 W) (f n) W P) 0 (2 ^ P - 1) = -1) : trR x P W f m (n + 1) = (fxN (trR x P W f m n).1 (f n) P (bR (trR x P W f m n).1 (f n) P (freeF (stg (trR x P W f m n).1 W) (f n) W P) 0 (2 ^ P - 1)), (trR x P W f m n).2.1 + priceI (costsF (trR x P W f m n).1 (bR (trR x P W f m n).1 (f n) P (freeF (stg (trR x P W f m n).1 W) (f n) W P) 0 (2 ^ P - 1)) (f n) P), (trR x P W f m n).2.2 ||| one n) := (if_pos h).trans (if_neg hb)
theorem fxN_9 {s : Int32} : fxN x w P s (73 + w) 9 = priceI (costsF x s w P) := by
  unfold fxN
  rw [up2_off (by omega), up2_off (by omega), up2_same]
theorem sy_tried {post : Int32 → MS → Prop} {af : Nat → Int32} {c : Nat} {f : Nat → Nat} (O : rOk (tR x) Γ σ) (Y : Sy x) (S : Sh x Γ) (G : Gs x) (hc : c ≤ 3) (e : a3 = nI c) (hf : ∀ i, i < c → f i < Γ.2.2.1 ∧ af i = nI (f i)) (h0 : ∀ i, i < c → x (73 + f i) 7 = 0 ∧ x (73 + f i) 8 = 0 ∧ x (73 + f i) 9 = 0 ∧ x (73 + f i) 11 = 0) (hz : σ 0 0 = 0) (h : ∀ τ, rOk (tR x) Γ τ → τ 0 0 = 0 → post (trR x Γ.1 Γ.2.2.1 f a2 c).2.1 τ) : w_X11_tried Γ post σ af a2 a3 := by
  have hW := O.hW
  have hP := O.hP
  have hB := O.hB
  have d115 : ∀ τ, rOk (tR (trR x Γ.1 Γ.2.2.1 f a2 c).1) Γ τ → τ 0 0 = 0 → ∃ k, u_X11_tried_115 Γ post af a2 a3 k τ (trR x Γ.1 Γ.2.2.1 f a2 c).2.1 (trR x Γ.1 Γ.2.2.1 f a2 c).2.2 (x 0 10) 0 := by
    intro τ I0 z0
    have bk := tr_back (x := x) (P := Γ.1) (W := Γ.2.2.1) (f := f) (m := a2) (n := c) (by omega) (fun i hi => by have := (hf i hi).1; omega) h0
    generalize trR x Γ.1 Γ.2.2.1 f a2 c = Z at I0 bk h ⊢
    have := inv_loop (fun k (q : MS × Int32) => u_X11_tried_115 Γ post af a2 a3 k q.1 Z.2.1 Z.2.2 (x 0 10) q.2) (fun j q => (rOk (tR (bkR Z.1 f Z.2.2 j)) Γ q.1 ∧ q.1 0 0 = 0) ∧ q.2 = nI j) c (by
      rintro ⟨τ, v⟩ ⟨⟨I, z⟩, rfl⟩
      have I : rOk (tR (bkR Z.1 f Z.2.2 c)) Γ τ := I
      have z : τ 0 0 = 0 := z
      show u_X11_tried_115 Γ post af a2 a3 1 τ Z.2.1 Z.2.2 (x 0 10) (nI c)
      unfold u_X11_tried_115
      rw [e]
      exact ⟨fun _ => h _ (RX.cg (RX.csh (v := x 0 10) I) bk) (by rw [up2_off (by omega)]; exact z), fun q => absurd (le_self _) q⟩) (by
      rintro j k ⟨τ, v⟩ hj ⟨⟨I, z⟩, rfl⟩ ih
      have I : rOk (tR (bkR Z.1 f Z.2.2 j)) Γ τ := I
      have z : τ 0 0 = 0 := z
      have nx : ∀ τ', rOk (tR (bkR Z.1 f Z.2.2 (j + 1))) Γ τ' → τ' 0 0 = 0 → u_X11_tried_115 Γ post af a2 a3 k τ' Z.2.1 Z.2.2 (x 0 10) (nI j + 1) := fun τ' O' z' => by rw [nI_1]; exact ih (τ', nI (j + 1)) ⟨⟨O', z'⟩, rfl⟩
      obtain ⟨hw, ew⟩ := hf j hj
      have cj : (nI j).toNatClampNeg = j := nI_clamp (by omega)
      have es : bkR Z.1 f Z.2.2 (j + 1) = if bt Z.2.2 j = true then up2 (up2 (up2 (up2 (bkR Z.1 f Z.2.2 j) (73 + f j) 7 0) (73 + f j) 8 0) (73 + f j) 9 0) (73 + f j) 11 0 else bkR Z.1 f Z.2.2 j := rfl
      rw [es] at nx
      show u_X11_tried_115 Γ post af a2 a3 (k + 1) τ Z.2.1 Z.2.2 (x 0 10) (nI j)
      unfold u_X11_tried_115
      refine ⟨fun q => absurd (e ▸ q) (nI_ge hj (by omega)), fun _ => sx_isIn (by omega) ⟨fun q => nx _ ?_ z, fun q => ⟨vp_in_nI (by omega) (by decide), sf_wget I hw (by rw [cj]; exact ew) ⟨⟨by omega, hw⟩, nx _ ?_ ?_⟩⟩⟩⟩
      · rw [if_neg (by rw [b01_0.mp q]; exact Bool.false_ne_true)]
        exact I
      · rw [if_pos (b01_1.mp q)]
        exact RX.wd (RX.wd (RX.wd (RX.wd I hw (by decide) (by decide)) hw (by decide) (by decide)) hw (by decide) (by decide)) hw (by decide) (by decide)
      · rw [up2_off (by omega), up2_off (by omega), up2_off (by omega), up2_off (by omega)]
        exact z) 0 (by omega) (τ, 0) ⟨⟨I0, z0⟩, nI_0.symm⟩
    exact this
  unfold w_X11_tried
  rw [O.csh]
  have := inv_loop (fun k (q : MS × Int32 × Int32 × Int32) => u_X11_tried_15 Γ post af a2 a3 k q.1 q.2.1 q.2.2.1 (x 0 10) q.2.2.2) (fun j q => (rOk (tR (trR x Γ.1 Γ.2.2.1 f a2 j).1) Γ q.1 ∧ q.1 0 0 = 0 ∧ q.2.1 = (trR x Γ.1 Γ.2.2.1 f a2 j).2.1 ∧ q.2.2.1 = (trR x Γ.1 Γ.2.2.1 f a2 j).2.2) ∧ q.2.2.2 = nI j) c (by
    rintro ⟨τ, u, mk, v⟩ ⟨⟨I, z, rfl, rfl⟩, rfl⟩
    have I : rOk (tR (trR x Γ.1 Γ.2.2.1 f a2 c).1) Γ τ := I
    have z : τ 0 0 = 0 := z
    show u_X11_tried_15 Γ post af a2 a3 1 τ _ _ (x 0 10) (nI c)
    unfold u_X11_tried_15
    exact ⟨fun _ => d115 τ I z, fun q => absurd (by rw [e]; exact le_self _) q⟩) (by
    rintro j k ⟨τ, u, mk, v⟩ hj ⟨⟨I, z, rfl, rfl⟩, rfl⟩ ih
    have I : rOk (tR (trR x Γ.1 Γ.2.2.1 f a2 j).1) Γ τ := I
    have z : τ 0 0 = 0 := z
    have nx : ∀ τ' u mk, rOk (tR (trR x Γ.1 Γ.2.2.1 f a2 (j + 1)).1) Γ τ' → τ' 0 0 = 0 → u = (trR x Γ.1 Γ.2.2.1 f a2 (j + 1)).2.1 → mk = (trR x Γ.1 Γ.2.2.1 f a2 (j + 1)).2.2 → u_X11_tried_15 Γ post af a2 a3 k τ' u mk (x 0 10) (nI j + 1) := fun τ' u mk O' z' e1 e2 => by rw [nI_1]; exact ih (τ', u, mk, nI (j + 1)) ⟨⟨O', z', e1, e2⟩, rfl⟩
    obtain ⟨hw, ew⟩ := hf j hj
    have cj : (nI j).toNatClampNeg = j := nI_clamp (by omega)
    have ew' : af (Int32.toNatClampNeg (nI j)) = nI (f j) := by rw [cj]; exact ew
    have hv : vp_in (nI j) 3 := vp_in_nI (by omega) (by decide)
    have fl := trR_fl (x := x) (P := Γ.1) (W := Γ.2.2.1) (f := f) (m := a2) j
    show u_X11_tried_15 Γ post af a2 a3 (k + 1) τ (trR x Γ.1 Γ.2.2.1 f a2 j).2.1 (trR x Γ.1 Γ.2.2.1 f a2 j).2.2 (x 0 10) (nI j)
    unfold u_X11_tried_15
    refine ⟨fun q => absurd (e ▸ q) (nI_ge hj (by omega)), fun _ => sx_isIn (by omega) ⟨fun q => ?_, fun q => ⟨hv, sy_best I (Y.fl fl) (S.fl fl hB) (G.fl fl) hw ew' ?_⟩⟩⟩
    · have en := trR_no (x := x) (P := Γ.1) (W := Γ.2.2.1) (f := f) (m := a2) (n := j) (by rw [b01_0.mp q]; exact Bool.false_ne_true)
      exact nx _ _ _ (by rw [en]; exact I) z (by rw [en]) (by rw [en])
    · rw [and_all]
      unfold frR
      refine ⟨fun d => ?_, fun d => ?_⟩
      · have en := trR_none (x := x) (P := Γ.1) (W := Γ.2.2.1) (f := f) (m := a2) (n := j) (b01_1.mp q) d
        unfold u_X11_tried_56
        refine ⟨fun _ => nx _ _ _ (by rw [en]; exact I) z (by rw [en]) (by rw [en]), fun d2 => absurd d d2⟩
      · have en := trR_fix (x := x) (P := Γ.1) (W := Γ.2.2.1) (f := f) (m := a2) (n := j) (b01_1.mp q) d
        unfold u_X11_tried_56
        refine ⟨fun d2 => absurd d2 d, fun _ => ⟨hv, sy_fixNow I (Y.fl fl) hw ew' (fun τ' O' K' => ⟨hv, sf_wget O' hw ew' ⟨⟨by omega, hw⟩, nx _ _ _ (by rw [en]; exact O') (K'.1.trans z) ?_ (by rw [en])⟩⟩)⟩⟩
        rw [O'.wd (j := 9) hw (by decide), en, fxN_9]) 0 (by omega) (σ, 0, 0, 0) ⟨⟨O, hz, rfl, rfl⟩, nI_0.symm⟩
  exact this
theorem fst_is {day : Int32} : ∀ n, n ≤ 31 → ∀ w, bt (fstF x day n) w = true → isFst x w = true
  | 0, _, w, h => by
    have h : bt 0 w = true := h
    rw [b_0] at h
    exact absurd h Bool.false_ne_true
  | n + 1, hn, w, h => by
    have h : bt (if x (73 + n) 1 = day ∧ isFst x n = true ∧ ¬ 3 ≤ bcI (fstF x day n) then fstF x day n ||| one n else fstF x day n) w = true := h
    by_cases c : x (73 + n) 1 = day ∧ isFst x n = true ∧ ¬ 3 ≤ bcI (fstF x day n)
    · rw [if_pos c] at h
      rcases Nat.lt_or_ge w 32 with hw | hw
      · rw [b_or, b_one (by omega) hw, Bool.or_eq_true, decide_eq_true_iff] at h
        rcases h with h | h
        · exact fst_is n (by omega) w h
        · rw [h]; exact c.2.1
      · rw [b_big hw] at h
        exact absurd h Bool.false_ne_true
    · rw [if_neg c] at h
      exact fst_is n (by omega) w h
theorem neg_acc {t u : Nat} (ht : t ≤ 228894) (hu : u ≤ 228894) : ¬ nI t < -999999 + nI u := by
  intro h
  have e1 : (nI t).toInt = t := nI_toInt (by omega)
  have e2 : (nI u).toInt = u := nI_toInt (by omega)
  have e3 : (-999999 : Int32).toInt = -999999 := by decide
  rw [Int32.lt_iff_toInt_lt, Int32.toInt_add, e1, e2, e3, Int.bmod_eq_of_le (by omega) (by omega)] at h
  omega
theorem m1_le {t : Nat} (ht : t ≤ 228894) : (-1 : Int32) ≤ nI t := by
  have e1 : (nI t).toInt = t := nI_toInt (by omega)
  have e3 : (-1 : Int32).toInt = -1 := by decide
  rw [Int32.le_iff_toInt_le, e1, e3]
  omega
theorem saR_some {q : Option (MS × Int32) × MS} {Z : MS} {s : Int32} (h : q.1 = some (Z, s)) : (saR q).1 = s := by
  unfold saR
  rw [h]
theorem saR_none {q : Option (MS × Int32) × MS} (h : q.1 = none) : (saR q).1 = -1 := by
  unfold saR
  rw [h]
theorem plS_s {cand : Int32} (n : Nat) : plS x P W cand (n + 1) = if (saR (saS (plS x P W cand n).1 P W (memS cand (nI (n + 1)) 14).1 W)).1 ≤ (plS x P W cand n).2.2 then ((saR (saS (plS x P W cand n).1 P W (memS cand (nI (n + 1)) 14).1 W)).2, (plS x P W cand n).2.1, (plS x P W cand n).2.2) else ((saR (saS (plS x P W cand n).1 P W (memS cand (nI (n + 1)) 14).1 W)).2, (memS cand (nI (n + 1)) 14).1, (saR (saS (plS x P W cand n).1 P W (memS cand (nI (n + 1)) 14).1 W)).1) := rfl
theorem sy_plan {post : Int32 → MS → Prop} (Oc : Ok x Γ.1 B Γ.2.2.1 T) (O : rOk (tR x) Γ σ) (Y : Sy x) (S : Sh x Γ) (G : Gs x) (HS : SI x Γ.1 B Γ.2.2.1) (AZ : ∀ w, w < 14 → x (73 + w) 7 = 0 → x (73 + w) 8 = 0 ∧ x (73 + w) 9 = 0 ∧ x (73 + w) 11 = 0)
    (h1 : (∀ d, d ≤ 365 → a1 ≠ nI d) → ∀ τ, rOk (tR x) Γ τ → τ 0 0 = 1 → post 0 τ)
    (h3 : ∀ d, d ≤ 365 → a1 = nI d → ∀ τ, rOk (tR x) Γ τ → τ 0 0 = 0 → post (if a2 = 0 then (plF x Γ.1 Γ.2.2.1 a1).2.2 else (plF x Γ.1 Γ.2.2.1 a1).2.1) τ) : w_X11_plan Γ post σ a1 a2 := by
  have hW := O.hW
  have hP := O.hP
  unfold w_X11_plan
  have O0 := O.up (k := 0) (j := 0) (v := 0) (by unfold rPr; omega)
  refine sx_isr (lo := 0) (hi := 365) rfl rfl (by decide) (by decide) (fun no => ⟨fun _ => sx_refuse O0 (h1 (fun d hd => no d (by omega) hd)), fun c => absurd rfl c⟩) (fun d r _ hd e hr => ⟨fun c => absurd c hr, fun _ => ?_⟩)
  have h3 := h3 d hd e
  -- who is chosen, as a set
  have d155 : ∀ (c : Nat) (f : Nat → Nat) (m x6 : Int32) (τ : MS), fewF Γ.2.2.1 (fstF x a1 Γ.2.2.1) c f → rOk (tR x) Γ τ → τ 0 0 = 0 → (∀ i, i < c → τ 64 i = nI (f i)) → (∀ τ', rOk (tR x) Γ τ' → τ' 0 0 = 0 → post (if a2 = 0 then x6 else (memS (fstF x a1 Γ.2.2.1) m 14).1) τ') → ∃ k, u_X11_plan_155 Γ post a1 a2 k τ (nI c) m x6 0 0 := by
    intro c f m x6 τ F I0 z0 hf hp
    have mem := memS_few (m := m) hW F
    obtain ⟨c3, hm, hfW, _, _⟩ := F
    have := inv_loop (fun k (q : MS × Int32 × Int32) => u_X11_plan_155 Γ post a1 a2 k q.1 (nI c) m x6 q.2.1 q.2.2) (fun j q => (rOk (tR x) Γ q.1 ∧ q.1 0 0 = 0 ∧ (∀ i, i < c → q.1 64 i = nI (f i)) ∧ ∀ w, bt q.2.1 w = true ↔ ∃ i, i < j ∧ f i = w ∧ bt m i = true) ∧ q.2.2 = nI j) c (by
      rintro ⟨τ, u, v⟩ ⟨⟨I, z, hf, hb⟩, rfl⟩
      have I : rOk (tR x) Γ τ := I
      have z : τ 0 0 = 0 := z
      have hb : ∀ w, bt u w = true ↔ ∃ i, i < c ∧ f i = w ∧ bt m i = true := hb
      have eu : u = (memS (fstF x a1 Γ.2.2.1) m 14).1 := b_ext fun i hi => by rw [Bool.eq_iff_iff, hb, mem]
      have hp := hp τ I z
      show u_X11_plan_155 Γ post a1 a2 1 τ (nI c) m x6 u (nI c)
      unfold u_X11_plan_155
      refine ⟨fun _ => ⟨fun q => ?_, fun q => ?_⟩, fun q => absurd (le_self _) q⟩
      · rw [if_pos q] at hp; exact hp
      · rw [if_neg q, ← eu] at hp; exact hp) (by
      rintro j k ⟨τ, u, v⟩ hj ⟨⟨I, z, hf, hb⟩, rfl⟩ ih
      have I : rOk (tR x) Γ τ := I
      have z : τ 0 0 = 0 := z
      have hf : ∀ i, i < c → τ 64 i = nI (f i) := hf
      have hb : ∀ w, bt u w = true ↔ ∃ i, i < j ∧ f i = w ∧ bt m i = true := hb
      have nx : ∀ u', (∀ w, bt u' w = true ↔ ∃ i, i < j + 1 ∧ f i = w ∧ bt m i = true) → u_X11_plan_155 Γ post a1 a2 k τ (nI c) m x6 u' (nI j + 1) := fun u' h' => by rw [nI_1]; exact ih (τ, u', nI (j + 1)) ⟨⟨I, z, hf, h'⟩, rfl⟩
      have cj : (nI j).toNatClampNeg = j := nI_clamp (by omega)
      have hfj := hfW j hj
      show u_X11_plan_155 Γ post a1 a2 (k + 1) τ (nI c) m x6 u (nI j)
      unfold u_X11_plan_155
      refine ⟨fun q => absurd q (nI_ge hj (by omega)), fun _ => sx_isIn (by omega) ⟨fun q => ?_, fun q => ⟨vp_in_nI (by omega) (by decide), ?_⟩⟩⟩
      · rw [mrg_self, Int32.or_zero]
        refine nx _ (fun w => ?_)
        rw [hb w]
        have nb : ¬ bt m j = true := by rw [b01_0.mp q]; exact Bool.false_ne_true
        constructor
        · rintro ⟨i, hi, e, e2⟩; exact ⟨i, by omega, e, e2⟩
        · rintro ⟨i, hi, e, e2⟩
          by_cases g : i = j
          · subst g; exact absurd e2 nb
          · exact ⟨i, by omega, e, e2⟩
      · rw [mrg_self, cj, hf j hj]
        have e1 : ((1 : Int32) <<< (nI (f j) &&& 31)) = one (f j) := rfl
        rw [e1]
        refine nx _ (fun w => ?_)
        rcases Nat.lt_or_ge w 32 with hw | hw
        · rw [b_or, b_one (by omega) hw, Bool.or_eq_true, decide_eq_true_iff, hb w]
          constructor
          · rintro (⟨i, hi, e, e2⟩ | e)
            · exact ⟨i, by omega, e, e2⟩
            · exact ⟨j, by omega, e.symm, b01_1.mp q⟩
          · rintro ⟨i, hi, e, e2⟩
            by_cases g : i = j
            · subst g; exact Or.inr e.symm
            · exact Or.inl ⟨i, by omega, e, e2⟩
        · rw [b_big hw]
          refine ⟨fun g => absurd g Bool.false_ne_true, fun ⟨i, hi, e, _⟩ => ?_⟩
          have := hfW i (by omega)
          omega) 0 (by omega) (τ, 0, 0) ⟨⟨I0, z0, hf, fun w => by
        show bt 0 w = true ↔ _
        rw [b_0]
        exact ⟨fun z => absurd z Bool.false_ne_true, fun ⟨i, hi, _⟩ => absurd hi (by omega)⟩⟩, nI_0.symm⟩
    exact this
  -- the choices, one after the other
  have d105 : ∀ (c : Nat) (f : Nat → Nat) (τ : MS), fewF Γ.2.2.1 (fstF x a1 Γ.2.2.1) c f → rOk (tR x) Γ τ → τ 0 0 = 0 → (∀ i, i < c → τ 64 i = nI (f i)) → ∃ k, u_X11_plan_105 Γ post a1 a2 k τ (nI c) 0 0 1 := by
    intro c f τ F I0 z0 hf0
    have hp0 := h3
    unfold plF at hp0
    have F0 := F
    obtain ⟨c3, hm, hfW, hbc, hbt⟩ := F0
    rw [hbc, nI_clamp (by omega)] at hp0
    have hzero : ∀ i, i < c → x (73 + f i) 7 = 0 ∧ x (73 + f i) 8 = 0 ∧ x (73 + f i) 9 = 0 ∧ x (73 + f i) 11 = 0 := fun i hi => by
      have hi2 := hfW i hi
      have := fst_is (x := x) (day := a1) Γ.2.2.1 (by omega) (f i) ((hbt (f i)).mpr ⟨i, hi, rfl⟩)
      unfold isFst at this
      have h7 := (of_decide_eq_true this).1
      exact ⟨h7, AZ (f i) (by omega) h7⟩
    obtain ⟨p1, p2⟩ := pw1024 (P := c) (by omega)
    have em0 : (memS (fstF x a1 Γ.2.2.1) 0 14).1 = 0 := b_ext fun i hi => by
      rw [b_0]
      refine Bool.eq_false_iff.mpr (fun q => ?_)
      obtain ⟨k, _, _, q2⟩ := (memS_few hW F i).mp q
      rw [b_0] at q2
      exact absurd q2 Bool.false_ne_true
    have := inv_loop (fun k (q : MS × Int32 × Int32 × Int32) => u_X11_plan_105 Γ post a1 a2 k q.1 (nI c) q.2.1 q.2.2.1 q.2.2.2) (fun j q => (rOk (tR x) Γ q.1 ∧ q.1 0 0 = 0 ∧ (∀ i, i < c → q.1 64 i = nI (f i)) ∧ (memS (fstF x a1 Γ.2.2.1) q.2.1 14).1 = (plS x Γ.1 Γ.2.2.1 (fstF x a1 Γ.2.2.1) j).2.1 ∧ q.2.2.1 = (plS x Γ.1 Γ.2.2.1 (fstF x a1 Γ.2.2.1) j).2.2 ∧ ∃ t, t ≤ 228894 ∧ q.2.2.1 = nI t) ∧ q.2.2.2 = nI (j + 1)) (2 ^ c - 1) (by
      rintro ⟨τ, m, x6, v⟩ ⟨⟨I, z, hf, e1, e2, _⟩, rfl⟩
      have I : rOk (tR x) Γ τ := I
      have z : τ 0 0 = 0 := z
      have hf : ∀ i, i < c → τ 64 i = nI (f i) := hf
      have e1 : (memS (fstF x a1 Γ.2.2.1) m 14).1 = (plS x Γ.1 Γ.2.2.1 (fstF x a1 Γ.2.2.1) (2 ^ c - 1)).2.1 := e1
      have e2 : x6 = (plS x Γ.1 Γ.2.2.1 (fstF x a1 Γ.2.2.1) (2 ^ c - 1)).2.2 := e2
      rw [← e1, ← e2] at hp0
      show u_X11_plan_105 Γ post a1 a2 1 τ (nI c) m x6 (nI (2 ^ c - 1 + 1))
      unfold u_X11_plan_105
      rw [shl1 c (by omega), Nat.sub_add_cancel p1]
      exact ⟨fun _ => d155 c f m x6 τ F I z hf hp0, fun q => absurd (le_self _) q⟩) (by
      rintro j k ⟨τ, m, x6, v⟩ hj ⟨⟨I, z, hf, e1, e2, t, ht, e3⟩, rfl⟩ ih
      have I : rOk (tR x) Γ τ := I
      have z : τ 0 0 = 0 := z
      have hf : ∀ i, i < c → τ 64 i = nI (f i) := hf
      have e1 : (memS (fstF x a1 Γ.2.2.1) m 14).1 = (plS x Γ.1 Γ.2.2.1 (fstF x a1 Γ.2.2.1) j).2.1 := e1
      have e2 : x6 = (plS x Γ.1 Γ.2.2.1 (fstF x a1 Γ.2.2.1) j).2.2 := e2
      have e3 : x6 = nI t := e3
      have nx : ∀ τ' m' x', rOk (tR x) Γ τ' → τ' 0 0 = 0 → (memS (fstF x a1 Γ.2.2.1) m' 14).1 = (plS x Γ.1 Γ.2.2.1 (fstF x a1 Γ.2.2.1) (j + 1)).2.1 → x' = (plS x Γ.1 Γ.2.2.1 (fstF x a1 Γ.2.2.1) (j + 1)).2.2 → (∃ t, t ≤ 228894 ∧ x' = nI t) → u_X11_plan_105 Γ post a1 a2 k (mrg τ' τ) (nI c) m' x' (nI (j + 1) + 1) := fun τ' m' x' O' z' g1 g2 g3 => by
        rw [nI_1]
        refine ih (mrg τ' τ, m', x', nI (j + 1 + 1)) ⟨⟨O'.mrg, ?_, fun i hi => ?_, g1, g2, g3⟩, rfl⟩
        · show mrg τ' τ 0 0 = 0
          rw [mrg_lo (by decide)]; exact z'
        · show mrg τ' τ 64 i = _
          rw [mrg_hi (by decide)]; exact hf i hi
      have sync := tr_sync (x := x) (y := (plS x Γ.1 Γ.2.2.1 (fstF x a1 Γ.2.2.1) j).1) (m := nI (j + 1)) (ch := (memS (fstF x a1 Γ.2.2.1) (nI (j + 1)) 14).1) Oc Y HS (Scr.pl x Γ.1 Γ.2.2.1 _ j) c3 hm hfW (memS_few hW F)
      have es := plS_s (x := x) (P := Γ.1) (W := Γ.2.2.1) (cand := fstF x a1 Γ.2.2.1) j
      rw [es] at nx
      show u_X11_plan_105 Γ post a1 a2 (k + 1) τ (nI c) m x6 (nI (j + 1))
      unfold u_X11_plan_105
      rw [shl1 c (by omega)]
      refine ⟨fun q => absurd q (nI_ge (by omega) (by omega)), fun _ => sy_tried I Y S G c3 rfl (fun i hi => ⟨hfW i hi, hf i hi⟩) hzero z (fun τ' O' z' => ?_)⟩
      have nx := fun m' x' => nx τ' m' x' O' z'
      generalize plS x Γ.1 Γ.2.2.1 (fstF x a1 Γ.2.2.1) j = u at e1 e2 sync nx
      generalize saS u.1 Γ.1 Γ.2.2.1 (memS (fstF x a1 Γ.2.2.1) (nI (j + 1)) 14).1 Γ.2.2.1 = Q at sync nx
      rcases sync with ⟨Z, s, q1, q2, t', ht', q3⟩ | ⟨q1, t', ht', q2⟩
      · rw [saR_some q1] at nx
        rw [q2]
        refine ⟨fun c => ?_, fun c => ?_⟩
        · rw [if_neg (fun q => by rw [← e2] at q; exact Int32.not_lt.mpr q c)] at nx
          exact nx _ _ rfl rfl ⟨t', ht', q3⟩
        · rw [if_pos (by rw [← e2]; exact Int32.not_lt.mp c)] at nx
          exact nx _ _ e1 e2 ⟨t, ht, e3⟩
      · rw [saR_none q1, if_pos (by rw [← e2, e3]; exact m1_le ht)] at nx
        rw [q2]
        refine ⟨fun c => ?_, fun c => nx _ _ e1 e2 ⟨t, ht, e3⟩⟩
        rw [e3] at c
        exact absurd c (neg_acc ht ht')) 0 (by omega) (τ, 0, 0, 1) ⟨⟨I0, z0, hf0, em0, rfl, 0, by omega, nI_0.symm⟩, rfl⟩
    exact this
  have := inv_loop (fun k (q : MS × Int32 × Int32) => u_X11_plan_32 Γ post a1 a2 k q.1 q.2.1 q.2.2) (fun j q => (rOk (tR x) Γ q.1 ∧ q.1 0 0 = 0 ∧ ∃ c f, fewF j (fstF x a1 j) c f ∧ q.2.1 = nI c ∧ ∀ i, i < c → q.1 64 i = nI (f i)) ∧ q.2.2 = nI j) Γ.2.2.1 (by
    rintro ⟨τ, u, v⟩ ⟨⟨I, z, c, f, F, rfl, hf⟩, rfl⟩
    have I : rOk (tR x) Γ τ := I
    have z : τ 0 0 = 0 := z
    have hf : ∀ i, i < c → τ 64 i = nI (f i) := hf
    show u_X11_plan_32 Γ post a1 a2 1 τ (nI c) (nI Γ.2.2.1)
    unfold u_X11_plan_32 w_lw_Jx4a65c_size_8abf5
    rw [I.w]
    dsimp only
    rw [mrg_self]
    exact ⟨fun _ => d105 c f τ F I z hf, fun q => absurd (le_self _) q⟩) (by
    rintro j k ⟨τ, u, v⟩ hj ⟨⟨I, z, c, f, F, rfl, hf⟩, rfl⟩ ih
    have I : rOk (tR x) Γ τ := I
    have z : τ 0 0 = 0 := z
    have hf : ∀ i, i < c → τ 64 i = nI (f i) := hf
    have nx : ∀ τ' c' f', rOk (tR x) Γ τ' → τ' 0 0 = 0 → fewF (j + 1) (fstF x a1 (j + 1)) c' f' → (∀ i, i < c' → τ' 64 i = nI (f' i)) → u_X11_plan_32 Γ post a1 a2 k τ' (nI c') (nI j + 1) := fun τ' c' f' O' z' F' h' => by rw [nI_1]; exact ih (τ', nI c', nI (j + 1)) ⟨⟨O', z', c', f', F', rfl, h'⟩, rfl⟩
    have c3 := F.1
    have es : fstF x a1 (j + 1) = if x (73 + j) 1 = a1 ∧ isFst x j = true ∧ ¬ 3 ≤ bcI (fstF x a1 j) then fstF x a1 j ||| one j else fstF x a1 j := rfl
    rw [es] at nx
    have bc3 : 3 ≤ bcI (fstF x a1 j) ↔ c = 3 := by
      rw [F.2.2.2.1]
      constructor
      · intro q
        rcases Nat.lt_or_ge c 3 with g | g
        · exact absurd (show nI 3 ≤ nI c from q) (nI_ge g (by decide))
        · omega
      · intro q; rw [q]; exact le_self (nI 3)
    show u_X11_plan_32 Γ post a1 a2 (k + 1) τ (nI c) (nI j)
    unfold u_X11_plan_32 w_lw_Jx4a65c_size_8abf5
    rw [I.w]
    dsimp only
    rw [mrg_self]
    refine ⟨fun q => absurd q (nI_ge hj (by omega)), fun _ => ⟨fun q => ?_, fun q => sf_wget I hj rfl ⟨⟨by omega, hj⟩, ?_⟩⟩⟩
    · have hc3 : c = 3 := bc3.mp (by rw [F.2.2.2.1]; exact q)
      refine d105 c f τ ⟨c3, F.2.1, fun i hi => by have := F.2.2.1 i hi; omega, ?_⟩ I z hf
      rw [fst_more (bc3.mpr hc3) Γ.2.2.1 (by omega)]
      exact F.2.2.2
    · have nc3 : ¬ 3 ≤ bcI (fstF x a1 j) := by rw [F.2.2.2.1]; exact q
      have hc2 : c < 3 := by
        have : c ≠ 3 := fun g => nc3 (bc3.mpr g)
        omega
      rw [mrg_self, I.wd (j := 1) hj (by decide)]
      refine ⟨fun d1 => sy_place I hj rfl ⟨fun d2 => ⟨vp_in_nI (by omega) (by decide), ?_⟩, fun d2 => ?_⟩, fun d1 => ?_⟩
      · rw [mrg_self, nI_clamp (by omega), nI_1 c]
        rw [if_pos ⟨d1, (pq_0 (by omega)).mp d2, nc3⟩] at nx
        refine nx _ _ _ (I.up (by unfold rPr; omega)) (by rw [up2_off (by omega)]; exact z) (F.add (by omega) hc2) (fun i hi => ?_)
        by_cases g : i = c
        · subst g
          rw [if_pos rfl, up2_same]
        · rw [if_neg g, up2_off (by omega)]
          exact hf i (by omega)
      · rw [mrg_self]
        rw [if_neg (fun g => d2 ((pq_0 (by omega)).mpr g.2.1))] at nx
        exact nx _ _ _ I z F.suc hf
      · rw [if_neg (fun g => d1 g.1)] at nx
        exact nx _ _ _ I z F.suc hf) 0 (by omega) (rw0 (up2 σ 0 0 0) 64 (fun _ => 0), 0, 0) ⟨⟨O0.rw0 (by decide), by show rw0 (up2 σ 0 0 0) 64 (fun _ => 0) 0 0 = 0; rw [rw0_ne (by decide), up2_same], 0, fun _ => 0, fewF.zero, nI_0.symm, fun i hi => absurd hi (by omega)⟩, nI_0.symm⟩
  exact this
end PLANC
end
section
/-! SETS, THE DIGEST, ON BOTH SIDES -/
/-- the sum so far is v -/
def dgI (x : MS) (Γ : RG) (v : Int64) (τ : MS) : Prop := rOk (tR x) Γ τ ∧ m64 (τ 0 12) (τ 0 13) = v ∧ τ 0 0 = 0
section DIGB
variable {x y z : MS} {Γ : RG} {σ τ ρ : MS} {a a0 a1 a2 a3 a4 b c : Int32} {w P B W T : Nat} {v u : Int64}
theorem sy_set {post : Int32 → MS → Prop} (O : rOk (tR x) Γ σ) (F : enV x)
    (h1 : ¬ (0 ≤ a1 ∧ a1 < nI (2 ^ Γ.1)) → ∀ τ, rOk (tR x) Γ τ → τ 0 0 = 1 → post 0 τ)
    (h3 : 0 ≤ a1 → a1 < nI (2 ^ Γ.1) → ∀ τ, rOk (tR x) Γ τ → τ 0 0 = 0 → post (setR (setS x a1 Γ.1) a2) τ) : w_X11_set Γ post σ a1 a2 := by
  have hP := O.hP
  have O0 := O.up (k := 0) (j := 0) (v := 0) (by unfold rPr; omega)
  unfold w_X11_set u_X11_set_22 w_lp_Jx4a65c_size_8abf5
  rw [O0.p]
  dsimp only
  rw [shl1 Γ.1 hP]
  refine ⟨fun c => sx_refuse O0 (h1 (fun q => Int32.not_le.mpr c q.1)), fun c => ⟨fun d => ⟨fun e => sy_bestSet O0 F (fun len f τ R hlo O' hl e1 _ hf => ?_), fun e => sy_minutesOf O0 F (fun τ O' hlo => ?_)⟩, fun d => sx_refuse O0 (h1 (fun q => d q.2))⟩⟩
  · have := h3 (Int32.not_lt.mp c) d (rw0 (mrg τ (up2 σ 0 0 0)) 64 f) (O'.mrg.rw0 (by decide)) (by rw [rw0_ne (by decide), mrg_lo (by decide), hlo 0 (by decide), up2_same])
    unfold setR at this
    rw [if_pos e, e1] at this
    exact this
  · have := h3 (Int32.not_lt.mp c) d τ O' (by rw [hlo 0 (by decide), up2_same])
    unfold setR at this
    rw [if_neg e] at this
    exact this
theorem sy_add {post : MS → Prop} {a1 : Int64} (I : dgI x Γ v σ) (h : ∀ τ, dgI x Γ (v * 31 + a1) τ → post τ) : w_X11_add Γ post σ a1 := by
  refine h _ ⟨(I.1.up (by unfold rPr; omega)).up (by unfold rPr; omega), ?_, ?_⟩
  · rw [up2_off (k := 0) (j := 13) (k' := 0) (j' := 12) (by omega), up2_same, up2_same, m64_of, I.2.1]
  · rw [up2_off (by omega), up2_off (by omega)]
    exact I.2.2
theorem dgI.lo (I : dgI x Γ v σ) (O : rOk (tR x) Γ τ) (h : ∀ k, k < 64 → τ k = σ k) : dgI x Γ v τ := ⟨O, by rw [h 0 (by decide)]; exact I.2.1, by rw [h 0 (by decide)]; exact I.2.2⟩
theorem dg_loop (U : Nat → MS → Int32 → Prop) (f : Nat → Int64) (n N : Nat) (hN : n + 1 ≤ N) (hz : ∀ τ, dgI x Γ (f n) τ → U 1 τ (nI n)) (hs : ∀ j k τ, j < n → dgI x Γ (f j) τ → (∀ τ', dgI x Γ (f (j + 1)) τ' → U k τ' (nI j + 1)) → U (k + 1) τ (nI j)) (O : dgI x Γ (f 0) τ) : ∃ k, k ≤ N ∧ U k τ 0 := by
  have := inv_loop_b (fun k (q : MS × Int32) => U k q.1 q.2) (fun j q => dgI x Γ (f j) q.1 ∧ q.2 = nI j) n N hN (by rintro ⟨τ, v⟩ ⟨O, rfl⟩; exact hz τ O) (by
    rintro j k ⟨τ, v⟩ hj ⟨O, rfl⟩ ih
    exact hs j k τ hj O (fun τ' O' => by rw [nI_1]; exact ih (τ', nI (j + 1)) ⟨O', rfl⟩)) (τ, 0) ⟨O, nI_0.symm⟩
  exact this
theorem dg_loop' (U : Nat → MS → Int32 → Prop) (f : Nat → Int64) (n : Nat) (hz : ∀ τ, dgI x Γ (f n) τ → U 1 τ (nI n)) (hs : ∀ j k τ, j < n → dgI x Γ (f j) τ → (∀ τ', dgI x Γ (f (j + 1)) τ' → U k τ' (nI j + 1)) → U (k + 1) τ (nI j)) (O : dgI x Γ (f 0) τ) : ∃ k, U k τ 0 := by
  obtain ⟨k, _, h⟩ := dg_loop U f n (n + 1) (Nat.le_refl _) hz hs O
  exact ⟨k, h⟩
theorem pw_1 {P : Nat} : nI (2 ^ P) - 1 = nI (2 ^ P - 1) := by
  have h : nI (2 ^ P) = nI (2 ^ P - 1) + 1 := by rw [nI_1, Nat.sub_add_cancel Nat.one_le_two_pow]
  rw [h]
  grind
theorem sy_digest {post : Int64 → MS → Prop} (Oc : Ok x Γ.1 Γ.2.1 Γ.2.2.1 T) (O : rOk (tR x) Γ σ) (Y : Sy x) (F : enV x) (S : Sh x Γ) (G : Gs x) (PL : PlI x Γ.2.2.1) (FOx : FO x Γ.1) (hb : Γ.1 = 0 ∨ x 29 7 < 9999) (h4 : D4 x Γ.1 Γ.2.2.1) (h : ∀ τ, rOk (tR x) Γ τ → τ 0 0 = 0 → post (digF x Γ.1 Γ.2.1 Γ.2.2.1) τ) : w_X11_digest Γ post σ := by
  have hP := O.hP
  have hB := O.hB
  have hW := O.hW
  have sm : ∀ (f : Nat → Int32) (a : Int64) n, smL f a (n + 1) = smL f a n * 31 + (f n).toInt64 := fun _ _ _ => rfl
  unfold digF at h
  generalize ea : smL (deskF x Γ.1 Γ.2.2.1) 58278 13 = A at h
  generalize ep : dgP x Γ.2.2.1 A Γ.1 = Ap at h
  generalize es : dgS x Γ.1 Ap 16 = As at h
  generalize eb : dgB x Γ.2.2.1 As Γ.2.1 = Ab at h
  have d316 : ∀ τ (v : Int64) (t0 : Int64), dgI x Γ v τ → (∀ τ', rOk (tR x) Γ τ' → τ' 0 0 = 0 → post (v * 31 + t0) τ') → u_X11_digest_316 Γ post τ t0 := fun τ v t0 I hp => by
    unfold u_X11_digest_316
    exact sy_add I (fun τ' I' => by rw [I'.2.1]; exact hp τ' I'.1 I'.2.2)
  have d165 : ∀ τ, dgI x Γ Ab τ → ∃ k, k ≤ 15 ∧ u_X11_digest_165 Γ post k τ 0 := fun τ I => by
    refine dg_loop (fun k τ v => u_X11_digest_165 Γ post k τ v) (dgWs x Γ.1 Γ.2.2.1 Ab) Γ.2.2.1 15 (by omega) (fun τ I => ?_) (fun j k τ hj I ih => ?_) I
    · unfold dgE at h
      unfold u_X11_digest_165 w_lw_Jx4a65c_size_8abf5 w_lp_Jx4a65c_size_8abf5
      rw [I.1.w]
      dsimp only
      rw [I.1.p]
      rw [shl1 Γ.1 hP, pw_1]
      refine ⟨fun _ => sy_minutesOf I.1 F (fun τ2 O2 hlo => sy_add (I.lo O2 hlo) (fun τ3 I3 => sy_driveOf I3.1 ⟨0, by decide, nI_0.symm⟩ ⟨5, by decide, rfl⟩ (sy_add I3 (fun τ4 I4 => sy_isSoundNow Oc I4.1 S PL FOx hb h4 (fun τ5 O5 hlo5 => ?_))))), fun c => absurd (le_self _) c⟩
      have I5 := I4.lo O5 hlo5
      cases e : sndB x Γ.1 Γ.2.2.1 with
      | false =>
        rw [e] at h
        exact ⟨fun _ => d316 _ _ _ I5 (fun τ' O' z' => h τ' O' z'), fun c => absurd rfl c⟩
      | true =>
        rw [e] at h
        exact ⟨fun c => absurd c (by decide), fun _ => d316 _ _ _ I5 (fun τ' O' z' => h τ' O' z')⟩
    · have hn : dgWs x Γ.1 Γ.2.2.1 Ab (j + 1) = dgW x Γ.1 Γ.2.2.1 j (dgWs x Γ.1 Γ.2.2.1 Ab j) := rfl
      rw [hn] at ih
      unfold dgW at ih
      dsimp only at ih
      generalize dgWs x Γ.1 Γ.2.2.1 Ab j = V at I ih
      unfold u_X11_digest_165 w_lw_Jx4a65c_size_8abf5
      rw [I.1.w]
      refine ⟨fun c => absurd c (nI_ge hj (by omega)), fun _ => ?_⟩
      have d242 : ∀ τ, dgI x Γ (if x (73 + j) 7 = 0 then ((((smL (ofWF x j) V 13 * 31 + (snF x j Γ.1 Γ.2.2.1 9 0).toInt64) * 31 + (snF x j Γ.1 Γ.2.2.1 9 1).toInt64) * 31 + (snF x j Γ.1 Γ.2.2.1 9 3).toInt64) * 31 + (snF x j Γ.1 Γ.2.2.1 9 5).toInt64) else smL (ofWF x j) V 13) τ → u_X11_digest_242 Γ post (fun σ w0 => u_X11_digest_165 Γ post k σ w0) τ (nI j) := fun τ I => by
        unfold u_X11_digest_242
        refine sf_wget I.1 hj rfl ⟨⟨by omega, hj⟩, ?_⟩
        rw [I.1.wd (j := 8) hj (by decide)]
        refine sy_bestSet I.1 F (fun len f τ2 R hlo O2 hl e1 _ hf => ?_)
        have I2 : dgI x Γ _ (rw0 (mrg τ2 τ) 64 f) := I.lo (O2.mrg.rw0 (by decide)) (fun k hk => by rw [rw0_ne (by omega), mrg_lo hk, hlo k hk])
        refine sy_add I2 (fun τ3 I3 => ih _ ?_)
        have el : setR (setS x (x (73 + j) 8) Γ.1) 0 = nI len := by
          unfold setR
          rw [if_pos rfl, e1]
        rw [el]
        exact I3.lo I3.1.mrg (fun k hk => mrg_lo hk)
      refine dg_loop' (fun m τ v => u_X11_digest_178 Γ post (fun σ w0 => u_X11_digest_165 Γ post k σ w0) m τ (nI j) v) (smL (ofWF x j) V) 13 (fun τ I => ?_) (fun i m τ hi I ih2 => ?_) I
      · unfold u_X11_digest_178
        refine ⟨fun _ => ?_, fun c => absurd (le_self (nI 13)) c⟩
        by_cases c7 : x (73 + j) 7 = 0
        · rw [if_pos c7] at d242
          refine dg_loop' (fun m τ v => u_X11_digest_203 Γ post (fun σ w0 => u_X11_digest_165 Γ post k σ w0) m τ (nI j) v) (smL (fillF (snF x j Γ.1 Γ.2.2.1)) (smL (ofWF x j) V 13)) 4 (fun τ I => ?_) (fun i m τ hi I ih3 => ?_) I
          · unfold u_X11_digest_203
            exact ⟨fun _ => d242 _ I, fun c => absurd (le_self (nI 4)) c⟩
          · unfold u_X11_digest_203
            refine ⟨fun c => absurd (show nI 4 ≤ nI i from c) (nI_ge hi (by decide)), fun _ => sf_wget I.1 hj rfl ⟨⟨by omega, hj⟩, ?_⟩⟩
            rw [I.1.wd (j := 7) hj (by decide)]
            exact ⟨fun _ => sy_fillingNow I.1 Y S G hj rfl (show i ≤ 3 by omega) rfl (sy_add I ih3), fun c => absurd c7 c⟩
        · rw [if_neg c7] at d242
          refine ⟨1, ?_⟩
          unfold u_X11_digest_203
          refine ⟨fun c => absurd (show nI 4 ≤ nI 0 from c) (nI_ge (by decide) (by decide)), fun _ => sf_wget I.1 hj rfl ⟨⟨by omega, hj⟩, ?_⟩⟩
          rw [I.1.wd (j := 7) hj (by decide)]
          exact ⟨fun c => absurd c c7, fun _ => d242 _ I⟩
      · unfold u_X11_digest_178
        exact ⟨fun c => absurd (show nI 13 ≤ nI i from c) (nI_ge hi (by decide)), fun _ => sy_ofWeddingNow I.1 hj rfl (show i ≤ 12 by omega) rfl (sy_add I ih2)⟩
  have d121 : ∀ τ, dgI x Γ As τ → ∃ k, u_X11_digest_121 Γ post k τ 0 := fun τ I => by
    refine dg_loop' (fun k τ v => u_X11_digest_121 Γ post k τ v) (dgB x Γ.2.2.1 As) Γ.2.1 (fun τ I => ?_) (fun j k τ hj I ih => ?_) I
    · rw [eb] at I
      unfold u_X11_digest_121 w_lb_Jx4a65c_size_8abf5
      rw [I.1.b]
      exact ⟨fun _ => d165 _ I, fun c => absurd (le_self _) c⟩
    · have hn : dgB x Γ.2.2.1 As (j + 1) = smL (ofBF x Γ.2.2.1 j) (dgB x Γ.2.2.1 As j) 9 := rfl
      rw [hn] at ih
      unfold u_X11_digest_121 w_lb_Jx4a65c_size_8abf5
      rw [I.1.b]
      refine ⟨fun c => absurd c (nI_ge hj (by omega)), fun _ => ?_⟩
      refine dg_loop' (fun m τ v => u_X11_digest_134 Γ post (fun σ w0 => u_X11_digest_121 Γ post k σ w0) m τ (nI j) v) (smL (ofBF x Γ.2.2.1 j) (dgB x Γ.2.2.1 As j)) 9 (fun τ I => ?_) (fun i m τ hi I ih2 => ?_) I
      · unfold u_X11_digest_134
        exact ⟨fun _ => ih _ I, fun c => absurd (le_self (nI 9)) c⟩
      · unfold u_X11_digest_134
        exact ⟨fun c => absurd (show nI 9 ≤ nI i from c) (nI_ge hi (by decide)), fun _ => sy_ofBandNow I.1 S hj rfl (show i ≤ 8 by omega) rfl (sy_add I ih2)⟩
  have d82 : ∀ τ, dgI x Γ Ap τ → ∃ k, u_X11_digest_82 Γ post k τ 0 := fun τ I => by
    refine dg_loop' (fun k τ v => u_X11_digest_82 Γ post k τ v) (dgS x Γ.1 Ap) 16 (fun τ I => ?_) (fun j k τ hj I ih => ?_) I
    · rw [es] at I
      unfold u_X11_digest_82
      exact ⟨fun _ => d121 _ I, fun c => absurd (le_self (nI 16)) c⟩
    · have hn : dgS x Γ.1 Ap (j + 1) = smL (ofSF x Γ.1 j) (dgS x Γ.1 Ap j) 6 := rfl
      rw [hn] at ih
      unfold u_X11_digest_82
      refine ⟨fun c => absurd (show nI 16 ≤ nI j from c) (nI_ge hj (by decide)), fun _ => ?_⟩
      refine dg_loop' (fun m τ v => u_X11_digest_90 Γ post (fun σ w0 => u_X11_digest_82 Γ post k σ w0) m τ (nI j) v) (smL (ofSF x Γ.1 j) (dgS x Γ.1 Ap j)) 6 (fun τ I => ?_) (fun i m τ hi I ih2 => ?_) I
      · unfold u_X11_digest_90
        exact ⟨fun _ => ih _ I, fun c => absurd (le_self (nI 6)) c⟩
      · unfold u_X11_digest_90
        exact ⟨fun c => absurd (show nI 6 ≤ nI i from c) (nI_ge hi (by decide)), fun _ => sy_ofSongNow I.1 hj rfl (show i ≤ 5 by omega) rfl (sy_add I ih2)⟩
  have d38 : ∀ τ, dgI x Γ A τ → ∃ k, k ≤ 11 ∧ u_X11_digest_38 Γ post k τ 0 := fun τ I => by
    refine dg_loop (fun k τ v => u_X11_digest_38 Γ post k τ v) (dgP x Γ.2.2.1 A) Γ.1 11 (by omega) (fun τ I => ?_) (fun j k τ hj I ih => ?_) I
    · rw [ep] at I
      unfold u_X11_digest_38 w_lp_Jx4a65c_size_8abf5
      rw [I.1.p]
      exact ⟨fun _ => d82 _ I, fun c => absurd (le_self _) c⟩
    · have hn : dgP x Γ.2.2.1 A (j + 1) = smL (ofPF x Γ.2.2.1 j) (dgP x Γ.2.2.1 A j) 9 := rfl
      rw [hn] at ih
      unfold u_X11_digest_38 w_lp_Jx4a65c_size_8abf5
      rw [I.1.p]
      refine ⟨fun c => absurd c (nI_ge hj (by omega)), fun _ => ?_⟩
      refine dg_loop (fun m τ v => u_X11_digest_51 Γ post (fun σ w0 => u_X11_digest_38 Γ post k σ w0) m τ (nI j) v) (smL (ofPF x Γ.2.2.1 j) (dgP x Γ.2.2.1 A j)) 9 10 (by omega) (fun τ I => ?_) (fun i m τ hi I ih2 => ?_) I
      · unfold u_X11_digest_51
        exact ⟨fun _ => ih _ I, fun c => absurd (le_self (nI 9)) c⟩
      · unfold u_X11_digest_51
        exact ⟨fun c => absurd (show nI 9 ≤ nI i from c) (nI_ge hi (by decide)), fun _ => sy_ofPlayerNow I.1 PL hj rfl (show i ≤ 8 by omega) rfl (fun τ' O' hlo => sy_add (I.lo O' hlo) ih2)⟩
  unfold w_X11_digest
  refine dg_loop (fun k τ v => u_X11_digest_14 Γ post k τ v) (smL (deskF x Γ.1 Γ.2.2.1) 58278) 13 14 (by omega) (fun τ I => ?_) (fun j k τ hj I ih => ?_) ⟨((O.up (by unfold rPr; omega)).up (by unfold rPr; omega)).up (by unfold rPr; omega), ?_, ?_⟩
  · rw [ea] at I
    unfold u_X11_digest_14
    exact ⟨fun _ => d38 _ I, fun c => absurd (le_self (nI 13)) c⟩
  · unfold u_X11_digest_14
    exact ⟨fun c => absurd (show nI 13 ≤ nI j from c) (nI_ge hj (by decide)), fun _ => sy_deskNow Oc I.1 PL FOx hb (show j ≤ 12 by omega) rfl (fun τ' O' hlo => sy_add (I.lo O' hlo) ih)⟩
  · rw [up2_off (k := 0) (j := 13) (k' := 0) (j' := 12) (by omega), up2_same, up2_same, m64_of]
    rfl
  · rw [up2_off (by omega), up2_off (by omega), up2_same]
end DIGB
end
section
/-! WHAT STAYS OF BANDS AND OF DAYS ON WHICH WEDDINGS WERE ASKED FOR; THE REST OF WHAT ALWAYS HOLDS, AS DAYS GO BY -/
def sbC (k j : Nat) : Prop := (55 ≤ k ∧ k < 73) ∨ (73 ≤ k ∧ k < 87 ∧ j = 6)
def Sb (σ τ : MS) : Prop := ∀ k j, sbC k j → τ k j = σ k j
theorem Sb.rf (σ : MS) : Sb σ σ := fun _ _ _ => rfl
theorem Sb.tr {a b c : MS} (h : Sb a b) (g : Sb b c) : Sb a c := fun k j hk => (g k j hk).trans (h k j hk)
theorem Sb.up {σ : MS} {k j : Nat} {v : Int32} (h : ¬ sbC k j) : Sb σ (up2 σ k j v) := fun k' j' hk => up2_at (by
  by_cases e : k' = k
  · by_cases e2 : j' = j
    · subst e; subst e2; exact absurd hk h
    · exact Or.inr e2
  · exact Or.inl e)
theorem Sb.scr {σ τ : MS} (h : Scr σ τ) : Sb σ τ := fun k j hk => by rw [h k (by unfold sbC at hk; omega)]
theorem Sb.paid (σ : MS) (w : Nat) (a : Int32) : Sb σ (paidF σ w a) := (Sb.up (by unfold sbC; omega)).tr (Sb.up (by unfold sbC; omega))
theorem Sb.lose (σ : MS) (a n : Nat) : Sb σ (loseQ σ a n) := fun k j hk => if_neg (by unfold sbC at hk; omega)
theorem Sb.wait (σ : MS) (n : Nat) : Sb σ (waitL σ n) := fun k j hk => if_neg (by unfold sbC at hk; omega)
theorem Sb.fix (σ : MS) (w P W : Nat) : Sb σ (fixS σ w P W) := by
  unfold fixS
  (try dsimp only)
  exact (((((Sb.scr (Scr.sn σ w P W)).tr (Sb.lose _ w W)).tr (Sb.up (by unfold sbC; omega))).tr (Sb.up (by unfold sbC; omega))).tr (Sb.up (by unfold sbC; omega))).tr (Sb.paid _ _ _)
theorem Sb.can (σ : MS) (w : Nat) : Sb σ (canS σ w) := by
  unfold canS
  split
  · exact (Sb.paid _ _ _).tr (Sb.up (by unfold sbC; omega))
  · exact Sb.up (by unfold sbC; omega)
theorem Sb.put (σ : MS) (w : Nat) (s : Int32) : Sb σ (putF σ w s) := by
  unfold putF
  split
  · exact (Sb.up (by unfold sbC; omega)).tr (Sb.paid _ _ _)
  · exact Sb.up (by unfold sbC; omega)
theorem Sb.ill (σ : MS) (p : Nat) (day : Int32) : ∀ n, Sb σ (illS σ p day n)
  | 0 => Sb.rf σ
  | n + 1 => by
    have ih := Sb.ill σ p day n
    unfold illS
    split
    · exact ih.tr (Sb.put _ _ _)
    · exact ih
theorem Sb.off (σ : MS) (P W p d : Nat) : Sb σ (offS σ P W p d) := (Sb.scr (Scr.sw σ P W p (nI d) W)).tr (Sb.up (by unfold sbC; omega))
section KEEPB
variable {x y z σ τ : MS} {Γ : RG} {w P B W T : Nat}
theorem Sb.lay (x : MS) {i j : Nat} {h : Int32} (hi : i < 6) (hj : j < 6) : Sb x (layS x i j h) := fun k j' hk => congrFun (lay_k hi hj (by unfold sbC at hk; omega)) j'
theorem Sb.pq (h : Pq x y) : Sb x y := fun k j hk => h k j (by unfold sbC at hk; unfold pkc; omega)
theorem pq_psS (hP : P ≤ 10) (hW : W ≤ 14) : ∀ n, Pq x (psS x P W n)
  | 0 => Pq.rf
  | n + 1 => (pq_psS hP hW n).tr (pq_day hP hW)
theorem Sh.sb (h : Sb x y) (hB : Γ.2.1 ≤ 6) (S : Sh x Γ) : Sh y Γ := fun b hb => by
  obtain ⟨m, sz, h1, h2, h3, h4, h5, h6, h7, h8⟩ := S b hb
  refine ⟨m, sz, h1, h2, h3, h4, h5, by rw [h (55 + b) 2 (by unfold sbC; omega)]; exact h6, ?_, fun k hk => by rw [h (61 + b) k (by unfold sbC; omega)]; exact h8 k hk⟩
  rw [← h7]
  unfold plcs
  rw [show pl y b = pl x b from funext fun j => by unfold pl; rw [h (67 + b) j (by unfold sbC; omega)]]
theorem Td.sb (h : Sb x y) (D : Td x) : Td y := fun w hw => by
  rw [h (73 + w) 6 (by unfold sbC; omega)]
  exact D w hw
/-- what a wedding played leaves as the pay has it -/
theorem out_at {k j : Nat} (h1 : ¬ (7 ≤ k ∧ k < 15)) (h2 : ¬ (39 ≤ k ∧ k < 55 ∧ j = 3)) (h3 : ¬ (k = 73 + w ∧ j = 7)) : outS x w P k j = pyS (paidF x w ((x (73 + w) 9 - x (73 + w) 11) + extraF x w P)) w P k j := by
  obtain ⟨l, hl, e1, e2⟩ := cho_row (outX x w P) (playF (outX x w P) (outX x w P (73 + w) 8) P)
  have e1 : outY x w P 10 1 = nI l := e1
  have e2 : ∀ k, k < l → vp_in (outY x w P 11 k) 16 := e2
  have hsc : Scr (outX x w P) (outY x w P) := Scr.set _ _ _
  unfold outS
  rw [e1, nI_clamp (by omega), up2_off h3, (ply_facts e2 l (Nat.le_refl l)).1 k j h2, hsc k (by omega)]
  rfl
theorem EI.out (hP : P ≤ 10) (hW : W ≤ 14) (hw : w < W) (h7 : x (73 + w) 7 = 1) (hh : ∀ p, p < 10 → ∃ t, t < 6 ∧ x (29 + p) 2 = nI t) (pk : ∀ p, P ≤ p → bt (x (73 + w) 8) p = false) (H : EI x P B W) : EI (outS x w P) P B W := by
  obtain ⟨⟨s1, s2⟩, g, pd, pl, fp, ft, fo, fb⟩ := H
  have pq := Pq.out (x := x) (w := w) hP (by omega : w < 14)
  have o7 : outS x w P (73 + w) 7 = 2 := by
    unfold outS
    exact up2_same
  have hx : ∀ p, p < 10 → ∃ t, t < 6 ∧ paidF x w ((x (73 + w) 9 - x (73 + w) 11) + extraF x w P) (29 + p) 2 = nI t := fun p hp => by
    unfold paidF
    rw [up2_off (by omega), up2_off (by omega)]
    exact hh p hp
  obtain ⟨a1, -, a3⟩ := py_ex (x := paidF x w ((x (73 + w) 9 - x (73 + w) 11) + extraF x w P)) (w := w) hx P hP
  have ne : ∀ k j, ¬ (k = 0 ∧ j = 10) → ¬ (k = 73 + w ∧ j = 11) → paidF x w ((x (73 + w) 9 - x (73 + w) 11) + extraF x w P) k j = x k j := fun k j g1 g2 => by
    unfold paidF
    rw [up2_off g1, up2_off g2]
  -- weddings but w, and what isn't state or paid
  have v7 : ∀ v, v < 14 → v ≠ w → outS x w P (73 + v) 7 = x (73 + v) 7 := fun v hv hne => by
    rw [out_at (by omega) (by omega) (by omega), a1 _ _ (by omega) (by omega), ne _ _ (by omega) (by omega)]
  have v11 : ∀ v, v < 14 → v ≠ w → outS x w P (73 + v) 11 = x (73 + v) 11 := fun v hv hne => by
    rw [out_at (by omega) (by omega) (by omega), a1 _ _ (by omega) (by omega), ne _ _ (by omega) (by omega)]
  have pj : ∀ p j, P ≤ p → p < 10 → outS x w P (29 + p) j = x (29 + p) j := fun p j g1 g2 => by
    rw [out_at (by omega) (by omega) (by omega), a1 _ _ (by omega) (by omega), ne _ _ (by omega) (by omega)]
  have p67 : ∀ p, p < P → outS x w P (29 + p) 6 = x (29 + p) 6 + (if bt (x (73 + w) 8) p = true then 1 else 0) ∧ outS x w P (29 + p) 7 = x (29 + p) 7 + (if bt (x (73 + w) 8) p = true then x (73 + w) 4 else 0) := fun p hp => by
    obtain ⟨-, q6, q7⟩ := a3 p hp
    rw [out_at (by omega) (by omega) (by omega), out_at (by omega) (by omega) (by omega), q6, q7, ne (73 + w) 8 (by omega) (by omega), ne (73 + w) 4 (by omega) (by omega), ne (29 + p) 6 (by omega) (by omega), ne (29 + p) 7 (by omega) (by omega)]
    exact ⟨rfl, rfl⟩
  have o8 : ∀ v, outS x w P (73 + v) 8 = x (73 + v) 8 := fun v => pq _ _ (by unfold pkc; omega)
  have o4 : ∀ v, outS x w P (73 + v) 4 = x (73 + v) 4 := fun v => pq _ _ (by unfold pkc; omega)
  have k0 : ∀ p, plw x p w = false := fun p => by
    unfold plw
    rw [h7]
    rfl
  have k1 : ∀ p, plw (outS x w P) p w = bt (x (73 + w) 8) p := fun p => by
    unfold plw
    rw [o7, o8, decide_eq_true rfl, Bool.true_and]
  have kv : ∀ p v, v < 14 → v ≠ w → plw (outS x w P) p v = plw x p v := fun p v hv hne => by
    unfold plw
    rw [v7 v hv hne, o8]
  have cnt : ∀ p, fb_ct (plw (outS x w P) p) W = fb_ct (plw x p) W + (if bt (x (73 + w) 8) p = true then 1 else 0) := fun p => by
    have h := fb_ct_upd (plw x p) (bt (x (73 + w) 8) p) (i := w) (n := W) hw
    have e2 : fb_ct (plw (outS x w P) p) W = fb_ct (fun v => if v = w then bt (x (73 + w) 8) p else plw x p v) W := by
      refine fb_ct_cong (fun v hv => ?_)
      by_cases e : v = w
      · subst e
        rw [if_pos rfl]
        exact k1 p
      · rw [if_neg e]
        exact kv p v (by omega) e
    rw [e2]
    rw [k0 p] at h
    cases q : bt (x (73 + w) 8) p with
    | true => rw [q] at h; simpa using h
    | false => rw [q] at h; simpa using h
  have hrs : ∀ p, sumI (fun v => if plw (outS x w P) p v = true then outS x w P (73 + v) 4 else 0) W = sumI (fun v => if plw x p v = true then x (73 + v) 4 else 0) W + (if bt (x (73 + w) 8) p = true then x (73 + w) 4 else 0) := fun p => by
    have h := sumI_set (f := fun v => if plw x p v = true then x (73 + v) 4 else 0) (g := fun v => if plw (outS x w P) p v = true then outS x w P (73 + v) 4 else 0) (i := w) (n := W) (fun v hv hne => by
      show (if plw (outS x w P) p v = true then outS x w P (73 + v) 4 else 0) = (if plw x p v = true then x (73 + v) 4 else 0)
      rw [kv p v (by omega) hne, o4]) hw
    rw [h]
    show _ + ((if plw (outS x w P) p w = true then outS x w P (73 + w) 4 else 0) - (if plw x p w = true then x (73 + w) 4 else 0)) = _
    rw [k1, k0, o4, if_neg Bool.false_ne_true, Int32.sub_zero]
  refine ⟨⟨fun a b ha hb => ?_, fun a b ha hb => ?_⟩, fun v hv i hi => ?_, fun v hv => ?_, fun p hp => ?_, fun p g1 g2 => ?_, fun v g1 g2 => ?_, fun d hd p hp => ?_, fun b g1 g2 => ?_⟩
  · rw [pq (17 + a) b (by unfold pkc; omega), pq (17 + b) a (by unfold pkc; omega)]; exact s1 a b ha hb
  · rw [pq (23 + a) b (by unfold pkc; omega), pq (23 + b) a (by unfold pkc; omega)]; exact s2 a b ha hb
  · rw [pq (73 + v) 5 (by unfold pkc; omega)]; exact g v hv i hi
  · unfold PdA
    by_cases e : v = w
    · subst e
      rw [o7]
      exact ⟨fun z => absurd z (by decide), fun z => absurd z (by decide)⟩
    · rw [v7 v hv e, v11 v hv e, pq (73 + v) 9 (by unfold pkc; omega)]
      exact pd v hv
  · obtain ⟨l6, l7⟩ := pl p hp
    rw [cnt p, hrs p]
    by_cases c : p < P
    · obtain ⟨q6, q7⟩ := p67 p c
      rw [q6, q7, l6, l7]
      refine ⟨?_, rfl⟩
      cases q : bt (x (73 + w) 8) p with
      | true => rw [if_pos rfl, if_pos rfl, nI_1]
      | false => rw [if_neg Bool.false_ne_true, if_neg Bool.false_ne_true, Int32.add_zero]; rfl
    · rw [pj p 6 (by omega) hp, pj p 7 (by omega) hp, pk p (by omega), if_neg Bool.false_ne_true, if_neg Bool.false_ne_true, Int32.add_zero, Nat.add_zero]
      exact ⟨l6, l7⟩
  · rw [pj p 4 g1 g2, pj p 5 g1 g2, pj p 6 g1 g2, pj p 7 g1 g2]
    exact fp p g1 g2
  · rw [pq (73 + v) 10 (by unfold pkc; omega)]; exact ft v g1 g2
  · rw [pq 6 d (by unfold pkc; omega)]; exact fo d hd p hp
  · rw [pq (55 + b) 2 (by unfold pkc; omega)]; exact fb b g1 g2
theorem pk_bits {s : Nat} {v : Int32} (hs : s < 2 ^ P) (e : v = nI s) : ∀ p, P ≤ p → bt v p = false := fun p hp => by
  rw [e, bt_nI, Nat.testBit_lt_two_pow (Nat.lt_of_lt_of_le hs (Nat.pow_le_pow_right (by decide) hp)), Bool.and_false]
theorem Pk.bits (K : Pk x P) (hw : w < 14) : ∀ p, P ≤ p → bt (x (73 + w) 8) p = false := by
  obtain ⟨s, hs, e⟩ := nI_of (Int32.not_lt.mpr (K w hw).1)
  refine pk_bits (s := s) ?_ e
  rcases Nat.lt_or_ge s (2 ^ P) with d | d
  · exact d
  · exact absurd (nI_le0 d hs) (Int32.not_le.mpr (by rw [← e]; exact (K w hw).2))
theorem EI.dayA {T : Nat} (I : In0 x P B W T T (T + 1)) (H : EI x P B W) : ∀ n, n ≤ W → EI (edA x P n) P B W
  | 0, _ => H
  | n + 1, hn => by
    have ih := EI.dayA I H n (by omega)
    have I1 := (ed_A I n (by omega)).1
    have hP := I1.1.hP
    have hW := I1.1.hW
    unfold edA
    split
    · rename_i c
      exact ih.out hP hW (by omega) c.2 (fun p hp => I1.1.hom hp) (I1.2.1.bits (by omega))
    · exact ih
theorem EI.day {T : Nat} (I : Inv x P B W T) (H : EI x P B W) : EI (dayS x P W) P B W := by
  have H1 : In0 x P B W T T (T + 1) := ⟨I.2.2.1, I.2.2.2.1, I.2.2.2.2.1, I.2.2.2.2.2.1, fun w hw => (I.2.2.2.2.2.2.1 w hw).tp (by omega), I.2.2.2.2.2.2.2⟩
  have hW := I.2.2.1.hW
  have hA := EI.dayA H1 H W (Nat.le_refl W)
  have oA := (ed_A H1 W (Nat.le_refl W)).1.1
  unfold dayS endS
  generalize edA x P W = y at hA oA
  have hB := hA.lo hW (ed_B oA W (Nat.le_refl W)).1
  generalize edB y W = z at hB
  exact (hB.up hW (k := 0) (j := 9) (v := z 0 9 + 1) (by unfold eic; omega)).lo hW (waitL_lo (σ := up2 z 0 9 (z 0 9 + 1)) (W := W))
theorem EI.pass {T : Nat} (I : Inv x P B W T) (H : EI x P B W) : ∀ n, T + n ≤ 365 → EI (psS x P W n) P B W
  | 0, _ => H
  | n + 1, hn => (EI.pass I H n (by omega)).day (inv_pass I n (by omega)).1
end KEEPB
end
section
/-! WHAT IS TOLD, ON BOTH SIDES -/
section TELLB
variable {x y z : MS} {Tm : MS} {Γ : RG} {σ τ ρ : MS} {lay : Nat → Nat} {a a0 a1 a2 a3 a4 a5 a6 b c : Int32} {w P B W T : Nat}
theorem up2_cg {x y : MS} {a b k j : Nat} {v : Int32} (h : x k j = y k j) : up2 x a b v k j = up2 y a b v k j := by
  by_cases z : k = a ∧ j = b
  · obtain ⟨rfl, rfl⟩ := z; rw [up2_same, up2_same]
  · rw [up2_off z, up2_off z]; exact h
theorem tU_pl {p j k i : Nat} {v : Int32} (hP : Γ.1 ≤ 10) (hW : Γ.2.2.1 ≤ 14) (hp : p < Γ.1) (hk : rTd Γ k i) : tR (up2 x (29 + p) j v) k i = up2 (tR x) (13 + p) j v k i := by
  rcases tR_leaf hk hP hW with ⟨_, _, l⟩ | ⟨_, _, l⟩ | ⟨g1, g2, g3, l⟩ | ⟨g1, g2, g3, l⟩ | ⟨g1, g2, g3, l⟩ | ⟨g1, g2, g3, l⟩ | ⟨g1, g2, g3, l⟩
  · rw [l, up2_off (by omega), up2_off (by omega), l]
  · rw [l, up2_off (by omega), up2_off (by omega), l]
  · rw [l, up2_off (by omega), up2_off (by omega), l]
  · rw [l, up2_off (by omega), up2_off (by omega), l]
  · rw [l]
    by_cases z : k = 13 + p ∧ i = j
    · obtain ⟨rfl, rfl⟩ := z
      rw [show 13 + p - 13 = p by omega, up2_same, up2_same]
    · rw [up2_off (by omega), up2_off z, l]
  · rw [l, up2_off (by omega), up2_off (by omega), l]
  · rw [l, up2_off (by omega), up2_off (by omega), l]
theorem tU_sg {s j k i : Nat} {v : Int32} (hP : Γ.1 ≤ 10) (hW : Γ.2.2.1 ≤ 14) (hs : s < 16) (hj : j < 4) (hk : rTd Γ k i) : tR (up2 x (39 + s) j v) k i = up2 (tR x) (7 + j) s v k i := by
  rcases tR_leaf hk hP hW with ⟨_, _, l⟩ | ⟨_, _, l⟩ | ⟨g1, g2, g3, l⟩ | ⟨g1, g2, g3, l⟩ | ⟨g1, g2, g3, l⟩ | ⟨g1, g2, g3, l⟩ | ⟨g1, g2, g3, l⟩
  · rw [l, up2_off (by omega), up2_off (by omega), l]
  · rw [l, up2_off (by omega), up2_off (by omega), l]
  · rw [l]
    by_cases z : k = 7 + j ∧ i = s
    · obtain ⟨rfl, rfl⟩ := z
      rw [show 7 + j - 7 = j by omega, up2_same, up2_same]
    · rw [up2_off (by omega), up2_off z, l]
  · rw [l, up2_off (by omega), up2_off (by omega), l]
  · rw [l, up2_off (by omega), up2_off (by omega), l]
  · rw [l, up2_off (by omega), up2_off (by omega), l]
  · rw [l, up2_off (by omega), up2_off (by omega), l]
theorem sy_learn {post : Int32 → MS → Prop} (O : rOk (tR x) Γ σ)
    (h1 : (∀ p, p < Γ.1 → a1 ≠ nI p) → ∀ τ, rOk (tR x) Γ τ → τ 0 0 = 1 → post 0 τ)
    (h2 : ∀ p, p < Γ.1 → a1 = nI p → ¬ (0 ≤ a2 ∧ a2 < 65536) → ∀ τ, rOk (tR x) Γ τ → τ 0 0 = 2 → post 0 τ)
    (h3 : ∀ p, p < Γ.1 → a1 = nI p → 0 ≤ a2 ∧ a2 < 65536 → ∀ τ, rOk (tR (up2 x (29 + p) 1 (x (29 + p) 1 ||| a2))) Γ τ → τ 0 0 = 0 → post (bcI (x (29 + p) 1 ||| a2)) τ) : w_X11_learn Γ post σ a1 a2 := by
  have hP := O.hP
  refine sf_learn O h1 h2 (fun p hp e ok τ O' z => ?_)
  rw [tR_pl (by omega)] at O' ⊢
  exact h3 p hp e ok τ (O'.reT (fun k i hk => tU_pl hP O.hW hp hk)) z
theorem sy_song {post : Int32 → MS → Prop} (O : rOk (tR x) Γ σ)
    (h1 : (∀ s, s < 16 → a1 ≠ nI s) → ∀ τ, rOk (tR x) Γ τ → τ 0 0 = 1 → post 0 τ)
    (h2 : ∀ s, s < 16 → a1 = nI s → ¬ sgOkR a2 a3 a4 → ∀ τ, rOk (tR x) Γ τ → τ 0 0 = 2 → post 0 τ)
    (h3 : ∀ s, s < 16 → a1 = nI s → sgOkR a2 a3 a4 → ∀ τ, rOk (tR (songS x s a2 a3 a4)) Γ τ → τ 0 0 = 0 → post (x (39 + s) 2) τ) : w_X11_song Γ post σ a1 a2 a3 a4 := by
  have hP := O.hP
  have hW := O.hW
  refine sf_song O h1 h2 (fun s hs e ok τ O' z => ?_)
  refine h3 s hs e ok τ (O'.reT (fun k i hk => ?_)) z
  unfold songS sgT
  exact (tU_sg (j := 2) hP hW hs (by decide) hk).trans (up2_cg ((tU_sg (j := 1) hP hW hs (by decide) hk).trans (up2_cg (tU_sg (j := 0) hP hW hs (by decide) hk))))
theorem sy_feud {post : Int32 → MS → Prop} (O : rOk (tR x) Γ σ)
    (h1 : ((∀ p, p < Γ.1 → a1 ≠ nI p) ∨ (∀ p, p < Γ.1 → a2 ≠ nI p)) → ∀ τ, rOk (tR x) Γ τ → τ 0 0 = 1 → post 0 τ)
    (h2 : ∀ p, p < Γ.1 → a1 = nI p → a2 = nI p → ∀ τ, rOk (tR x) Γ τ → τ 0 0 = 2 → post 0 τ)
    (h3 : ∀ p q, p < Γ.1 → q < Γ.1 → a1 = nI p → a2 = nI q → p ≠ q → ∀ τ, rOk (tR (up2 (up2 x (29 + p) 4 (fdV (x (29 + p) 4) q a3)) (29 + q) 4 (fdV (x (29 + q) 4) p a3))) Γ τ → τ 0 0 = 0 → post (b01 (bt (x (29 + p) 4) q)) τ) : w_X11_feud Γ post σ a1 a2 a3 := by
  have hP := O.hP
  have hW := O.hW
  refine sf_feud O h1 h2 (fun p q hp hq e e2 hne τ O' z => ?_)
  unfold fedT at O'
  rw [tR_pl (by omega), tR_pl (by omega)] at O'
  rw [tR_pl (by omega)]
  exact h3 p q hp hq e e2 hne τ (O'.reT (fun k i hk => (tU_pl hP hW hq hk).trans (up2_cg (tU_pl hP hW hp hk)))) z
theorem wy_tR (O : rOk (tR x) Γ σ) : Wy x σ := fun a b ha hb => ⟨O.dr ha hb, O.rd ha hb⟩
theorem sy_road {post : Int32 → MS → Prop} (O : rOk (tR x) Γ σ)
    (h1 : ((∀ t, t < 6 → a1 ≠ nI t) ∨ (∀ t, t < 6 → a2 ≠ nI t)) → ∀ τ, rOk (tR x) Γ τ → τ 0 0 = 1 → post 0 τ)
    (h2 : ∀ i j, i < 6 → j < 6 → a1 = nI i → a2 = nI j → (i = j ∨ rIsF a3 0 9 = 0) → ∀ τ, rOk (tR x) Γ τ → τ 0 0 = 2 → post 0 τ)
    (h3 : ∀ i j, i < 6 → j < 6 → a1 = nI i → a2 = nI j → i ≠ j → ¬ rIsF a3 0 9 = 0 → ∀ τ, rOk (tR (layS x i j a3)) Γ τ → τ 0 0 = 0 → post (layS x i j a3 (23 + i) j) τ) : w_X11_road Γ post σ a1 a2 a3 := by
  have hP := O.hP
  have hW := O.hW
  refine sf_road O (wy_tR O) h1 h2 (fun i j hi hj e e2 hne hr τ O' Y' => ?_)
  obtain ⟨O1, z⟩ := O'
  refine h3 i j hi hj e e2 hne hr τ (O1.reT (fun k i' hk => ?_)) z
  have ne : ∀ k' j', (k' < 17 ∨ 29 ≤ k') → layS x i j a3 k' j' = x k' j' := fun k' j' h => by rw [lay_k hi hj h]
  have t := O1.tld hk
  -- what the reference has there
  have key : ∀ v, tR (layS x i j a3) k i' = v → τ k i' = v → tR (layS x i j a3) k i' = w12 (rdT (tR x) i j a3) τ k i' := fun v h1 h2 => by rw [h1, ← h2, t]
  rcases tR_leaf hk hP hW with ⟨g1, g2, l⟩ | ⟨g1, g2, l⟩ | ⟨g1, g2, g3, l⟩ | ⟨g1, g2, g3, l⟩ | ⟨g1, g2, g3, l⟩ | ⟨g1, g2, g3, l⟩ | ⟨g1, g2, g3, l⟩
  · unfold w12 rdT
    rw [if_neg (by omega), up2_off (by omega), up2_off (by omega), l, l, ne _ _ (by omega)]
  · unfold w12 rdT
    rw [if_neg (by omega), up2_off (by omega), up2_off (by omega), l, l, ne _ _ (by omega)]
  · unfold w12 rdT
    rw [if_neg (by omega), up2_off (by omega), up2_off (by omega), l, l, ne _ _ (by omega)]
  · refine key _ rfl ?_
    rw [l]
    obtain ⟨q1, q2⟩ := Y' (i' / 6) (i' % 6) (by omega) (by omega)
    rw [show i' / 6 * 6 + i' % 6 = i' by omega] at q1 q2
    rcases (by omega : k = 11 ∨ k = 12) with e | e
    · subst e
      rw [show 17 + 6 * (11 - 11) + i' / 6 = 17 + i' / 6 by omega]
      exact q2
    · subst e
      rw [show 17 + 6 * (12 - 11) + i' / 6 = 23 + i' / 6 by omega]
      exact q1
  · unfold w12 rdT
    rw [if_neg (by omega), up2_off (by omega), up2_off (by omega), l, l, ne _ _ (by omega)]
  · unfold w12 rdT
    rw [if_neg (by omega), up2_off (by omega), up2_off (by omega), l, l, ne _ _ (by omega)]
  · unfold w12 rdT
    rw [if_neg (by omega), up2_off (by omega), up2_off (by omega), l, l, ne _ _ (by omega)]
/-- one more player on both sides -/
theorem rOk.play {t : Nat} (h : rOk (tR x) Γ σ) (hP : Γ.1 < 10) (ht : t < 6) (ez : a3 = nI t) (f4 : x (29 + Γ.1) 4 = 0) (f5 : x (29 + Γ.1) 5 = 0) (fo : ∀ d, d < 366 → bt (x 6 d) Γ.1 = false) : rOk (tR (telP x Γ.1 a1 a2 a3 a4)) (Γ.1 + 1, Γ.2) (rpS σ Γ.1 a1 a2 a3 a4) := by
  have hW := h.hW
  have lo : ∀ k j, k ≠ 1 → k ≠ 13 + Γ.1 → k ≠ 23 + Γ.1 → rpS σ Γ.1 a1 a2 a3 a4 k j = σ k j := fun k j h1 h2 h3 => by
    unfold rpS
    rw [if_neg h1, if_neg h2, if_neg h3]
  have ne : ∀ k j, ¬ (k = 29 + Γ.1 ∧ j < 4) → ¬ (k = 0 ∧ j = 6) → telP x Γ.1 a1 a2 a3 a4 k j = x k j := fun k j h1 h2 => by
    unfold telP
    rw [up2_off h2, up2_off (by omega), up2_off (by omega), up2_off (by omega), up2_off (by omega)]
  have old := h.2
  obtain ⟨⟨h1, h2, h3, h4, h5, h6, h7, h0, h8, h9⟩, htd⟩ := h
  refine ⟨⟨by show Γ.1 + 1 ≤ 10; omega, h2, h3, rfl, (lo _ _ (by decide) (by omega) (by omega)).trans h5, (lo _ _ (by decide) (by omega) (by omega)).trans h6, by rw [lo _ _ (by decide) (by omega) (by omega)]; exact h7, fun s hs => by rw [lo _ _ (by decide) (by omega) (by omega)]; exact h0 s hs, fun p hp => ?_, fun w hw => ?_⟩, fun k j hk => ?_⟩
  · have hp : p < Γ.1 + 1 := hp
    rcases Nat.eq_or_lt_of_le (Nat.le_of_lt_succ hp) with e | e
    · refine ⟨t, ht, ?_⟩
      unfold rpS
      rw [if_neg (by omega), if_pos (by omega), if_neg (by decide), if_neg (by decide), if_pos rfl]
      exact ez
    · rw [lo _ _ (by omega) (by omega) (by omega)]; exact h8 p e
  · have hw : w < Γ.2.2.1 := hw
    rw [lo _ _ (by omega) (by omega) (by omega), lo _ _ (by omega) (by omega) (by omega), lo _ _ (by omega) (by omega) (by omega)]
    exact h9 w hw
  · have hk0 : (k = 0 ∧ (j = 1 ∨ j = 2)) ∨ ((k = 7 ∨ k = 8 ∨ k = 9 ∨ k = 10) ∧ j < 16) ∨ ((k = 11 ∨ k = 12) ∧ j < 36) ∨ (13 ≤ k ∧ k < 13 + (Γ.1 + 1) ∧ j < 6) ∨ (23 ≤ k ∧ k < 23 + (Γ.1 + 1) ∧ j < 366) ∨ (33 ≤ k ∧ k < 33 + Γ.2.2.1 ∧ k < 47 ∧ j < 12) := hk
    by_cases q1 : k = 13 + Γ.1
    · subst q1
      have hj : j < 6 := by omega
      rw [tR_pl (by omega)]
      unfold rpS
      rw [if_neg (by omega), if_pos rfl]
      rcases (by omega : j = 0 ∨ j = 1 ∨ j = 2 ∨ j = 3 ∨ j = 4 ∨ j = 5) with e | e | e | e | e | e
      · subst e
        unfold telP
        rw [up2_off (by omega), up2_off (by omega), up2_off (by omega), up2_off (by omega), up2_same]
        rfl
      · subst e
        unfold telP
        rw [up2_off (by omega), up2_off (by omega), up2_off (by omega), up2_same]
        rfl
      · subst e
        unfold telP
        rw [up2_off (by omega), up2_off (by omega), up2_same]
        rfl
      · subst e
        unfold telP
        rw [up2_off (by omega), up2_same]
        rfl
      · subst e
        rw [ne _ _ (by omega) (by omega), f4]
        rfl
      · subst e
        rw [ne _ _ (by omega) (by omega), f5]
        rfl
    · by_cases q2 : k = 23 + Γ.1
      · subst q2
        have hj : j < 366 := by omega
        rw [tR_off (by omega), ne _ _ (by omega) (by omega), fo j hj]
        unfold rpS
        rw [if_neg (by omega), if_neg (by omega), if_pos rfl]
        rfl
      · have hk2 : rTd Γ k j := by unfold rTd; omega
        rw [lo k j (by omega) q1 q2, htd k j hk2]
        rcases tR_leaf hk2 h1 hW with ⟨g1, g2, l⟩ | ⟨g1, g2, l⟩ | ⟨g1, g2, g3, l⟩ | ⟨g1, g2, g3, l⟩ | ⟨g1, g2, g3, l⟩ | ⟨g1, g2, g3, l⟩ | ⟨g1, g2, g3, l⟩
        · rw [l, l, ne _ _ (by omega) (by omega)]
        · rw [l, l, ne _ _ (by omega) (by omega)]
        · rw [l, l, ne _ _ (by omega) (by omega)]
        · rw [l, l, ne _ _ (by omega) (by omega)]
        · rw [l, l, ne _ _ (by omega) (by omega)]
        · rw [l, l, ne _ _ (by omega) (by omega)]
        · rw [l, l, ne _ _ (by omega) (by omega)]
theorem sy_player {post : Int32 → RY → Prop} (O : rOk (tR x) Γ σ) (f4 : ∀ p, Γ.1 ≤ p → p < 10 → x (29 + p) 4 = 0 ∧ x (29 + p) 5 = 0) (fo : FO x Γ.1)
    (h1 : (a3 < 0 ∨ 5 < a3) → ∀ τ, rOk (tR x) Γ τ → τ 0 0 = 1 → post 0 (lay, Γ, τ))
    (h2 : ¬ (a3 < 0 ∨ 5 < a3) → (a1 < 1 ∨ 63 < a1) ∨ (a2 < 0 ∨ 65535 < a2) ∨ (a4 < 1 ∨ 99 < a4) → ∀ τ, rOk (tR x) Γ τ → τ 0 0 = 2 → post 0 (lay, Γ, τ))
    (h3 : ¬ (a3 < 0 ∨ 5 < a3) → ¬ ((a1 < 1 ∨ 63 < a1) ∨ (a2 < 0 ∨ 65535 < a2) ∨ (a4 < 1 ∨ 99 < a4)) → Γ.1 = 10 → ∀ τ, rOk (tR x) Γ τ → τ 0 0 = 3 → post 0 (lay, Γ, τ))
    (h4 : ¬ (a3 < 0 ∨ 5 < a3) → ¬ ((a1 < 1 ∨ 63 < a1) ∨ (a2 < 0 ∨ 65535 < a2) ∨ (a4 < 1 ∨ 99 < a4)) → Γ.1 < 10 → ∀ lay' τ, rOk (tR (telP x Γ.1 a1 a2 a3 a4)) (Γ.1 + 1, Γ.2) τ → τ 0 0 = 0 → post (nI Γ.1) (lay', (Γ.1 + 1, Γ.2), τ)) : w_X11_player lay Γ post σ a1 a2 a3 a4 := by
  have O0 := O.up (k := 0) (j := 0) (v := 0) (by unfold rPr; omega)
  have hP := O.hP
  unfold w_X11_player
  refine law_X11_is ⟨fun c => sx_refuse O0 (h1 (rIsF_0.mp c)), fun n1 => ?_⟩
  obtain ⟨t, -, ht, et⟩ := rIs_rg (lo := 0) (hi := 5) (by decide) n1 (by decide)
  replace n1 : ¬ (a3 < 0 ∨ 5 < a3) := fun z => n1 (rIsF_0.mpr z)
  refine law_X11_is ⟨fun c => sx_refuse O0 (h2 n1 (Or.inl (rIsF_0.mp c))), fun n2 => ?_⟩
  refine law_X11_areSongs ⟨fun c => sx_refuse O0 (h2 n1 (Or.inr (Or.inl (rIsF_0.mp c)))), fun n3 => ?_⟩
  refine law_X11_is ⟨fun c => sx_refuse O0 (h2 n1 (Or.inr (Or.inr (rIsF_0.mp c)))), fun n4 => ?_⟩
  have n5 : ¬ ((a1 < 1 ∨ 63 < a1) ∨ (a2 < 0 ∨ 65535 < a2) ∨ (a4 < 1 ∨ 99 < a4)) := by
    rintro (z | z | z)
    · exact n2 (rIsF_0.mpr z)
    · exact n3 (rIsF_0.mpr z)
    · exact n4 (rIsF_0.mpr z)
  unfold w_lp_Jx4a65c_size_8abf5
  rw [O0.p]
  by_cases c : Γ.1 = 10
  · refine ⟨fun _ => sx_refuse O0 (h3 n1 n5 c), fun z => absurd ?_ z⟩
    rw [c]
    decide +kernel
  · have hlt : Γ.1 < 10 := by omega
    refine ⟨fun z => ?_, fun _ => ⟨hlt, O0.p, fun lay' => h4 n1 n5 hlt lay' _ (O0.play hlt (by omega) et (f4 _ (Nat.le_refl _) hlt).1 (f4 _ (Nat.le_refl _) hlt).2 (fun d hd => fo d hd _ (Nat.le_refl _))) ?_⟩⟩
    · have z' : nI Γ.1 = nI 10 := z
      exact absurd ((nI_eq (by omega) (by decide)).mp z') c
    · unfold rpS
      rw [if_neg (by decide), if_neg (by omega), if_neg (by omega), up2_same]
/-- one more wedding on both sides -/
theorem rOk.wed {b d t : Nat} (h : rOk (tR x) Γ σ) (hW : Γ.2.2.1 < 14) (hb : b < Γ.2.1) (ex : a1 = nI b) (hd : d ≤ 365) (ey : a2 = nI d) (ht : t < 6) (ez : a3 = nI t) (hz : ∀ j, 7 ≤ j → j < 12 → x (73 + Γ.2.2.1) j = 0) : rOk (tR (askS x Γ.2.2.1 a1 a2 a3 a4 a5 a6)) (Γ.1, Γ.2.1, Γ.2.2.1 + 1, Γ.2.2.2) (rwS σ Γ.2.2.1 a1 a2 a3 a4 a5 a6 (x 0 9)) := by
  have hP := h.hP
  have lo : ∀ k j, k ≠ 3 → k ≠ 33 + Γ.2.2.1 → rwS σ Γ.2.2.1 a1 a2 a3 a4 a5 a6 (x 0 9) k j = σ k j := fun k j h1 h2 => by
    unfold rwS
    rw [if_neg h1, if_neg h2]
  have ne : ∀ k j, ¬ (k = 73 + Γ.2.2.1 ∧ j < 7) → ¬ (k = 0 ∧ j = 8) → askS x Γ.2.2.1 a1 a2 a3 a4 a5 a6 k j = x k j := fun k j h1 h2 => by
    unfold askS
    rw [up2_off h2, up2_off (by omega), up2_off (by omega), up2_off (by omega), up2_off (by omega), up2_off (by omega), up2_off (by omega), up2_off (by omega)]
  obtain ⟨⟨h1, h2, h3, h4, h5, h6, h7, h0, h8, h9⟩, htd⟩ := h
  have g : ∀ j, rwS σ Γ.2.2.1 a1 a2 a3 a4 a5 a6 (x 0 9) (33 + Γ.2.2.1) j = (if j = 0 then a1 else if j = 1 then a2 else if j = 2 then a3 else if j = 3 then a4 else if j = 4 then a5 else if j = 5 then a6 else if j = 6 then x 0 9 else 0) := fun j => by
    unfold rwS
    rw [if_neg (by omega), if_pos rfl]
  refine ⟨⟨h1, h2, by show Γ.2.2.1 + 1 ≤ 14; omega, (lo _ _ (by decide) (by omega)).trans h4, (lo _ _ (by decide) (by omega)).trans h5, rfl, by rw [lo _ _ (by decide) (by omega)]; exact h7, fun s hs => by rw [lo _ _ (by decide) (by omega)]; exact h0 s hs, fun p hp => ?_, fun i hi => ?_⟩, fun k j hk => ?_⟩
  · have hp : p < Γ.1 := hp
    rw [lo _ _ (by omega) (by omega)]; exact h8 p hp
  · have hi : i < Γ.2.2.1 + 1 := hi
    rcases Nat.eq_or_lt_of_le (Nat.le_of_lt_succ hi) with e | e
    · subst e
      rw [g 0, g 1, g 2]
      exact ⟨⟨b, hb, (if_pos rfl).trans ex⟩, ⟨d, hd, ((if_neg (by decide)).trans (if_pos rfl)).trans ey⟩, t, ht, ((if_neg (by decide)).trans ((if_neg (by decide)).trans (if_pos rfl))).trans ez⟩
    · rw [lo _ _ (by omega) (by omega), lo _ _ (by omega) (by omega), lo _ _ (by omega) (by omega)]; exact h9 i e
  · have hk0 : (k = 0 ∧ (j = 1 ∨ j = 2)) ∨ ((k = 7 ∨ k = 8 ∨ k = 9 ∨ k = 10) ∧ j < 16) ∨ ((k = 11 ∨ k = 12) ∧ j < 36) ∨ (13 ≤ k ∧ k < 13 + Γ.1 ∧ j < 6) ∨ (23 ≤ k ∧ k < 23 + Γ.1 ∧ j < 366) ∨ (33 ≤ k ∧ k < 33 + (Γ.2.2.1 + 1) ∧ k < 47 ∧ j < 12) := hk
    by_cases q1 : k = 33 + Γ.2.2.1
    · subst q1
      have hj : j < 12 := by omega
      rw [tR_wd, g j]
      by_cases c7 : 7 ≤ j
      · rw [if_neg (by omega), if_neg (by omega), if_neg (by omega), if_neg (by omega), if_neg (by omega), if_neg (by omega), if_neg (by omega), ne _ _ (by omega) (by omega), hz j c7 hj]
      · rcases (by omega : j = 0 ∨ j = 1 ∨ j = 2 ∨ j = 3 ∨ j = 4 ∨ j = 5 ∨ j = 6) with e | e | e | e | e | e | e
        · subst e
          unfold askS
          rw [up2_off (by omega), up2_off (by omega), up2_off (by omega), up2_off (by omega), up2_off (by omega), up2_off (by omega), up2_off (by omega), up2_same]
          rfl
        · subst e
          unfold askS
          rw [up2_off (by omega), up2_off (by omega), up2_off (by omega), up2_off (by omega), up2_off (by omega), up2_off (by omega), up2_same]
          rfl
        · subst e
          unfold askS
          rw [up2_off (by omega), up2_off (by omega), up2_off (by omega), up2_off (by omega), up2_off (by omega), up2_same]
          rfl
        · subst e
          unfold askS
          rw [up2_off (by omega), up2_off (by omega), up2_off (by omega), up2_off (by omega), up2_same]
          rfl
        · subst e
          unfold askS
          rw [up2_off (by omega), up2_off (by omega), up2_off (by omega), up2_same]
          rfl
        · subst e
          unfold askS
          rw [up2_off (by omega), up2_off (by omega), up2_same]
          rfl
        · subst e
          unfold askS
          rw [up2_off (by omega), up2_same]
          rfl
    · have hk2 : rTd Γ k j := by unfold rTd; omega
      rw [lo k j (by omega) q1, htd k j hk2]
      rcases tR_leaf hk2 hP h3 with ⟨g1, g2, l⟩ | ⟨g1, g2, l⟩ | ⟨g1, g2, g3, l⟩ | ⟨g1, g2, g3, l⟩ | ⟨g1, g2, g3, l⟩ | ⟨g1, g2, g3, l⟩ | ⟨g1, g2, g3, l⟩
      · rw [l, l, ne _ _ (by omega) (by omega)]
      · rw [l, l, ne _ _ (by omega) (by omega)]
      · rw [l, l, ne _ _ (by omega) (by omega)]
      · rw [l, l, ne _ _ (by omega) (by omega)]
      · rw [l, l, ne _ _ (by omega) (by omega)]
      · rw [l, l, ne _ _ (by omega) (by omega)]
      · rw [l, l, ne _ _ (by omega) (by omega)]
theorem ask_ok {d s l g : Int32} : askOk x d s l g ↔ ¬ (d < x 0 9 ∨ 365 < d) ∧ ¬ rIsF s 10 22 = 0 ∧ ¬ rIsF l 1 6 = 0 ∧ ¬ 24 < s + l ∧ ¬ rIsF g 0 65535 = 0 := by
  unfold askOk hoursOk
  rw [decide_eq_true_iff, rIsF_0, rIsF_0, sg_iff, Decidable.not_not]
  constructor
  · rintro ⟨h1, h2, ⟨h3, h4, h5, h6, h7⟩, h8⟩
    exact ⟨fun z => z.elim h1 h2, fun z => z.elim h3 h4, fun z => z.elim h5 h6, h7, h8⟩
  · rintro ⟨h1, h2, h3, h4, h5⟩
    exact ⟨fun z => h1 (Or.inl z), fun z => h1 (Or.inr z), ⟨fun z => h2 (Or.inl z), fun z => h2 (Or.inr z), fun z => h3 (Or.inl z), fun z => h3 (Or.inr z), h4⟩, h5⟩
theorem rfix_x {τ : MS} {i : Nat} (O : rOk (tR x) Γ τ) (hi : i < Γ.2.2.1) : rFix τ a1 a2 i ↔ (x (73 + i) 7 = 1 ∧ x (73 + i) 0 = a1 ∧ x (73 + i) 1 = a2) := by
  unfold rFix
  rw [O.wd (j := 7) hi (by decide), O.wd (j := 0) hi (by decide), O.wd (j := 1) hi (by decide)]
theorem sy_ask {post : Int32 → RY → Prop} (Oc : Ok x Γ.1 Γ.2.1 Γ.2.2.1 T) (O : rOk (tR x) Γ σ) (hz : ∀ w, Γ.2.2.1 ≤ w → w < 14 → ∀ j, 7 ≤ j → j < 12 → x (73 + w) j = 0)
    (h1 : ((∀ k, k < Γ.2.1 → a1 ≠ nI k) ∨ (∀ t, t < 6 → a3 ≠ nI t)) → ∀ τ, rOk (tR x) Γ τ → τ 0 0 = 1 → post 0 (lay, Γ, τ))
    (h2 : (∃ k, k < Γ.2.1 ∧ a1 = nI k) → (∃ t, t < 6 ∧ a3 = nI t) → ¬ askOk x a2 a4 a5 a6 → ∀ τ, rOk (tR x) Γ τ → τ 0 0 = 2 → post 0 (lay, Γ, τ))
    (h3 : (∃ k, k < Γ.2.1 ∧ a1 = nI k) → (∃ t, t < 6 ∧ a3 = nI t) → askOk x a2 a4 a5 a6 → (Γ.2.2.1 = 14 ∨ taken x a1 a2 Γ.2.2.1 = true) → ∀ τ, rOk (tR x) Γ τ → τ 0 0 = 3 → post 0 (lay, Γ, τ))
    (h4 : (∃ k, k < Γ.2.1 ∧ a1 = nI k) → (∃ t, t < 6 ∧ a3 = nI t) → askOk x a2 a4 a5 a6 → Γ.2.2.1 < 14 → taken x a1 a2 Γ.2.2.1 = false → ∀ lay' τ, rOk (tR (askS x Γ.2.2.1 a1 a2 a3 a4 a5 a6)) (Γ.1, Γ.2.1, Γ.2.2.1 + 1, Γ.2.2.2) τ → τ 0 0 = 0 → post (nI Γ.2.2.1) (lay', (Γ.1, Γ.2.1, Γ.2.2.1 + 1, Γ.2.2.2), τ)) : w_X11_ask lay Γ post σ a1 a2 a3 a4 a5 a6 := by
  have O0 := O.up (k := 0) (j := 0) (v := 0) (by unfold rPr; omega)
  have hW := O.hW
  unfold w_X11_ask
  refine sx_isBand O0 (fun no => ⟨fun _ => sx_refuse O0 (h1 (Or.inl no)), fun c => absurd rfl c⟩) (fun b r hb eb hr => ⟨fun c => absurd c hr, fun _ => ?_⟩)
  have g1 : ∃ k, k < Γ.2.1 ∧ a1 = nI k := ⟨b, hb, eb⟩
  refine sx_isTown (fun no => ⟨fun _ => sx_refuse O0 (h1 (Or.inr no)), fun c => absurd rfl c⟩) (fun t r ht et hr => ⟨fun c => absurd c hr, fun _ => ?_⟩)
  have g2 : ∃ t, t < 6 ∧ a3 = nI t := ⟨t, ht, et⟩
  have bad : ¬ askOk x a2 a4 a5 a6 → w_X11_refuse Γ (fun x σ9 => post x (lay, Γ, σ9)) (up2 σ 0 0 0) 2 := fun z => sx_refuse O0 (h2 g1 g2 z)
  have eT : up2 σ 0 0 0 0 1 = x 0 9 := O0.tdy
  refine law_X11_isDay ⟨fun c => bad (fun z => ?_), fun n0 => ?_⟩
  · rw [eT] at c
    exact (ask_ok.mp z).1 (rIsF_0.mp c)
  rw [eT] at n0
  refine law_X11_is ⟨fun c => bad (fun z => (ask_ok.mp z).2.1 c), fun n1 => law_X11_is ⟨fun c => bad (fun z => (ask_ok.mp z).2.2.1 c), fun n2 => ⟨fun c => bad (fun z => (ask_ok.mp z).2.2.2.1 c), fun n3 => law_X11_areSongs ⟨fun c => bad (fun z => (ask_ok.mp z).2.2.2.2 c), fun n4 => ?_⟩⟩⟩⟩
  have ok : askOk x a2 a4 a5 a6 := ask_ok.mpr ⟨fun z => n0 (rIsF_0.mpr z), n1, n2, n3, n4⟩
  obtain ⟨d, hd, ed⟩ : ∃ d, d ≤ 365 ∧ a2 = nI d := by
    have e := Oc.h9
    have hT := Oc.hT
    rw [e] at n0
    obtain ⟨d, _, hd, ed⟩ := rIs_rg (lo := T) (hi := 365) (by decide) n0 (by omega)
    exact ⟨d, hd, ed⟩
  unfold w_lw_Jx4a65c_size_8abf5
  rw [O0.w]
  refine ⟨fun c => sx_refuse O0 (h3 g1 g2 ok (Or.inl ?_)), fun z => ?_⟩
  · exact (nI_eq (show Γ.2.2.1 < 2 ^ 31 by omega) (by decide)).mp (show nI Γ.2.2.1 = nI 14 from c)
  have hlt : Γ.2.2.1 < 14 := by
    rcases Nat.lt_or_ge Γ.2.2.1 14 with d | d
    · exact d
    · exact absurd (show nI Γ.2.2.1 = nI 14 by rw [show Γ.2.2.1 = 14 by omega]) z
  refine law_X11_isFixed hW O0.w (fun d => ⟨fun _ => sx_refuse O0 (h3 g1 g2 ok (Or.inr ?_)), fun z => absurd z (by decide)⟩) (fun d2 => ⟨fun z => absurd rfl z, fun _ => ⟨hlt, O0.w, fun lay' => ?_⟩⟩)
  · obtain ⟨i, hi, q⟩ := d
    exact (taken_i _).mpr ⟨i, hi, (rfix_x O0 hi).mp q⟩
  · rw [eT]
    refine h4 g1 g2 ok hlt ?_ lay' _ (O0.wed hlt hb eb hd ed ht et (hz _ (Nat.le_refl _) hlt)) ?_
    · exact Bool.eq_false_iff.mpr (fun q => by
        obtain ⟨i, hi, q⟩ := (taken_i _).mp q
        exact d2 ⟨i, hi, (rfix_x O0 hi).mpr q⟩)
    · unfold rwS
      rw [if_neg (by decide), if_neg (by omega), up2_same]
end TELLB
end
section
/-! BANDS TOLD, A NEW ONE, ON BOTH SIDES -/
/-- the places of the first n instruments of a shape -/
def frS (a : Int32) : Nat → List Nat
  | 0 => []
  | n + 1 => frS a n ++ seatsOf (rNeed a n) n
/-- how many players the first n instruments want -/
def smN (m : Nat) : Nat → Nat
  | 0 => 0
  | n + 1 => smN m n + m / 3 ^ n % 3
section TELLC
variable {x y z : MS} {Tm : MS} {Γ : RG} {σ τ ρ : MS} {lay : Nat → Nat} {a a0 a1 a2 a3 a4 a5 a6 b c : Int32} {w P B W T : Nat}
theorem plcs_s {b m : Nat} : plcs y b (m + 1) = plcs y b m ++ [pl y b m] := by
  unfold plcs
  rw [List.range_succ, List.map_append]
  rfl
theorem plcs_cg {b m : Nat} (h : ∀ j, j < m → pl z b j = pl y b j) : plcs z b m = plcs y b m := by
  unfold plcs
  exact List.map_congr_left (fun j hj => h j (List.mem_range.mp hj))
theorem tkI_add {b k s : Nat} (hb : b < 6) (hk : k < 6) (h : y (55 + b) 2 = nI s) : ∀ n, s + n ≤ 5 → tkI y b k n (55 + b) 2 = nI (s + n) ∧ plcs (tkI y b k n) b (s + n) = plcs y b s ++ List.replicate n k
  | 0, _ => ⟨h, (List.append_nil _).symm⟩
  | n + 1, hn => by
    obtain ⟨i1, i2⟩ := tkI_add (k := k) hb hk h n (by omega)
    have e : tkI y b k (n + 1) = if 5 ≤ tkI y b k n (55 + b) 2 then tkI y b k n else up2 (up2 (tkI y b k n) (67 + b) (tkI y b k n (55 + b) 2).toNatClampNeg (nI k)) (55 + b) 2 (tkI y b k n (55 + b) 2 + 1) := rfl
    have g5 : ¬ (5 : Int32) ≤ nI (s + n) := fun c => nI_ge (show s + n < 5 by omega) (by decide) (show nI 5 ≤ nI (s + n) from c)
    rw [e, i1, if_neg g5, nI_clamp (by omega), nI_1, ← Nat.add_assoc]
    refine ⟨up2_same, ?_⟩
    rw [plcs_s, plcs_cg (y := tkI y b k n) (fun j hj => ?_), i2, List.replicate_succ', List.append_assoc]
    · congr 2
      unfold pl
      rw [up2_off (by omega), up2_same, nI_clamp (by omega)]
    · unfold pl
      rw [up2_off (by omega), up2_off (by omega)]
theorem rD3_n {m : Nat} (hm : m ≤ 728) : ∀ n, rD3 (nI m) n = nI (m / 3 ^ n)
  | 0 => by rw [Nat.pow_zero, Nat.div_one]; rfl
  | n + 1 => by
    show rD3 (nI m) n / 3 = _
    rw [rD3_n hm n, (dv3 _ (Nat.le_trans (Nat.div_le_self _ _) hm)).1, Nat.pow_succ, Nat.div_div_eq_div_mul]
theorem rNeed_n {m : Nat} (hm : m ≤ 728) (n : Nat) : rNeed (nI m) n = nI (m / 3 ^ n % 3) := by
  unfold rNeed
  rw [rD3_n hm n]
  exact (dv3 _ (Nat.le_trans (Nat.div_le_self _ _) hm)).2
theorem rNeeds_n {m : Nat} (hm : m ≤ 728) : ∀ n, rNeeds (nI m) n = nI (smN m n)
  | 0 => nI_0.symm
  | n + 1 => by
    show rNeeds (nI m) n + rNeed (nI m) n = nI (smN m n + m / 3 ^ n % 3)
    rw [rNeeds_n hm n, rNeed_n hm n, nI_add]
theorem smN_up {m : Nat} : ∀ {n k : Nat}, n ≤ k → smN m n ≤ smN m k := by
  intro n k h
  induction k with
  | zero => obtain rfl : n = 0 := by omega
            exact Nat.le_refl _
  | succ k ih =>
    rcases Nat.eq_or_lt_of_le h with e | e
    · rw [e]; exact Nat.le_refl _
    · exact Nat.le_trans (ih (by omega)) (Nat.le_add_right _ _)
theorem smN_12 {m : Nat} : ∀ n, smN m n ≤ 2 * n
  | 0 => Nat.le_refl _
  | n + 1 => by
    have := smN_12 (m := m) n
    have : m / 3 ^ n % 3 < 3 := Nat.mod_lt _ (by decide)
    show smN m n + m / 3 ^ n % 3 ≤ _
    omega
theorem seatsOf_r {q k : Nat} (h : q < 3) : seatsOf (nI q) k = List.replicate q k := by
  rcases (by omega : q = 0 ∨ q = 1 ∨ q = 2) with e | e | e
  · subst e; exact seatsOf_0 k
  · subst e; exact seatsOf_1 k
  · subst e; exact seatsOf_2 k
theorem tkO_fr {b m : Nat} (hb : b < 6) (hm : m ≤ 728) (h5 : smN m 6 ≤ 5) (h0 : x (55 + b) 2 = nI 0) : ∀ n, n ≤ 6 → (tkO x b (nI m) n).1 (55 + b) 2 = nI (smN m n) ∧ plcs (tkO x b (nI m) n).1 b (smN m n) = frS (nI m) n ∧ ∀ k, k < n → (tkO x b (nI m) n).1 (61 + b) k = rNeed (nI m) k
  | 0, _ => ⟨h0, rfl, fun k hk => absurd hk (by omega)⟩
  | n + 1, hn => by
    obtain ⟨i1, i2, i3⟩ := tkO_fr hb hm h5 h0 n (by omega)
    have e2 := tkO_2 (x := x) (b := b) hm n
    have hle : m / 3 ^ n ≤ 728 := Nat.le_trans (Nat.div_le_self _ _) hm
    have d := (dv3 _ hle).2
    have q3 : m / 3 ^ n % 3 < 3 := Nat.mod_lt _ (by decide)
    have su := smN_up (m := m) (n := n + 1) (k := 6) hn
    have es : smN m (n + 1) = smN m n + m / 3 ^ n % 3 := rfl
    have ef : frS (nI m) (n + 1) = frS (nI m) n ++ seatsOf (rNeed (nI m) n) n := rfl
    show tkI (up2 (tkO x b (nI m) n).1 (61 + b) n ((tkO x b (nI m) n).2 - (tkO x b (nI m) n).2 / 3 * 3)) b n ((tkO x b (nI m) n).2 - (tkO x b (nI m) n).2 / 3 * 3).toNatClampNeg (55 + b) 2 = _ ∧ plcs (tkI (up2 (tkO x b (nI m) n).1 (61 + b) n ((tkO x b (nI m) n).2 - (tkO x b (nI m) n).2 / 3 * 3)) b n ((tkO x b (nI m) n).2 - (tkO x b (nI m) n).2 / 3 * 3).toNatClampNeg) b _ = _ ∧ ∀ k, k < n + 1 → tkI (up2 (tkO x b (nI m) n).1 (61 + b) n ((tkO x b (nI m) n).2 - (tkO x b (nI m) n).2 / 3 * 3)) b n ((tkO x b (nI m) n).2 - (tkO x b (nI m) n).2 / 3 * 3).toNatClampNeg (61 + b) k = _
    rw [e2, d, nI_clamp (show m / 3 ^ n % 3 < 2 ^ 31 by omega)]
    generalize (tkO x b (nI m) n).1 = y at i1 i2 i3 ⊢
    obtain ⟨j1, j2⟩ := tkI_add (y := up2 y (61 + b) n (nI (m / 3 ^ n % 3))) (b := b) (k := n) (s := smN m n) hb (by omega) (by rw [up2_off (by omega)]; exact i1) (m / 3 ^ n % 3) (by omega)
    refine ⟨j1, ?_, fun k hk => ?_⟩
    · rw [es, j2, ef, rNeed_n hm, seatsOf_r q3, ← i2, plcs_cg (y := y) (fun j hj => by unfold pl; rw [up2_off (by omega)])]
    · rw [congrFun (tkI_n hb (m / 3 ^ n % 3)) k]
      by_cases e : k = n
      · subst e
        rw [up2_same, rNeed_n hm]
      · rw [up2_off (by omega)]
        exact i3 k (by omega)
theorem fr_rpl (a : Int32) : frS a 6 = rpl a 6 := by
  show ((((([] ++ seatsOf (rNeed a 0) 0) ++ seatsOf (rNeed a 1) 1) ++ seatsOf (rNeed a 2) 2) ++ seatsOf (rNeed a 3) 3) ++ seatsOf (rNeed a 4) 4) ++ seatsOf (rNeed a 5) 5 = seatsOf (rNeed a 0) 0 ++ (seatsOf (rNeed a 1) 1 ++ (seatsOf (rNeed a 2) 2 ++ (seatsOf (rNeed a 3) 3 ++ (seatsOf (rNeed a 4) 4 ++ (seatsOf (rNeed a 5) 5 ++ [])))))
  simp only [List.append_assoc, List.nil_append, List.append_nil]
/-- the shapes of the bands, with a new one -/
theorem Sh.band {m y : Nat} (S : Sh x Γ) (hB : Γ.2.1 < 6) (h1 : 1 ≤ m) (hm : m ≤ 728) (h5 : rNeeds (nI m) 6 ≤ 5) (h0 : x (55 + Γ.2.1) 2 = 0) : Sh (bandS x Γ.2.1 m) (Γ.1, Γ.2.1 + 1, Γ.2.2.1, Γ.2.2.2.1, va_up Γ.2.2.2.2.1 Γ.2.1 y, va_up Γ.2.2.2.2.2 Γ.2.1 (nI m)) := fun b hb => by
  have hb : b < Γ.2.1 + 1 := hb
  have s12 := smN_12 (m := m) 6
  have h5' : smN m 6 ≤ 5 := by
    rw [rNeeds_n hm] at h5
    rcases Nat.lt_or_ge 5 (smN m 6) with d | d
    · exact absurd (show nI (smN m 6) ≤ nI 5 from h5) (nI_ge d (by omega))
    · exact d
  rcases Nat.eq_or_lt_of_le (Nat.le_of_lt_succ hb) with e | e
  · subst e
    obtain ⟨f1, f2, f3⟩ := tkO_fr (x := x) (m := m) hB hm h5' (h0.trans nI_0.symm) 6 (Nat.le_refl _)
    have ne : ∀ k j, k ≠ 0 → bandS x Γ.2.1 m k j = (tkO x Γ.2.1 (nI m) 6).1 k j := fun k j hk => by
      unfold bandS
      rw [up2_off (by omega)]
    refine ⟨m, smN m 6, h1, hm, if_pos rfl, h5', rNeeds_n hm 6, (ne _ _ (by omega)).trans f1, ?_, fun k hk => (ne _ _ (by omega)).trans (f3 k hk)⟩
    rw [← fr_rpl, ← f2]
    exact plcs_cg (fun j _ => by unfold pl; rw [ne _ _ (by omega)])
  · obtain ⟨m', sz, q1, q2, q3, q4, q5, q6, q7, q8⟩ := S b e
    have ne : ∀ k j, ¬ bdPl Γ.2.1 k j → k ≠ 0 → bandS x Γ.2.1 m k j = x k j := fun k j h hk => bandS_k h (by omega)
    refine ⟨m', sz, q1, q2, (if_neg (by omega)).trans q3, q4, q5, (ne _ _ (by unfold bdPl; omega) (by omega)).trans q6, ?_, fun k hk => (ne _ _ (by unfold bdPl; omega) (by omega)).trans (q8 k hk)⟩
    rw [← q7]
    exact plcs_cg (fun j _ => by unfold pl; rw [ne _ _ (by unfold bdPl; omega) (by omega)])
theorem rOk.bnd {y m : Nat} {v : Int32} (h : rOk (tR x) Γ σ) (hB : Γ.2.1 < 6) : rOk (tR (bandS x Γ.2.1 m)) (Γ.1, Γ.2.1 + 1, Γ.2.2.1, Γ.2.2.2.1, va_up Γ.2.2.2.2.1 Γ.2.1 y, va_up Γ.2.2.2.2.2 Γ.2.1 v) (rbS σ Γ.2.1) := by
  have h := RX.cg (y := bandS x Γ.2.1 m) h (fun a b hs => bandS_k (by unfold bdPl; unfold seen at hs; omega) (by unfold seen at hs; omega))
  have lo : ∀ k j, k ≠ 2 → rbS σ Γ.2.1 k j = σ k j := fun k j h1 => by
    unfold rbS
    rw [if_neg h1]
  obtain ⟨⟨h1, h2, h3, h4, h5, h6, h7, h0, h8, h9⟩, htd⟩ := h
  refine ⟨⟨h1, by show Γ.2.1 + 1 ≤ 6; omega, h3, (lo _ _ (by decide)).trans h4, rfl, (lo _ _ (by decide)).trans h6, by rw [lo _ _ (by decide)]; exact h7, fun s hs => by rw [lo _ _ (by decide)]; exact h0 s hs, fun p hp => ?_, fun w hw => ?_⟩, fun k j hk => (lo k j (by unfold rTd at hk; dsimp only at hk; omega)).trans (htd k j hk)⟩
  · have hp : p < Γ.1 := hp
    rw [lo _ _ (by omega)]; exact h8 p hp
  · have hw : w < Γ.2.2.1 := hw
    rw [lo _ _ (by omega), lo _ _ (by omega), lo _ _ (by omega)]
    obtain ⟨⟨b, hb, eb⟩, hd, ht⟩ := h9 w hw
    exact ⟨⟨b, Nat.lt_succ_of_lt hb, eb⟩, hd, ht⟩
theorem sy_band {post : Int32 → RY → Prop} (O : rOk (tR x) Γ σ)
    (h1 : (rIsF a1 1 728 = 0 ∨ ¬ rNeeds a1 6 ≤ 5) → ∀ τ, rOk (tR x) Γ τ → τ 0 0 = 1 → post 0 (lay, Γ, τ))
    (h2 : ¬ rIsF a1 1 728 = 0 → rNeeds a1 6 ≤ 5 → Γ.2.1 = 6 → ∀ τ, rOk (tR x) Γ τ → τ 0 0 = 2 → post 0 (lay, Γ, τ))
    (h4 : ∀ m, 1 ≤ m → m ≤ 728 → a1 = nI m → rNeeds a1 6 ≤ 5 → Γ.2.1 < 6 → ∀ (lay' : Nat → Nat) (y : Nat) (τ : MS), rOk (tR (bandS x Γ.2.1 m)) (Γ.1, Γ.2.1 + 1, Γ.2.2.1, Γ.2.2.2.1, va_up Γ.2.2.2.2.1 Γ.2.1 y, va_up Γ.2.2.2.2.2 Γ.2.1 a1) τ → τ 0 0 = 0 → post (nI Γ.2.1) (lay', (Γ.1, Γ.2.1 + 1, Γ.2.2.1, Γ.2.2.2.1, va_up Γ.2.2.2.2.1 Γ.2.1 y, va_up Γ.2.2.2.2.2 Γ.2.1 a1), τ)) : w_X11_band lay Γ post σ a1 := by
  have O0 := O.up (k := 0) (j := 0) (v := 0) (by unfold rPr; omega)
  have hB := O.hB
  unfold w_X11_band
  refine law_X11_is ⟨fun c => sx_refuse O0 (h1 (Or.inl c)), fun n1 => law_X11_needed_ ⟨fun c => sx_refuse O0 (h1 (Or.inr c)), fun n2 => ?_⟩⟩
  have n2 : rNeeds a1 6 ≤ 5 := Decidable.byContradiction fun z => by first | exact n2 z | exact z n2 | exact absurd n2 (by simpa using z)
  obtain ⟨m, hm1, hm2, em⟩ := rIs_rg (lo := 1) (hi := 728) (by decide) n1 (by decide)
  unfold w_lb_Jx4a65c_size_8abf5
  rw [O0.b]
  refine ⟨fun c => sx_refuse O0 (h2 n1 n2 ?_), fun z => ?_⟩
  · exact (nI_eq (show Γ.2.1 < 2 ^ 31 by omega) (by decide)).mp (show nI Γ.2.1 = nI 6 from c)
  have hlt : Γ.2.1 < 6 := by
    rcases Nat.lt_or_ge Γ.2.1 6 with d | d
    · exact d
    · exact absurd (show nI Γ.2.1 = nI 6 by rw [show Γ.2.1 = 6 by omega]) z
  refine ⟨hlt, O0.b, fun lay' y => h4 m hm1 hm2 em n2 hlt lay' y _ (O0.bnd hlt) ?_⟩
  unfold rbS
  rw [if_neg (by decide), up2_same]
/-- what a new one has been told -/
def nwT : MS := fun k j => if k = 7 then nI j - nI j / 12 * 12 else if k = 8 then 5 else if k = 9 then 3 else if k = 12 then (if j / 6 = j % 6 then 0 else -1) else 0
theorem sf_init {ea : Nat} {post : MS → Prop} (h : ∀ τ, rOk nwT (rG0 ea) τ → post τ) : ∃ k, u_X11_init_87 (rG0 ea) post k (fun _ _ => 0) 0 := by
  have := inv_loop (fun k (q : MS × Int32) => u_X11_init_87 (rG0 ea) post k q.1 q.2) (fun j q => ((∀ k i, k ≠ 7 → k ≠ 8 → k ≠ 9 → q.1 k i = 0) ∧ ∀ s, s < j → q.1 9 s = 3 ∧ q.1 8 s = 5 ∧ q.1 7 s = nI s - nI s / 12 * 12) ∧ q.2 = nI j) 16 (by
    rintro ⟨τ, v⟩ ⟨⟨h0, h3⟩, rfl⟩
    have h0 : ∀ k i, k ≠ 7 → k ≠ 8 → k ≠ 9 → τ k i = 0 := h0
    have h3 : ∀ s, s < 16 → τ 9 s = 3 ∧ τ 8 s = 5 ∧ τ 7 s = nI s - nI s / 12 * 12 := h3
    show u_X11_init_87 (rG0 ea) post 1 τ (nI 16)
    unfold u_X11_init_87
    refine ⟨fun _ => ?_, fun c => absurd (le_self (nI 16)) c⟩
    have O : rOk τ (rG0 ea) τ := ⟨⟨Nat.zero_le _, Nat.zero_le _, Nat.zero_le _, h0 _ _ (by decide) (by decide) (by decide), h0 _ _ (by decide) (by decide) (by decide), h0 _ _ (by decide) (by decide) (by decide), ⟨0, by decide, h0 _ _ (by decide) (by decide) (by decide)⟩, fun s hs => ⟨3, by decide, by decide, (h3 s hs).1⟩, fun p hp => absurd hp (Nat.not_lt_zero _), fun w hw => absurd hw (Nat.not_lt_zero _)⟩, fun _ _ _ => rfl⟩
    -- the roads of a class without any, its ways as they are
    have O2 : rO12 τ 0 (rG0 ea) τ := rO12.of O (h0 _ _ (by decide) (by decide) (by decide))
    have e12 : ∀ v : MS, rO12 τ 0 (rG0 ea) v → (∀ a b, a < 6 → b < 6 → v 12 (a * 6 + b) = if a = b then 0 else -1) → post v := fun v hv e => h v (hv.1.reT (fun k j hk => by
      unfold w12 nwT
      have hk : (k = 0 ∧ (j = 1 ∨ j = 2)) ∨ ((k = 7 ∨ k = 8 ∨ k = 9 ∨ k = 10) ∧ j < 16) ∨ ((k = 11 ∨ k = 12) ∧ j < 36) ∨ (13 ≤ k ∧ k < 13 + 0 ∧ j < 6) ∨ (23 ≤ k ∧ k < 23 + 0 ∧ j < 366) ∨ (33 ≤ k ∧ k < 33 + 0 ∧ k < 47 ∧ j < 12) := hk
      by_cases q7 : k = 7
      · subst q7; rw [if_pos rfl, if_neg (by decide)]; exact (h3 j (by omega)).2.2.symm
      · by_cases q8 : k = 8
        · subst q8; rw [if_neg (by decide), if_pos rfl, if_neg (by decide)]; exact (h3 j (by omega)).2.1.symm
        · by_cases q9 : k = 9
          · subst q9; rw [if_neg (by decide), if_neg (by decide), if_pos rfl, if_neg (by decide)]; exact (h3 j (by omega)).1.symm
          · rw [if_neg q7, if_neg q8, if_neg q9]
            by_cases q12 : k = 12
            · subst q12
              rw [if_pos rfl, if_pos rfl]
              have := e (j / 6) (j % 6) (by omega) (by omega)
              rw [show j / 6 * 6 + j % 6 = j by omega] at this
              exact this.symm
            · rw [if_neg q12, if_neg q12]; exact (h0 _ _ q7 q8 q9).symm))
    exact sf_drive (x := fun _ _ => 0) O2 (fun a b _ _ => ⟨h0 _ _ (by decide) (by decide) (by decide), h0 _ _ (by decide) (by decide) (by decide)⟩) (fun v hv hw => e12 v hv (fun a b ha hb => (hw a b ha hb).1.trans (dg_ov (dg_lyA (fun _ _ _ _ => rfl)) 6 (Nat.le_refl _) a b ha hb)))) (by
    rintro j k ⟨τ, v⟩ hj ⟨⟨h0, h3⟩, rfl⟩ ih
    have h0 : ∀ k i, k ≠ 7 → k ≠ 8 → k ≠ 9 → τ k i = 0 := h0
    have h3 : ∀ s, s < j → τ 9 s = 3 ∧ τ 8 s = 5 ∧ τ 7 s = nI s - nI s / 12 * 12 := h3
    have cj : (nI j).toNatClampNeg = j := nI_clamp (by omega)
    show u_X11_init_87 (rG0 ea) post (k + 1) τ (nI j)
    unfold u_X11_init_87
    refine ⟨fun c => absurd (show nI 16 ≤ nI j from c) (nI_ge hj (by decide)), fun _ => ⟨vp_in_nI hj (by decide), ?_⟩⟩
    rw [cj, nI_1 j]
    refine ih (up2 (up2 (up2 τ 7 j (nI j - nI j / 12 * 12)) 8 j 5) 9 j 3, nI (j + 1)) ⟨⟨fun k i h7 h8 h9 => ?_, fun s hs => ?_⟩, rfl⟩
    · show up2 (up2 (up2 τ 7 j (nI j - nI j / 12 * 12)) 8 j 5) 9 j 3 k i = 0
      rw [up2_at (Or.inl h9), up2_at (Or.inl h8), up2_at (Or.inl h7)]; exact h0 k i h7 h8 h9
    · rcases Nat.eq_or_lt_of_le (Nat.le_of_lt_succ hs) with e | e
      · show up2 (up2 (up2 τ 7 j (nI j - nI j / 12 * 12)) 8 j 5) 9 j 3 9 s = 3 ∧ up2 (up2 (up2 τ 7 j (nI j - nI j / 12 * 12)) 8 j 5) 9 j 3 8 s = 5 ∧ up2 (up2 (up2 τ 7 j (nI j - nI j / 12 * 12)) 8 j 5) 9 j 3 7 s = nI s - nI s / 12 * 12
        rw [e]
        exact ⟨up2_same, by rw [up2_off (by omega), up2_same], by rw [up2_off (by omega), up2_off (by omega), up2_same]⟩
      · show up2 (up2 (up2 τ 7 j (nI j - nI j / 12 * 12)) 8 j 5) 9 j 3 9 s = 3 ∧ up2 (up2 (up2 τ 7 j (nI j - nI j / 12 * 12)) 8 j 5) 9 j 3 8 s = 5 ∧ up2 (up2 (up2 τ 7 j (nI j - nI j / 12 * 12)) 8 j 5) 9 j 3 7 s = nI s - nI s / 12 * 12
        refine ⟨?_, ?_, ?_⟩
        · rw [up2_off (by omega), up2_off (by omega), up2_off (by omega)]; exact (h3 s e).1
        · rw [up2_off (by omega), up2_off (by omega), up2_off (by omega)]; exact (h3 s e).2.1
        · rw [up2_off (by omega), up2_off (by omega), up2_off (by omega)]; exact (h3 s e).2.2) 0 (by omega) (_, 0) ⟨⟨fun _ _ _ _ _ => rfl, fun s hs => absurd hs (Nat.not_lt_zero _)⟩, nI_0.symm⟩
  exact this
end TELLC
end
