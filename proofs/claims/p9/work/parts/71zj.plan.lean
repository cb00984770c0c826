/-! THE PLAN OF A DAY, ON BOTH SIDES -/
/-- the n bits of v are f 0 .. f (c-1), rising, three at most -/
def fewF (n : Nat) (v : Int32) (c : Nat) (f : Nat → Nat) : Prop := c ≤ 3 ∧ (∀ i j, i < j → j < c → f i < f j) ∧ (∀ i, i < c → f i < n) ∧ bcI v = nI c ∧ ∀ w, bt v w = true ↔ ∃ i, i < c ∧ f i = w
/-- the reference's try, of the first n: its books, the prices' sum, whom it fixed -/
def trR (x : MS) (P W : Nat) (f : Nat → Nat) (m : Int32) : Nat → MS × Int32 × Int32
  | 0 => (x, 0, 0)
  | n + 1 => if bt m n = true then (if bR (trR x P W f m n).1 (f n) P (freeF (stg (trR x P W f m n).1 W) (f n) W P) 0 (2 ^ P - 1) = -1 then ((trR x P W f m n).1, -999999, (trR x P W f m n).2.2) else (fxN (trR x P W f m n).1 (f n) P (bR (trR x P W f m n).1 (f n) P (freeF (stg (trR x P W f m n).1 W) (f n) W P) 0 (2 ^ P - 1)), (trR x P W f m n).2.1 + priceI (costsF (trR x P W f m n).1 (bR (trR x P W f m n).1 (f n) P (freeF (stg (trR x P W f m n).1 W) (f n) W P) 0 (2 ^ P - 1)) (f n) P), (trR x P W f m n).2.2 ||| one n)) else trR x P W f m n
/-- .. taken back -/
def bkR (z : MS) (f : Nat → Nat) (m : Int32) : Nat → MS
  | 0 => z
  | n + 1 => if bt m n = true then up2 (up2 (up2 (up2 (bkR z f m n) (73 + f n) 7 0) (73 + f n) 8 0) (73 + f n) 9 0) (73 + f n) 11 0 else bkR z f m n
section PLANB
variable {x y z : MS} {Γ : RG} {σ τ ρ : MS} {a a0 a1 a2 a3 a4 b : Int32} {w P B W T : Nat}
theorem seg_ind {c W : Nat} {f : Nat → Nat} {Pr : Nat → Nat → Prop} (hm : ∀ i j, i < j → j < c → f i < f j) (hW : ∀ i, i < c → f i < W) (h0 : Pr 0 0) (hs : ∀ n i, n < W → (∀ k, k < c → f k ≠ n) → Pr n i → Pr (n + 1) i) (ht : ∀ i, i < c → Pr (f i) i → Pr (f i + 1) (i + 1)) : Pr W c := by
  have key : ∀ n, n ≤ W → ∃ i, i ≤ c ∧ (∀ k, k < c → (f k < n ↔ k < i)) ∧ Pr n i := by
    intro n
    induction n with
    | zero => exact fun _ => ⟨0, Nat.zero_le _, fun k hk => ⟨fun h => absurd h (by omega), fun h => absurd h (by omega)⟩, h0⟩
    | succ n ih =>
      intro hn
      obtain ⟨i, h1, h2, h3⟩ := ih (by omega)
      by_cases q : ∃ k, k < c ∧ f k = n
      · obtain ⟨k, hk, e⟩ := q
        have e1 : ¬ k < i := fun z => by have := (h2 k hk).mpr z; omega
        have e2 : ¬ i < k := fun z => by
          have a1 := hm i k z hk
          have a2 := (h2 i (by omega)).mp (by omega)
          omega
        have e3 : k = i := by omega
        subst e3
        refine ⟨k + 1, by omega, fun j hj => ⟨fun h => ?_, fun h => ?_⟩, by rw [← e]; exact ht k hk (by rw [e]; exact h3)⟩
        · rcases Nat.lt_trichotomy j k with z | z | z
          · omega
          · omega
          · have := hm k j z hj; omega
        · rcases Nat.lt_or_ge j k with z | z
          · have := (h2 j hj).mpr z; omega
          · have : j = k := by omega
            subst this
            omega
      · refine ⟨i, h1, fun k hk => ?_, hs n i (by omega) (fun k hk e => q ⟨k, hk, e⟩) h3⟩
        have : f k ≠ n := fun e => q ⟨k, hk, e⟩
        rw [← h2 k hk]
        omega
  obtain ⟨i, h1, h2, h3⟩ := key W (Nat.le_refl _)
  have : i = c := by
    rcases Nat.lt_or_ge i c with z | z
    · have := (h2 i z).mp (hW i z); omega
    · omega
  rw [← this]
  exact h3
theorem fewF.zero : fewF 0 0 0 (fun _ => 0) := ⟨by decide, fun i j _ h => absurd h (by omega), fun i h => absurd h (by omega), by decide +kernel, fun w => by rw [b_0]; exact ⟨fun h => absurd h Bool.false_ne_true, fun ⟨i, hi, _⟩ => absurd hi (by omega)⟩⟩
theorem fewF.suc {n c : Nat} {v : Int32} {f : Nat → Nat} (h : fewF n v c f) : fewF (n + 1) v c f := ⟨h.1, h.2.1, fun i hi => by have := h.2.2.1 i hi; omega, h.2.2.2⟩
theorem fewF.add {n c : Nat} {v : Int32} {f : Nat → Nat} (hn : n < 14) (hc : c < 3) (h : fewF n v c f) : fewF (n + 1) (v ||| one n) (c + 1) (fun i => if i = c then n else f i) := by
  obtain ⟨h1, h2, h3, h4, h5⟩ := h
  refine ⟨by omega, fun i j hij hj => ?_, fun i hi => ?_, ?_, fun w => ?_⟩
  · dsimp only
    rw [if_neg (by omega)]
    by_cases e : j = c
    · rw [if_pos e]; exact h3 i (by omega)
    · rw [if_neg e]; exact h2 i j hij (by omega)
  · dsimp only
    by_cases e : i = c
    · rw [if_pos e]; omega
    · rw [if_neg e]; have := h3 i (by omega); omega
  · rcases (by omega : c = 0 ∨ c = 1 ∨ c = 2) with e | e | e
    · subst e
      have : v = 0 := b_ext fun i hi => by
        rw [b_0]
        exact Bool.eq_false_iff.mpr (fun q => by obtain ⟨k, hk, _⟩ := (h5 i).mp q; omega)
      rw [this, Int32.zero_or]
      exact bc_1 n hn
    · subst e
      have g0 := h3 0 (by omega)
      have : v = one (f 0) := b_ext fun i hi => by
        rw [b_one (by omega) hi, Bool.eq_iff_iff, h5, decide_eq_true_iff]
        exact ⟨fun ⟨k, hk, e⟩ => by obtain rfl : k = 0 := by omega
                                    exact e.symm, fun e => ⟨0, by omega, e.symm⟩⟩
      rw [this]
      exact bc_2 (f 0) (by omega) n hn (by omega)
    · subst e
      have g0 := h3 0 (by omega)
      have g1 := h3 1 (by omega)
      have g2 := h2 0 1 (by omega) (by omega)
      have : v = one (f 0) ||| one (f 1) := b_ext fun i hi => by
        rw [b_or, b_one (by omega) hi, b_one (by omega) hi, Bool.eq_iff_iff, h5, Bool.or_eq_true, decide_eq_true_iff, decide_eq_true_iff]
        refine ⟨fun ⟨k, hk, e⟩ => ?_, fun e => e.elim (fun e => ⟨0, by omega, e.symm⟩) (fun e => ⟨1, by omega, e.symm⟩)⟩
        rcases (by omega : k = 0 ∨ k = 1) with z | z
        · subst z; exact Or.inl e.symm
        · subst z; exact Or.inr e.symm
      rw [this]
      exact bc_3 (f 0) (by omega) (f 1) (by omega) g2 n hn g1
  · rcases Nat.lt_or_ge w 32 with hw | hw
    · rw [b_or, b_one (by omega) hw, Bool.or_eq_true, decide_eq_true_iff, h5]
      constructor
      · rintro (⟨i, hi, e⟩ | e)
        · exact ⟨i, by omega, by dsimp only; rw [if_neg (by omega)]; exact e⟩
        · exact ⟨c, by omega, by dsimp only; rw [if_pos rfl]; exact e.symm⟩
      · rintro ⟨i, hi, e⟩
        dsimp only at e
        by_cases z : i = c
        · rw [if_pos z] at e; exact Or.inr e.symm
        · rw [if_neg z] at e; exact Or.inl ⟨i, by omega, e⟩
    · rw [b_big hw]
      refine ⟨fun h => absurd h Bool.false_ne_true, fun ⟨i, hi, e⟩ => ?_⟩
      dsimp only at e
      by_cases z : i = c
      · rw [if_pos z] at e; omega
      · rw [if_neg z] at e; have := h3 i (by omega); omega
/-- the members of a few at the places of m -/
theorem memS_few {n c : Nat} {v m : Int32} {f : Nat → Nat} (hn : n ≤ 14) (h : fewF n v c f) (w : Nat) : bt (memS v m 14).1 w = true ↔ ∃ i, i < c ∧ f i = w ∧ bt m i = true := by
  obtain ⟨h1, h2, h3, h4, h5⟩ := h
  have hno : ∀ k, (∀ j, j < c → f j ≠ k) → ¬ bt v k = true := fun k q z => by
    obtain ⟨i, hi, e⟩ := (h5 k).mp z
    exact q i hi e
  have := seg_ind (c := c) (W := 14) (f := f) (Pr := fun k i => (memS v m k).2 = i ∧ ∀ w, bt (memS v m k).1 w = true ↔ ∃ j, j < i ∧ f j = w ∧ bt m j = true) h2 (fun i hi => by have := h3 i hi; omega) ⟨rfl, fun w => by
    show bt 0 w = true ↔ _
    rw [b_0]
    exact ⟨fun z => absurd z Bool.false_ne_true, fun ⟨j, hj, _⟩ => absurd hj (by omega)⟩⟩ (fun k i hk q g => by
    unfold memS
    rw [if_neg (hno k q)]
    exact g) (fun i hi g => by
    have gi := h3 i hi
    unfold memS
    rw [if_pos ((h5 (f i)).mpr ⟨i, hi, rfl⟩), g.1]
    refine ⟨rfl, fun w => ?_⟩
    show bt ((memS v m (f i)).1 ||| (if bt m i = true then one (f i) else 0)) w = true ↔ _
    rcases Nat.lt_or_ge w 32 with hw | hw
    · rw [b_or, Bool.or_eq_true, g.2 w]
      constructor
      · rintro (⟨j, hj, e, e2⟩ | e)
        · exact ⟨j, by omega, e, e2⟩
        · by_cases z : bt m i = true
          · rw [if_pos z, b_one (by omega) hw, decide_eq_true_iff] at e
            exact ⟨i, by omega, e.symm, z⟩
          · rw [if_neg z, b_0] at e
            exact absurd e Bool.false_ne_true
      · rintro ⟨j, hj, e, e2⟩
        by_cases z : j = i
        · subst z
          right
          rw [if_pos e2, b_one (by omega) hw, decide_eq_true_iff]
          exact e.symm
        · exact Or.inl ⟨j, by omega, e, e2⟩
    · rw [b_big hw]
      refine ⟨fun z => absurd z Bool.false_ne_true, fun ⟨j, hj, e, _⟩ => ?_⟩
      have := h3 j (by omega)
      omega)
  exact this.2 w
theorem fst_more {day : Int32} {j : Nat} (h : 3 ≤ bcI (fstF x day j)) : ∀ n, j ≤ n → fstF x day n = fstF x day j := by
  intro n
  induction n with
  | zero => intro hn; obtain rfl : j = 0 := by omega
            rfl
  | succ n ih =>
    intro hn
    by_cases e : j = n + 1
    · rw [e]
    · have ih := ih (by omega)
      show (if x (73 + n) 1 = day ∧ isFst x n = true ∧ ¬ 3 ≤ bcI (fstF x day n) then fstF x day n ||| one n else fstF x day n) = _
      rw [ih, if_neg (fun q => q.2.2 h)]
/-! what the tries cost -/
theorem nI_div5 {n : Nat} (h : n < 2 ^ 31) : nI n / 5 = nI (n / 5) := by
  apply Int32.toInt_inj.mp
  have e5 : (5 : Int32).toInt = 5 := by decide
  have e1 : (nI n).toInt = n := nI_toInt h
  have e2 : (nI (n / 5)).toInt = (n / 5 : Nat) := nI_toInt (by omega)
  rw [Int32.toInt_div, e1, e5, e2, Int.tdiv_eq_ediv_of_nonneg (by omega), Int.bmod_eq_of_le (by omega) (by omega)]
  omega
theorem costF_rg {p : Nat} (Y : Sy x) (HS : SI x P B W) (hp : p < P) (hw : w < W) (hh : ∃ t, t < 6 ∧ x (29 + p) 2 = nI t) (ht : ∃ t, t < 6 ∧ x (73 + w) 2 = nI t) : ∃ t, t ≤ 6354 ∧ costF x p w = nI t := by
  obtain ⟨⟨f, f1, f2, ef⟩, _⟩ := HS.1 p hp
  obtain ⟨_, s, l, _, _, l1, l2, _, _, el⟩ := HS.2.2.2 w hw
  unfold costF
  have key : ∃ n, n ≤ 576 ∧ (if 0 < wayF x (x (29 + p) 2) (x (73 + w) 2) then wayF x (x (29 + p) 2) (x (73 + w) 2) else 0) = nI n := by
    rcases way_rg Y hh ht with e | e
    · rw [e]
      exact ⟨0, by omega, by decide⟩
    · rw [mx_way e]
      exact e
  obtain ⟨n, hn, en⟩ := key
  rw [en, ef, el, show (10 : Int32) = nI 10 from rfl, nI_mul, nI_mul, nI_add]
  refine ⟨f * l + 10 * n, ?_, rfl⟩
  have := Nat.mul_le_mul f2 l2
  omega
theorem sumI_rg {f : Nat → Int32} {k : Nat} : ∀ n, (∀ p, p < n → ∃ t, t ≤ k ∧ f p = nI t) → ∃ t, t ≤ n * k ∧ sumI f n = nI t
  | 0, _ => ⟨0, by omega, nI_0.symm⟩
  | n + 1, h => by
    obtain ⟨t, ht, e⟩ := sumI_rg n (fun p hp => h p (by omega))
    obtain ⟨u, hu, e2⟩ := h n (by omega)
    refine ⟨t + u, ?_, ?_⟩
    · rw [Nat.succ_mul]; omega
    · show sumI f n + f n = _
      rw [e, e2, nI_add]
theorem price_rg {s : Int32} (Y : Sy x) (HS : SI x P B W) (hP : P ≤ 10) (hw : w < W) (hh : ∀ p, p < 10 → ∃ t, t < 6 ∧ x (29 + p) 2 = nI t) (ht : ∃ t, t < 6 ∧ x (73 + w) 2 = nI t) : ∃ t, t ≤ 76298 ∧ priceI (costsF x s w P) = nI t := by
  obtain ⟨c, hc, ec⟩ := sumI_rg (f := ifb s fun p => costF x p w) (k := 6354) P (fun p hp => by
    by_cases q : bt s p = true
    · obtain ⟨t, h1, h2⟩ := costF_rg (P := P) (B := B) (W := W) Y HS hp hw (hh p (by omega)) ht
      exact ⟨t, h1, (if_pos q).trans h2⟩
    · exact ⟨0, by omega, (if_neg q).trans nI_0.symm⟩)
  have hc2 : c ≤ 63540 := Nat.le_trans hc (Nat.mul_le_mul_right 6354 hP)
  have ec : costsF x s w P = nI c := ec
  unfold priceI
  rw [ec, show (6 : Int32) = nI 6 from rfl, nI_mul, nI_div5 (by omega), show (50 : Int32) = nI 50 from rfl, nI_add]
  exact ⟨c * 6 / 5 + 50, by omega, rfl⟩
/-! the reference's books while it tries -/
theorem fxN_k {s : Int32} {k j : Nat} (h : ¬ (k = 73 + w ∧ (j = 7 ∨ j = 8 ∨ j = 9 ∨ j = 11)) ∧ ¬ (k = 0 ∧ j = 10)) : fxN x w P s k j = x k j := by
  unfold fxN
  rw [up2_off (by omega), up2_off (by omega), up2_off (by omega), up2_off (by omega), up2_off (by omega)]
theorem trR_fl {f : Nat → Nat} {m : Int32} : ∀ n, Fl x (trR x P W f m n).1
  | 0 => Fl.rf
  | n + 1 => by
    have ih := trR_fl (f := f) (m := m) n
    unfold trR
    split
    · split
      · exact ih
      · exact ih.tr (fun k j hk => fxN_k (by unfold flc at hk; omega))
    · exact ih
theorem trR_k {f : Nat → Nat} {m : Int32} {k j : Nat} (h : ¬ (73 ≤ k ∧ (j = 7 ∨ j = 8 ∨ j = 9 ∨ j = 11)) ∧ ¬ (k = 0 ∧ j = 10)) : ∀ n, (trR x P W f m n).1 k j = x k j
  | 0 => rfl
  | n + 1 => by
    have ih := trR_k (f := f) (m := m) h n
    unfold trR
    split
    · split
      · exact ih
      · exact (fxN_k (by omega)).trans ih
    · exact ih
theorem trR_m {f : Nat → Nat} {m : Int32} : ∀ n, n ≤ 31 → (∀ i, bt (trR x P W f m n).2.2 i = true → i < n) ∧ ∀ w j, (∀ i, bt (trR x P W f m n).2.2 i = true → f i ≠ w) → (trR x P W f m n).1 (73 + w) j = x (73 + w) j
  | 0, _ => ⟨fun i h => by
      have h : bt 0 i = true := h
      rw [b_0] at h
      exact absurd h Bool.false_ne_true, fun _ _ _ => rfl⟩
  | n + 1, hn => by
    obtain ⟨h1, h2⟩ := trR_m (f := f) (m := m) n (by omega)
    unfold trR
    split
    · split
      · exact ⟨fun i h => by have := h1 i h; omega, h2⟩
      · have hb : ∀ i, bt ((trR x P W f m n).2.2 ||| one n) i = true ↔ (bt (trR x P W f m n).2.2 i = true ∨ i = n) := fun i => by
          rcases Nat.lt_or_ge i 32 with hi | hi
          · rw [b_or, b_one (by omega) hi, Bool.or_eq_true, decide_eq_true_iff]
          · rw [b_big hi, b_big hi]
            exact ⟨fun z => absurd z Bool.false_ne_true, fun z => z.elim (fun z => absurd z Bool.false_ne_true) (fun z => by omega)⟩
        refine ⟨fun i h => ?_, fun w j h => ?_⟩
        · rcases (hb i).mp h with z | z
          · have := h1 i z; omega
          · omega
        · have hw : f n ≠ w := h n ((hb n).mpr (Or.inr rfl))
          exact (fxN_k (by omega)).trans (h2 w j (fun i q => h i ((hb i).mpr (Or.inl q))))
    · exact ⟨fun i h => by have := h1 i h; omega, h2⟩
theorem bkR_at {f : Nat → Nat} {m : Int32} : ∀ n k j, (bkR z f m n k j = 0 ∧ ∃ i, i < n ∧ bt m i = true ∧ k = 73 + f i ∧ (j = 7 ∨ j = 8 ∨ j = 9 ∨ j = 11)) ∨ (bkR z f m n k j = z k j ∧ ∀ i, i < n → bt m i = true → ¬ (k = 73 + f i ∧ (j = 7 ∨ j = 8 ∨ j = 9 ∨ j = 11)))
  | 0, k, j => Or.inr ⟨rfl, fun i hi => absurd hi (by omega)⟩
  | n + 1, k, j => by
    have ih := bkR_at (f := f) (m := m) n k j
    unfold bkR
    by_cases q : bt m n = true
    · rw [if_pos q]
      by_cases c : k = 73 + f n ∧ (j = 7 ∨ j = 8 ∨ j = 9 ∨ j = 11)
      · refine Or.inl ⟨?_, n, by omega, q, c.1, c.2⟩
        obtain ⟨rfl, c⟩ := c
        rcases c with rfl | rfl | rfl | rfl
        · rw [up2_off (by omega), up2_off (by omega), up2_off (by omega), up2_same]
        · rw [up2_off (by omega), up2_off (by omega), up2_same]
        · rw [up2_off (by omega), up2_same]
        · rw [up2_same]
      · rw [up2_off (by omega), up2_off (by omega), up2_off (by omega), up2_off (by omega)]
        rcases ih with ⟨e, i, hi, h⟩ | ⟨e, h⟩
        · exact Or.inl ⟨e, i, by omega, h⟩
        · refine Or.inr ⟨e, fun i hi hb => ?_⟩
          by_cases z : i = n
          · subst z; exact c
          · exact h i (by omega) hb
    · rw [if_neg q]
      rcases ih with ⟨e, i, hi, h⟩ | ⟨e, h⟩
      · exact Or.inl ⟨e, i, by omega, h⟩
      · refine Or.inr ⟨e, fun i hi hb => ?_⟩
        by_cases z : i = n
        · subst z; exact absurd hb q
        · exact h i (by omega) hb
/-- all taken back -/
theorem tr_back {f : Nat → Nat} {m : Int32} {n : Nat} (hn : n ≤ 31) (hf : ∀ i, i < n → f i < 14) (h0 : ∀ i, i < n → x (73 + f i) 7 = 0 ∧ x (73 + f i) 8 = 0 ∧ x (73 + f i) 9 = 0 ∧ x (73 + f i) 11 = 0) : ∀ a b, seen a b → x a b = up2 (bkR (trR x P W f m n).1 f (trR x P W f m n).2.2 n) 0 10 (x 0 10) a b := by
  intro a b hs
  by_cases c0 : a = 0 ∧ b = 10
  · obtain ⟨rfl, rfl⟩ := c0
    rw [up2_same]
  rw [up2_off c0]
  obtain ⟨g1, g2⟩ := trR_m (x := x) (P := P) (W := W) (f := f) (m := m) n hn
  rcases bkR_at (z := (trR x P W f m n).1) (f := f) (m := (trR x P W f m n).2.2) n a b with ⟨e, i, hi, hb, ea, c⟩ | ⟨e, h⟩
  · rw [e, ea]
    obtain ⟨q1, q2, q3, q4⟩ := h0 i hi
    rcases c with rfl | rfl | rfl | rfl
    · exact q1
    · exact q2
    · exact q3
    · exact q4
  · rw [e]
    by_cases c : 73 ≤ a ∧ (b = 7 ∨ b = 8 ∨ b = 9 ∨ b = 11)
    · obtain ⟨v, rfl⟩ : ∃ v, a = 73 + v := ⟨a - 73, by omega⟩
      exact (g2 v b (fun i hb e => h i (g1 i hb) hb ⟨by rw [e], c.2⟩)).symm
    · exact (trR_k ⟨c, c0⟩ n).symm
theorem surv_1 {free had : Int32} (hP : P ≤ 10) (h : ¬ bR x w P free had (2 ^ P - 1) = -1) : survF x w P free had 9 1 = costsF x (bR x w P free had (2 ^ P - 1)) w P := ((surv_is (x := x) (w := w) (free := free) (had := had) hP).2.2.1 h).1
/-- who is free is one, where the stages are -/
theorem freeF_cg (h : Fl x y) (hP : P ≤ 10) (hW : W ≤ 14) (hw : w < 14) (hh : ∀ v, v < 14 → ∃ t, t < 6 ∧ x (73 + v) 2 = nI t) (hq2 : ∀ q, q < 10 → ∃ t, t < 6 ∧ x (29 + q) 2 = nI t) (h7 : ∀ j, j < W → y 7 j = x 7 j) (h6 : ∀ d, y 6 d = x 6 d) : freeF y w W P = freeF x w W P := b_ext fun i hi => by
  rw [freeF_bt hi hP, freeF_bt hi hP]
  by_cases g : i < P
  · rw [freeB_fl h hW hw (by omega) hh (hq2 i (by omega)) h7 (fun d => by rw [h6])]
  · rw [decide_eq_false g, Bool.false_and, Bool.false_and]
/-- class and reference try alike -/
theorem tr_sync {c : Nat} {f : Nat → Nat} {m ch : Int32} (O : Ok x P B W T) (Y : Sy x) (HS : SI x P B W) (hy : Scr x y) (hc : c ≤ 3) (hm : ∀ i j, i < j → j < c → f i < f j) (hfW : ∀ i, i < c → f i < W) (hch : ∀ w, bt ch w = true ↔ ∃ i, i < c ∧ f i = w ∧ bt m i = true) :
    (∃ Z s, (saS y P W ch W).1 = some (Z, s) ∧ (trR x P W f m c).2.1 = s ∧ ∃ t, t ≤ 228894 ∧ s = nI t) ∨ ((saS y P W ch W).1 = none ∧ ∃ t, t ≤ 228894 ∧ (trR x P W f m c).2.1 = -999999 + nI t) := by
  have hW := O.hW
  have hP := O.hP
  have := seg_ind (c := c) (W := W) (f := f) (Pr := fun n i =>
    (∃ Z s, (saS y P W ch n).1 = some (Z, s) ∧ (trR x P W f m i).2.1 = s ∧ (∀ j, j < W → Z 7 j = stg (trR x P W f m i).1 W 7 j) ∧ ∃ t, t ≤ 76298 * i ∧ s = nI t) ∨ ((saS y P W ch n).1 = none ∧ ∃ t, t ≤ 76298 * i ∧ (trR x P W f m i).2.1 = -999999 + nI t)) hm hfW
    (Or.inl ⟨stg y W, 0, rfl, rfl, fun j hj => by
      show stg y W 7 j = stg x W 7 j
      rw [stg_at hj, stg_at hj, hy.c73], 0, by omega, nI_0.symm⟩)
    (fun n i hn q g => by
      have nb : ¬ bt ch n = true := fun z => by
        obtain ⟨k, hk, e, _⟩ := (hch n).mp z
        exact q k hk e
      rcases g with ⟨Z, s, e, r⟩ | ⟨e, r⟩
      · refine Or.inl ⟨Z, s, ?_, r⟩
        unfold saS
        rw [e]
        dsimp only
        rw [if_neg nb]
      · refine Or.inr ⟨?_, r⟩
        unfold saS
        rw [e]
        exact e)
    (fun i hi g => by
      have hfi := hfW i hi
      have ifl := trR_fl (x := x) (P := P) (W := W) (f := f) (m := m) i
      have i6 : ∀ d, (trR x P W f m i).1 6 d = x 6 d := fun d => trR_k (by omega) i
      have hbt : bt ch (f i) = true ↔ bt m i = true := by
        rw [hch]
        constructor
        · rintro ⟨k, hk, e, e2⟩
          have : k = i := by
            rcases Nat.lt_trichotomy k i with z | z | z
            · have := hm k i z hi; omega
            · exact z
            · have := hm i k z hk; omega
          rw [← this]; exact e2
        · exact fun q => ⟨i, hi, rfl, q⟩
      have pr : ∀ s, ∃ t, t ≤ 76298 ∧ priceI (costsF (trR x P W f m i).1 s (f i) P) = nI t := fun s => by
        rw [costsF_fl ifl (by omega) hP (fun p hp => O.hom (by omega))]
        exact price_rg Y HS hP hfi (fun p hp => O.hom hp) (O.twn (by omega))
      rcases g with ⟨Z, s, e, r1, r2, t, ht, r3⟩ | ⟨e, t, ht, r⟩
      · have hZ : Scr y Z := (Scr.sa y P W ch (f i)).2 _ e
        have hxZ : Scr x Z := hy.tr hZ
        have f1 : Fl Z (trR x P W f m i).1 := (Fl.scr hxZ).sy.tr ifl
        have hfr : freeF (stg (trR x P W f m i).1 W) (f i) W P = freeF Z (f i) W P :=
          freeF_cg (f1.tr (Fl.scr (Scr.stg _ W))) hP hW (by omega) (fun v hv => by rw [hxZ.c73]; exact O.twn hv) (fun q hq => by rw [hxZ.c29]; exact O.hom hq) (fun j hj => (r2 j hj).symm) (fun d => by rw [stg_k (by decide), i6, hxZ.c6])
        have hb : bR (trR x P W f m i).1 (f i) P (freeF (stg (trR x P W f m i).1 W) (f i) W P) 0 (2 ^ P - 1) = bR Z (f i) P (freeF Z (f i) W P) 0 (2 ^ P - 1) := by
          obtain ⟨p1, p2⟩ := pw1024 hP
          rw [hfr]
          refine bR_fl f1 (by omega) hP ⟨by rw [bdOf_sc hxZ]; exact O.bd (by omega), ?_⟩ (fun q hq => by rw [hxZ.c29]; exact O.hom (by omega)) _ (by omega)
          obtain ⟨sz, s1, s2⟩ := (O.bz (w := f i) (by omega)).2
          exact ⟨sz, s1, by rw [bdOf_sc hxZ, hxZ.c55]; exact s2⟩
        by_cases q : bt m i = true
        · have vn := surv_no (x := Z) (w := f i) (free := freeF Z (f i) W P) (had := 0) hP
          have v0 := surv_0 (x := Z) (w := f i) (free := freeF Z (f i) W P) (had := 0) hP
          have v7 := surv_7 (x := Z) (w := f i) (P := P) (free := freeF Z (f i) W P) (had := 0)
          have v1 := surv_1 (x := Z) (w := f i) (free := freeF Z (f i) W P) (had := 0) hP
          unfold trR saS
          rw [e, if_pos q, hb]
          dsimp only
          rw [if_pos (hbt.mpr q)]
          generalize survF Z (f i) P (freeF Z (f i) W P) 0 = V at vn v0 v7 v1 ⊢
          generalize bR Z (f i) P (freeF Z (f i) W P) 0 (2 ^ P - 1) = bb at vn v0 v1 ⊢
          by_cases c1 : bb = -1
          · rw [if_pos c1, if_pos (vn.mpr c1)]
            exact Or.inr ⟨rfl, 0, by omega, by rw [nI_0, Int32.add_zero]⟩
          · rw [if_neg c1, if_neg (fun z => c1 (vn.mp z))]
            obtain ⟨u, hu, eu⟩ := pr bb
            have ec : costsF (trR x P W f m i).1 bb (f i) P = V 9 1 := by
              rw [v1 c1]
              exact costsF_fl f1 (by omega) hP (fun p hp => by rw [hxZ.c29]; exact O.hom (by omega))
            refine Or.inl ⟨_, _, rfl, ?_, fun j hj => ?_, t + u, by omega, ?_⟩
            · show (trR x P W f m i).2.1 + priceI (costsF (trR x P W f m i).1 bb (f i) P) = s + priceI (V 9 1)
              rw [r1, ec]
            · show up2 V 7 (f i) (V 9 0) 7 j = stg (fxN (trR x P W f m i).1 (f i) P bb) W 7 j
              rw [stg_at hj]
              by_cases z : j = f i
              · subst z
                have k7 : fxN (trR x P W f m i).1 (f i) P bb (73 + f i) 7 = 1 := by
                  unfold fxN
                  rw [up2_off (by omega), up2_off (by omega), up2_off (by omega), up2_off (by omega), up2_same]
                have k8 : fxN (trR x P W f m i).1 (f i) P bb (73 + f i) 8 = bb := by
                  unfold fxN
                  rw [up2_off (by omega), up2_off (by omega), up2_off (by omega), up2_same]
                rw [up2_same, k7, if_pos rfl, k8, v0]
              · rw [up2_off (by omega), v7, r2 j hj, stg_at hj, fxN_k (by omega), fxN_k (by omega)]
            · show s + priceI (V 9 1) = _
              rw [← ec, r3, eu, nI_add]
        · unfold trR saS
          rw [e, if_neg q]
          dsimp only
          rw [if_neg (fun z => q (hbt.mp z))]
          exact Or.inl ⟨Z, s, rfl, r1, r2, t, by omega, r3⟩
      · refine Or.inr ⟨by unfold saS; rw [e]; exact e, ?_⟩
        unfold trR
        split
        · split
          · exact ⟨0, by omega, by rw [nI_0, Int32.add_zero]⟩
          · obtain ⟨u, hu, eu⟩ := pr (bR (trR x P W f m i).1 (f i) P (freeF (stg (trR x P W f m i).1 W) (f i) W P) 0 (2 ^ P - 1))
            refine ⟨t + u, by omega, ?_⟩
            dsimp only
            rw [r, eu, Int32.add_assoc, nI_add]
        · exact ⟨t, by omega, r⟩)
  rcases this with ⟨Z, s, e, r1, _, t, ht, r3⟩ | ⟨e, t, ht, r⟩
  · exact Or.inl ⟨Z, s, e, r1, t, by omega, r3⟩
  · exact Or.inr ⟨e, t, by omega, r⟩
end PLANB
