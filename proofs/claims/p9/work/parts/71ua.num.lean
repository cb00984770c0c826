/-! numbers within bounds; roads; costs -/
theorem nI_mul (a b : Nat) : nI a * nI b = nI (a * b) := (Int32.ofNat_mul a b).symm
def rg (lo hi : Nat) (x : Int32) : Prop := ∃ n : Nat, lo ≤ n ∧ n ≤ hi ∧ x = nI n
theorem rg.wk {a b c d : Nat} {x : Int32} (h : rg a b x) (h1 : c ≤ a) (h2 : b ≤ d) : rg c d x := by
  obtain ⟨n, p, q, r⟩ := h
  exact ⟨n, by omega, by omega, r⟩
theorem rg.add {a b c d : Nat} {x y : Int32} (h : rg a b x) (g : rg c d y) : rg (a + c) (b + d) (x + y) := by
  obtain ⟨n, p, q, rfl⟩ := h
  obtain ⟨m, r, s, rfl⟩ := g
  exact ⟨n + m, by omega, by omega, nI_add n m⟩
theorem rg.mul {a b c d : Nat} {x y : Int32} (h : rg a b x) (g : rg c d y) : rg (a * c) (b * d) (x * y) := by
  obtain ⟨n, p, q, rfl⟩ := h
  obtain ⟨m, r, s, rfl⟩ := g
  exact ⟨n * m, Nat.mul_le_mul p r, Nat.mul_le_mul q s, nI_mul n m⟩
theorem rg.div {a b k : Nat} {x : Int32} (h : rg a b x) (hb : b < 2 ^ 31) (hk : 0 < k) (hk2 : k < 2 ^ 31) : rg (a / k) (b / k) (x / nI k) := by
  obtain ⟨n, p, q, rfl⟩ := h
  exact ⟨n / k, Nat.div_le_div_right p, Nat.div_le_div_right q, pk_div (by omega) hk hk2⟩
theorem rg.self (n : Nat) : rg n n (nI n) := ⟨n, Nat.le_refl n, Nat.le_refl n, rfl⟩
theorem rg.le {a b c : Nat} {x : Int32} (h : rg a b x) (hb : b ≤ c) (hc : c < 2 ^ 31) : x ≤ nI c := by
  obtain ⟨n, p, q, rfl⟩ := h
  exact nI_le (by omega) hc
theorem rg.ge {a b c : Nat} {x : Int32} (h : rg a b x) (hb : c ≤ a) (hc : b < 2 ^ 31) : nI c ≤ x := by
  obtain ⟨n, p, q, rfl⟩ := h
  exact nI_le (by omega) (by omega)
theorem rg.nlt {a b c : Nat} {x : Int32} (h : rg a b x) (hb : c ≤ a) (hc : b < 2 ^ 31) : ¬ x < nI c := by
  obtain ⟨n, p, q, rfl⟩ := h
  exact nI_nlt (by omega) (by omega)
theorem rg.ngt {a b c : Nat} {x : Int32} (h : rg a b x) (hb : b ≤ c) (hc : c < 2 ^ 31) : ¬ nI c < x := by
  obtain ⟨n, p, q, rfl⟩ := h
  exact nI_nlt (by omega) (by omega)
/-- a way between two towns: none, or so many hours -/
def wy (M : Nat) (v : Int32) : Prop := v = -1 ∨ rg 0 M v
theorem wy.wk {M N : Nat} {v : Int32} (h : wy M v) (hM : M ≤ N) : wy N v := h.elim Or.inl (fun h => Or.inr (h.wk (Nat.le_refl _) hM))
theorem m1_n {n : Nat} (h : n < 2 ^ 31) : nI n ≠ -1 := fun e => nI_pos h (by rw [e]; decide)
def Rd (M o : Nat) (x : MS) : Prop := ∀ a b, a < 6 → b < 6 → wy (2 * M) (x (23 + a) b) ∧ (a = o ∨ b = o → wy M (x (23 + a) b))
theorem rd_shB {M o a b : Nat} {x : MS} (ha : a < 6) (hb : b < 6) (ho : o < 6) (hM : 2 * M < 2 ^ 31) (h : Rd M o x) : Rd M o (shB x o a b) := by
  unfold shB
  split
  · exact h
  · rename_i c
    have c1 : ¬ x (23 + a) o = -1 := fun q => c (Or.inl q)
    have c2 : ¬ x (23 + o) b = -1 := fun q => c (Or.inr q)
    have s1 : rg 0 M (x (23 + a) o) := ((h a o ha ho).2 (Or.inr rfl)).elim (fun q => absurd q c1) id
    have s2 : rg 0 M (x (23 + o) b) := ((h o b ho hb).2 (Or.inl rfl)).elim (fun q => absurd q c2) id
    have hs : rg 0 (2 * M) (x (23 + a) o + x (23 + o) b) := (s1.add s2).wk (by omega) (by omega)
    intro a' b' ha' hb'
    by_cases e : a' = a ∧ b' = b
    · obtain ⟨rfl, rfl⟩ := e
      rw [up2_same]
      by_cases d : x (23 + a') b' = -1
      · rw [if_pos d]
        refine ⟨Or.inr hs, fun q => ?_⟩
        rcases q with rfl | rfl
        · exact absurd d c2
        · exact absurd d c1
      · rw [if_neg d]
        have h0 := h a' b' ha' hb'
        by_cases f : x (23 + a') o + x (23 + o) b' < x (23 + a') b'
        · rw [if_pos f]
          refine ⟨Or.inr hs, fun q => Or.inr ?_⟩
          have h1 : rg 0 M (x (23 + a') b') := (h0.2 q).elim (fun z => absurd z d) id
          obtain ⟨n, p1, p2, p3⟩ := h1
          obtain ⟨m, q1, q2, q3⟩ := hs
          rw [p3, q3] at f
          have := (nI_ltI (by omega) (by omega)).mp f
          exact ⟨m, by omega, by omega, q3⟩
        · rw [if_neg f]
          exact h0
    · rw [up2_at (by omega)]
      exact h a' b' ha' hb'
theorem rd_shA {M o a : Nat} {x : MS} (ha : a < 6) (ho : o < 6) (hM : 2 * M < 2 ^ 31) (h : Rd M o x) : ∀ n, n ≤ 6 → Rd M o (shA x o a n)
  | 0, _ => h
  | n + 1, hn => rd_shB ha (by omega) ho hM (rd_shA ha ho hM h n (by omega))
theorem rd_shO {M o : Nat} {x : MS} (ho : o < 6) (hM : 2 * M < 2 ^ 31) (h : Rd M o x) : ∀ n, n ≤ 6 → Rd M o (shO x o n)
  | 0, _ => h
  | n + 1, hn => rd_shA (by omega) ho hM (rd_shO ho hM h n (by omega)) 6 (by decide)
def Wy_i (M : Nat) (x : MS) : Prop := ∀ a b, a < 6 → b < 6 → wy M (x (23 + a) b)
theorem wy_shO {M o : Nat} {x : MS} (ho : o < 6) (hM : 2 * M < 2 ^ 31) (h : Wy_i M x) : Wy_i (2 * M) (shO x o 6) := fun a b ha hb =>
  (rd_shO (M := M) ho hM (fun a b ha hb => ⟨(h a b ha hb).wk (by omega), fun _ => h a b ha hb⟩) 6 (by decide) a b ha hb).1
theorem wy_ovS {x : MS} (h : Wy_i 9 x) : Wy_i 576 (ovS x 6) :=
  wy_shO (M := 288) (by decide) (by decide) (wy_shO (M := 144) (by decide) (by decide) (wy_shO (M := 72) (by decide) (by decide) (wy_shO (M := 36) (by decide) (by decide) (wy_shO (M := 18) (by decide) (by decide) (wy_shO (M := 9) (by decide) (by decide) h)))))
def Hr (x : MS) : Prop := ∀ a b, a < 6 → b < 6 → rg 0 9 (x (17 + a) b)
theorem shB_k {x : MS} {o a b k : Nat} (h : k ≠ 23 + a) : shB x o a b k = x k := by
  unfold shB
  split
  · rfl
  · exact up2_ne h
theorem shA_k {x : MS} {o a k : Nat} (h : k ≠ 23 + a) : ∀ n, shA x o a n k = x k
  | 0 => rfl
  | n + 1 => (shB_k h).trans (shA_k h n)
theorem shO_k {x : MS} {o k : Nat} (h : k < 23 ∨ 29 ≤ k) : ∀ n, n ≤ 6 → shO x o n k = x k
  | 0, _ => rfl
  | n + 1, hn => (shA_k (by omega) 6).trans (shO_k h n (by omega))
theorem ovS_k {x : MS} {k : Nat} (h : k < 23 ∨ 29 ≤ k) : ∀ n, ovS x n k = x k
  | 0 => rfl
  | n + 1 => (shO_k h 6 (by decide)).trans (ovS_k h n)
theorem lyB_k {x : MS} {a k : Nat} (h : k ≠ 23 + a) : ∀ n, lyB x a n k = x k
  | 0 => rfl
  | n + 1 => (up2_ne h).trans (lyB_k h n)
theorem lyA_k {x : MS} {k : Nat} (h : k < 23 ∨ 29 ≤ k) : ∀ n, n ≤ 6 → lyA x n k = x k
  | 0, _ => rfl
  | n + 1, hn => (lyB_k (by omega) 6).trans (lyA_k h n (by omega))
theorem lyV_ok {x : MS} {a b : Nat} (h : rg 0 9 (x (17 + a) b)) : wy 9 (lyV x a b) := by
  unfold lyV
  split
  · exact Or.inr ⟨0, by omega, by omega, nI_0.symm⟩
  · split
    · exact Or.inl rfl
    · exact Or.inr h
theorem lyB_ok {x : MS} {a : Nat} (ha : a < 6) (h : Hr x) : ∀ n, n ≤ 6 → ∀ b, b < n → wy 9 (lyB x a n (23 + a) b)
  | 0, _, b, hb => absurd hb (by omega)
  | n + 1, hn, b, hb => by
    show wy 9 (up2 (lyB x a n) (23 + a) n (lyV (lyB x a n) a n) (23 + a) b)
    by_cases e : b = n
    · subst e
      rw [up2_same]
      refine lyV_ok ?_
      rw [lyB_k (by omega)]
      exact h a b ha (by omega)
    · rw [up2_at (by omega)]
      exact lyB_ok ha h n (by omega) b (by omega)
theorem lyA_ok {x : MS} (h : Hr x) : ∀ n, n ≤ 6 → ∀ a b, a < n → b < 6 → wy 9 (lyA x n (23 + a) b)
  | 0, _, a, b, ha, hb => absurd ha (by omega)
  | n + 1, hn, a, b, ha, hb => by
    show wy 9 (lyB (lyA x n) n 6 (23 + a) b)
    by_cases e : a = n
    · subst e
      exact lyB_ok (by omega) (fun a' b' h1 h2 => by rw [lyA_k (by omega) a (by omega)]; exact h a' b' h1 h2) 6 (by decide) b hb
    · rw [lyB_k (by omega)]
      exact lyA_ok h n (by omega) a b (by omega) hb
theorem lay_ok {x : MS} {i j : Nat} {v : Int32} (hi : i < 6) (hj : j < 6) (hv : rg 0 9 v) (h : Hr x) : Hr (layS x i j v) ∧ Wy_i 576 (layS x i j v) := by
  have h2 : Hr (up2 (up2 x (17 + i) j v) (17 + j) i v) := fun a b ha hb => by
    by_cases e : a = j ∧ b = i
    · obtain ⟨rfl, rfl⟩ := e
      rw [up2_same]; exact hv
    · rw [up2_at (by omega)]
      by_cases e2 : a = i ∧ b = j
      · obtain ⟨rfl, rfl⟩ := e2
        rw [up2_same]; exact hv
      · rw [up2_at (by omega)]; exact h a b ha hb
  refine ⟨fun a b ha hb => ?_, ?_⟩
  · unfold layS
    rw [ovS_k (by omega), lyA_k (by omega) 6 (by decide)]
    exact h2 a b ha hb
  · exact wy_ovS (lyA_ok h2 6 (by decide))
theorem lay_k {x : MS} {i j k : Nat} {v : Int32} (hi : i < 6) (hj : j < 6) (h : k < 17 ∨ 29 ≤ k) : layS x i j v k = x k := by
  unfold layS
  rw [ovS_k (by omega), lyA_k (by omega) 6 (by decide), up2_ne (by omega), up2_ne (by omega)]
/-! costs -/
theorem cost_ok {σ : MS} {p w : Nat} (hw : Wy_i 576 σ) (hh : vp_in (σ (29 + p) 2) 6) (ht : vp_in (σ (73 + w) 2) 6) (hf : rg 0 99 (σ (29 + p) 3)) (hl : rg 0 6 (σ (73 + w) 4)) : rg 0 6354 (costF σ p w) := by
  unfold costF
  have h1 : rg 0 576 (if 0 < wayF σ (σ (29 + p) 2) (σ (73 + w) 2) then wayF σ (σ (29 + p) 2) (σ (73 + w) 2) else 0) := by
    split
    · rename_i c
      rcases hw _ _ (vlt hh) (vlt ht) with q | q
      · exact absurd (show (0 : Int32) < -1 by rw [show (-1 : Int32) = wayF σ (σ (29 + p) 2) (σ (73 + w) 2) from q.symm]; exact c) (by decide)
      · exact q
    · exact ⟨0, by omega, by omega, nI_0.symm⟩
  exact ((hf.mul hl).add ((rg.self 10).mul h1)).wk (by omega) (by omega)
theorem sum_ok {f : Nat → Int32} {M : Nat} : ∀ n, (∀ p, p < n → rg 0 M (f p)) → rg 0 (n * M) (sumI f n)
  | 0, _ => ⟨0, by omega, by omega, nI_0.symm⟩
  | n + 1, h => by
    have := (sum_ok n (fun p hp => h p (by omega))).add (h n (by omega))
    exact this.wk (by omega) (by rw [Nat.succ_mul]; omega)
theorem ifb_ok {s : Int32} {f : Nat → Int32} {M p : Nat} (h : rg 0 M (f p)) : rg 0 M (ifb s f p) := by
  unfold ifb
  split
  · exact h
  · exact ⟨0, by omega, by omega, nI_0.symm⟩
theorem price_ok {c : Int32} (h : rg 0 63540 c) : rg 50 76298 (priceI c) := by
  unfold priceI
  exact (((h.mul (rg.self 6)).div (k := 5) (by decide) (by decide) (by decide)).add (rg.self 50)).wk (by omega) (by omega)
