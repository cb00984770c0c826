/-! FILLINGS ON BOTH SIDES: subsets in rising order -/
section NXT
theorem and_h (a c : Nat) : a &&& c = 2 * (a / 2 &&& c / 2) + (if a % 2 = 1 ∧ c % 2 = 1 then 1 else 0) := by
  have h1 : (a &&& c) / 2 = a / 2 &&& c / 2 := Nat.and_div_two
  have h2 : (a &&& c) % 2 = 1 ↔ a % 2 = 1 ∧ c % 2 = 1 := Nat.and_mod_two_eq_one
  by_cases h : a % 2 = 1 ∧ c % 2 = 1
  · have := h2.mpr h
    rw [if_pos h]
    omega
  · have : ¬ (a &&& c) % 2 = 1 := fun q => h (h2.mp q)
    rw [if_neg h]
    omega
theorem nxt_h {v f : Nat} (h : v &&& f = v) : (v / 2 &&& f / 2) = v / 2 ∧ (v % 2 = 1 → f % 2 = 1) := by
  rw [and_h] at h
  by_cases q : v % 2 = 1 ∧ f % 2 = 1
  · rw [if_pos q] at h
    exact ⟨by omega, fun _ => q.2⟩
  · rw [if_neg q] at h
    exact ⟨by omega, fun z => by omega⟩
theorem nxt_c : ∀ n f v, f < 2 ^ n → v &&& f = v → (v + (2 ^ n - 1 - f)) &&& f = v := by
  intro n
  induction n with
  | zero =>
    intro f v hf h
    have e : f = 0 := by omega
    subst e
    rw [Nat.and_zero] at h ⊢
    exact h
  | succ n ih =>
    intro f v hf h
    have hN : 2 ^ (n + 1) = 2 * 2 ^ n := by rw [Nat.pow_succ]; omega
    have hp : 1 ≤ 2 ^ n := Nat.one_le_two_pow
    obtain ⟨h1, h2⟩ := nxt_h h
    have i := ih (f / 2) (v / 2) (by omega) h1
    rw [hN] at hf ⊢
    generalize 2 ^ n = N at hf hp i ⊢
    by_cases q : v % 2 = 1
    · have q2 := h2 q
      rw [and_h, show (v + (2 * N - 1 - f)) / 2 = v / 2 + (N - 1 - f / 2) by omega, i, if_pos ⟨by omega, q2⟩]
      omega
    · by_cases q2 : f % 2 = 1
      · rw [and_h, show (v + (2 * N - 1 - f)) / 2 = v / 2 + (N - 1 - f / 2) by omega, i, if_neg (fun z => by omega)]
        omega
      · rw [and_h, show (v + (2 * N - 1 - f)) / 2 = v / 2 + (N - 1 - f / 2) by omega, i, if_neg (fun z => q2 z.2)]
        omega
/-- the next subset of f behind v -/
theorem nxt : ∀ n f v, f < 2 ^ n → v &&& f = v → v ≠ f → v < ((v + (2 ^ n - f)) &&& f) ∧ (((v + (2 ^ n - f)) &&& f) &&& f = ((v + (2 ^ n - f)) &&& f)) ∧ ∀ u, v < u → u < ((v + (2 ^ n - f)) &&& f) → ¬ (u &&& f = u) := by
  intro n
  induction n with
  | zero =>
    intro f v hf h hne
    have e : f = 0 := by omega
    subst e
    rw [Nat.and_zero] at h
    exact absurd h.symm hne
  | succ n ih =>
    intro f v hf h hne
    have hN : 2 ^ (n + 1) = 2 * 2 ^ n := by rw [Nat.pow_succ]; omega
    have hp : 1 ≤ 2 ^ n := Nat.one_le_two_pow
    obtain ⟨h1, h2⟩ := nxt_h h
    have i := ih (f / 2) (v / 2) (by omega) h1
    have hc := nxt_c n (f / 2) (v / 2) (by omega) h1
    rw [hN] at hf ⊢
    generalize 2 ^ n = N at hf hp i hc ⊢
    by_cases c : f % 2 = 1 ∧ v % 2 = 0
    · have hs : (v + (2 * N - f)) &&& f = v + 1 := by
        rw [and_h, show (v + (2 * N - f)) / 2 = v / 2 + (N - 1 - f / 2) by omega, hc, if_pos ⟨by omega, c.1⟩]
        omega
      rw [hs]
      refine ⟨by omega, ?_, fun u g1 g2 => by omega⟩
      rw [and_h, show (v + 1) / 2 = v / 2 by omega, h1, if_pos ⟨by omega, c.1⟩]
      omega
    · have hpar : v % 2 = f % 2 := by
        by_cases q : v % 2 = 1
        · rw [q, h2 q]
        · have : ¬ f % 2 = 1 := fun z => c ⟨z, by omega⟩
          omega
      have e2 : ¬ (v + (2 * N - f)) % 2 = 1 := by omega
      have hs : (v + (2 * N - f)) &&& f = 2 * ((v / 2 + (N - f / 2)) &&& (f / 2)) := by
        rw [and_h, show (v + (2 * N - f)) / 2 = v / 2 + (N - f / 2) by omega, if_neg (fun q => e2 q.1), Nat.add_zero]
      obtain ⟨i1, i2, i3⟩ := i (fun q => hne (by omega))
      rw [hs]
      generalize (v / 2 + (N - f / 2)) &&& (f / 2) = t at i1 i2 i3 ⊢
      refine ⟨by omega, ?_, fun u g1 g2 g3 => ?_⟩
      · rw [and_h, show 2 * t / 2 = t by omega, i2, if_neg (fun q => by omega), Nat.add_zero]
      · obtain ⟨u1, u2⟩ := nxt_h g3
        by_cases q : u % 2 = 1
        · have := u2 q
          exact i3 (u / 2) (by omega) (by omega) u1
        · exact i3 (u / 2) (by omega) (by omega) u1
theorem sub_loopX {S : Type} (U : Nat → S → Int32 → Prop) (I : Nat → S → Prop) {F : Nat} (hF : F < 1024)
    (hz : ∀ k s, I 1024 s → U (k + 1) s (nI 0))
    (hs : ∀ k s V, V < 1024 → 1 ≤ V → V &&& F = V → I V s → (∀ s', I (V + 1) s' → U k s' ((nI V - nI F) &&& nI F)) → U (k + 1) s (nI V))
    (hk : ∀ V s, 1 ≤ V → V < 1024 → ¬ (V &&& F = V) → I V s → I (V + 1) s) (s : S) (h : I 1 s) : ∃ k, U k s (nI F &&& (-(nI F))) := by
  have skip : ∀ d V s, 1 ≤ V → V + d ≤ 1024 → (∀ u, V ≤ u → u < V + d → ¬ (u &&& F = u)) → I V s → I (V + d) s := by
    intro d
    induction d with
    | zero => intro V s _ _ _ h; exact h
    | succ d ih =>
      intro V s v1 v2 g h
      exact hk (V + d) s (by omega) (by omega) (g (V + d) (by omega) (by omega)) (ih V s v1 (by omega) (fun u h1 h2 => g u h1 (by omega)) h)
  have key : ∀ d V, V &&& F = V → V < 1024 → 1024 - V ≤ d → ∀ s, I (V + 1) s → U (d + 1) s (nI ((V + (1024 - F)) &&& F)) := by
    intro d
    induction d with
    | zero => intro V _ h1 h2; omega
    | succ d ih =>
      intro V hV h1 h2 s hI
      by_cases c : V = F
      · have e : (V + (1024 - F)) &&& F = 0 := by
          rw [c, show F + (1024 - F) = 1024 by omega, and_m10 1024 hF]
          exact Nat.zero_and F
        rw [e]
        refine hz _ s ?_
        have := skip (1024 - (V + 1)) (V + 1) s (by omega) (by omega) (fun u g1 g2 g3 => by
          have : u &&& F ≤ F := Nat.and_le_right
          omega) hI
        rw [show V + 1 + (1024 - (V + 1)) = 1024 by omega] at this
        exact this
      · have n := nxt 10 F V hF hV c
        have n4 : (V + (2 ^ 10 - F)) &&& F ≤ F := Nat.and_le_right
        rw [show (2 : Nat) ^ 10 = 1024 from rfl] at n n4
        obtain ⟨n1, n2, n3⟩ := n
        generalize (V + (1024 - F)) &&& F = V' at n1 n2 n3 n4 ⊢
        refine hs (d + 1) s V' (by omega) (by omega) n2 ?_ (fun s' h' => ?_)
        · have := skip (V' - (V + 1)) (V + 1) s (by omega) (by omega) (fun u g1 g2 => n3 u (by omega) (by omega)) hI
          rw [show V + 1 + (V' - (V + 1)) = V' by omega] at this
          exact this
        · rw [sub_step (by omega) hF]
          exact ih V' n2 (by omega) (by omega) s' h'
  refine ⟨1024 + 1, ?_⟩
  have e : nI F &&& (-(nI F)) = nI ((0 + (1024 - F)) &&& F) := by
    have := sub_step (V := 0) (F := F) (by decide) hF
    rw [show (nI 0 - nI F : Int32) = -(nI F) by rw [nI_0]; grind] at this
    rw [← this]
    exact Int32.and_comm _ _
  rw [e]
  exact key 1024 0 (Nat.zero_and F) (by decide) (by decide) s h
end NXT
