section
/-! THE REFERENCE IS SAFE: what always holds of its numbers (rOk), and that every call ends and keeps it; of answers nothing is said here -/
/-- where what is told lies, and the counts -/
def rPr (k j : Nat) : Prop := (k = 0 ∧ (j = 1 ∨ j = 2)) ∨ (k = 1 ∧ j = 2) ∨ (k = 2 ∧ j = 2) ∨ (k = 3 ∧ j = 2) ∨ (7 ≤ k ∧ k < 47)
def rPr0 (k j : Nat) : Prop := (k = 0 ∧ j = 1) ∨ (k = 1 ∧ j = 2) ∨ (k = 2 ∧ j = 2) ∨ (k = 3 ∧ j = 2) ∨ (13 ≤ k ∧ k < 23 ∧ j = 2) ∨ (33 ≤ k ∧ k < 47 ∧ j ≤ 2) ∨ k = 9
def rOk0 (Γ : RG) (σ : MS) : Prop := Γ.1 ≤ 10 ∧ Γ.2.1 ≤ 6 ∧ Γ.2.2.1 ≤ 14 ∧ σ 1 2 = nI Γ.1 ∧ σ 2 2 = nI Γ.2.1 ∧ σ 3 2 = nI Γ.2.2.1 ∧ (∃ T, T ≤ 365 ∧ σ 0 1 = nI T) ∧ (∀ s, s < 16 → ∃ m, 2 ≤ m ∧ m ≤ 9 ∧ σ 9 s = nI m) ∧
  (∀ p, p < Γ.1 → ∃ t, t < 6 ∧ σ (13 + p) 2 = nI t) ∧ ∀ w, w < Γ.2.2.1 → (∃ b, b < Γ.2.1 ∧ σ (33 + w) 0 = nI b) ∧ (∃ d, d ≤ 365 ∧ σ (33 + w) 1 = nI d) ∧ ∃ t, t < 6 ∧ σ (33 + w) 2 = nI t
/-- what is told: today, the cash, songs, how often they were played, roads and drives, players, their days off, weddings -/
def rTd (Γ : RG) (k j : Nat) : Prop := (k = 0 ∧ (j = 1 ∨ j = 2)) ∨ ((k = 7 ∨ k = 8 ∨ k = 9 ∨ k = 10) ∧ j < 16) ∨ ((k = 11 ∨ k = 12) ∧ j < 36) ∨ (13 ≤ k ∧ k < 13 + Γ.1 ∧ j < 6) ∨ (23 ≤ k ∧ k < 23 + Γ.1 ∧ j < 366) ∨ (33 ≤ k ∧ k < 33 + Γ.2.2.1 ∧ k < 47 ∧ j < 12)
/-- what always holds; T says what was told -/
def rOk (T : MS) (Γ : RG) (σ : MS) : Prop := rOk0 Γ σ ∧ ∀ k j, rTd Γ k j → σ k j = T k j
section RSAFE
variable {T : MS} {Γ : RG} {σ τ : MS} {a a0 a1 a2 a3 a4 : Int32}
theorem rOk.hP (h : rOk T Γ σ) : Γ.1 ≤ 10 := h.1.1
theorem rOk.hB (h : rOk T Γ σ) : Γ.2.1 ≤ 6 := h.1.2.1
theorem rOk.hW (h : rOk T Γ σ) : Γ.2.2.1 ≤ 14 := h.1.2.2.1
theorem rOk.p (h : rOk T Γ σ) : σ 1 2 = nI Γ.1 := h.1.2.2.2.1
theorem rOk.b (h : rOk T Γ σ) : σ 2 2 = nI Γ.2.1 := h.1.2.2.2.2.1
theorem rOk.w (h : rOk T Γ σ) : σ 3 2 = nI Γ.2.2.1 := h.1.2.2.2.2.2.1
theorem rOk.t (h : rOk T Γ σ) : ∃ T, T ≤ 365 ∧ σ 0 1 = nI T := h.1.2.2.2.2.2.2.1
theorem rOk.min (h : rOk T Γ σ) {s : Nat} (hs : s < 16) : ∃ m, 2 ≤ m ∧ m ≤ 9 ∧ σ 9 s = nI m := h.1.2.2.2.2.2.2.2.1 s hs
theorem rOk.home (h : rOk T Γ σ) {p : Nat} (hp : p < Γ.1) : ∃ t, t < 6 ∧ σ (13 + p) 2 = nI t := h.1.2.2.2.2.2.2.2.2.1 p hp
theorem rOk.band (h : rOk T Γ σ) {w : Nat} (hw : w < Γ.2.2.1) : ∃ b, b < Γ.2.1 ∧ σ (33 + w) 0 = nI b := (h.1.2.2.2.2.2.2.2.2.2 w hw).1
theorem rOk.day (h : rOk T Γ σ) {w : Nat} (hw : w < Γ.2.2.1) : ∃ d, d ≤ 365 ∧ σ (33 + w) 1 = nI d := (h.1.2.2.2.2.2.2.2.2.2 w hw).2.1
theorem rOk.town (h : rOk T Γ σ) {w : Nat} (hw : w < Γ.2.2.1) : ∃ t, t < 6 ∧ σ (33 + w) 2 = nI t := (h.1.2.2.2.2.2.2.2.2.2 w hw).2.2
theorem rOk.tld (h : rOk T Γ σ) {k j : Nat} (hk : rTd Γ k j) : σ k j = T k j := h.2 k j hk
theorem rTd.pr {k j : Nat} (h : rTd Γ k j) (hP : Γ.1 ≤ 10) : rPr k j := by
  unfold rTd at h
  unfold rPr
  omega
theorem rOk0.same (h : rOk0 Γ σ) (e : ∀ k j, rPr0 k j → τ k j = σ k j) : rOk0 Γ τ := by
  obtain ⟨h1, h2, h3, h4, h5, h6, h7, h0, h8, h9⟩ := h
  refine ⟨h1, h2, h3, by rw [e 1 2 (by unfold rPr0; omega)]; exact h4, by rw [e 2 2 (by unfold rPr0; omega)]; exact h5, by rw [e 3 2 (by unfold rPr0; omega)]; exact h6, by rw [e 0 1 (by unfold rPr0; omega)]; exact h7, fun s hs => by rw [e 9 s (by unfold rPr0; omega)]; exact h0 s hs, fun p hp => ?_, fun w hw => ?_⟩
  · rw [e (13 + p) 2 (by unfold rPr0; omega)]
    exact h8 p hp
  · rw [e (33 + w) 0 (by unfold rPr0; omega), e (33 + w) 1 (by unfold rPr0; omega), e (33 + w) 2 (by unfold rPr0; omega)]
    exact h9 w hw
theorem rOk.same (h : rOk T Γ σ) (e : ∀ k j, rPr k j → τ k j = σ k j) : rOk T Γ τ :=
  ⟨h.1.same (fun k j hk => e k j (by unfold rPr0 at hk; unfold rPr; omega)), fun k j hk => (e k j (hk.pr h.1.1)).trans (h.2 k j hk)⟩
theorem rOk.reT {T' : MS} (h : rOk T Γ σ) (e : ∀ k j, rTd Γ k j → T' k j = T k j) : rOk T' Γ σ := ⟨h.1, fun k j hk => (h.2 k j hk).trans (e k j hk).symm⟩
theorem up2_off {k j k' j' : Nat} {v : Int32} (h : ¬ (k' = k ∧ j' = j)) : up2 σ k j v k' j' = σ k' j' := up2_at (by omega)
theorem rOk.up {k j : Nat} {v : Int32} (h : rOk T Γ σ) (hk : ¬ rPr k j) : rOk T Γ (up2 σ k j v) := h.same (fun k' j' hp => up2_off (fun z => hk (by obtain ⟨rfl, rfl⟩ := z; exact hp)))
/-- told anew -/
theorem rOk.tel {k j : Nat} {v : Int32} (h : rOk T Γ σ) (hk : ¬ rPr0 k j) : rOk (up2 T k j v) Γ (up2 σ k j v) := by
  refine ⟨h.1.same (fun k' j' hp => up2_off (fun z => hk (by obtain ⟨rfl, rfl⟩ := z; exact hp))), fun k' j' hp => ?_⟩
  by_cases z : k' = k ∧ j' = j
  · obtain ⟨rfl, rfl⟩ := z
    rw [up2_same, up2_same]
  · rw [up2_off z, up2_off z]
    exact h.2 k' j' hp
theorem rOk.setMin {j m : Nat} {v : Int32} (h : rOk T Γ σ) (hm : 2 ≤ m) (hm2 : m ≤ 9) (e : v = nI m) : rOk (up2 T 9 j v) Γ (up2 σ 9 j v) := by
  have ne : ∀ k i, k ≠ 9 → up2 σ 9 j v k i = σ k i := fun k i hk => up2_at (Or.inl hk)
  obtain ⟨⟨h1, h2, h3, h4, h5, h6, h7, h0, h8, h9⟩, ht⟩ := h
  refine ⟨⟨h1, h2, h3, by rw [ne _ _ (by omega)]; exact h4, by rw [ne _ _ (by omega)]; exact h5, by rw [ne _ _ (by omega)]; exact h6, by rw [ne _ _ (by omega)]; exact h7, fun s hs => ?_, fun p hp => by rw [ne _ _ (by omega)]; exact h8 p hp, fun w hw => by rw [ne _ _ (by omega), ne _ _ (by omega), ne _ _ (by omega)]; exact h9 w hw⟩, fun k' j' hp => ?_⟩
  · by_cases z : s = j
    · subst z; rw [up2_same]; exact ⟨m, hm, hm2, e⟩
    · rw [up2_at (Or.inr z)]; exact h0 s hs
  · by_cases z : k' = 9 ∧ j' = j
    · obtain ⟨rfl, rfl⟩ := z
      rw [up2_same, up2_same]
    · rw [up2_off z, up2_off z]
      exact ht k' j' hp
/-- loops whose state goes on under an invariant -/
theorem inv_loop {S : Type} (U : Nat → S → Prop) (I : Nat → S → Prop) (n : Nat) (hz : ∀ s, I n s → U 1 s) (hs : ∀ i k s, i < n → I i s → (∀ s', I (i + 1) s' → U k s') → U (k + 1) s) (i : Nat) (hi : i ≤ n) (s : S) (h : I i s) : ∃ k, U k s := by
  have key : ∀ d i, i + d = n → ∀ s, I i s → U (d + 1) s := by
    intro d
    induction d with
    | zero => intro i hi s h; obtain rfl : i = n := by omega
              exact hz s h
    | succ d ih => intro i hi s h; exact hs i (d + 1) s (by omega) h (fun s' h' => ih (i + 1) (by omega) s' h')
  exact ⟨n - i + 1, key (n - i) i (by omega) s h⟩
theorem nI_prd {n : Nat} (h : 1 ≤ n) : nI n - 1 = nI (n - 1) := by
  have h1 := nI_add (n - 1) 1
  rw [Nat.sub_add_cancel h] at h1
  rw [← h1]
  show nI (n - 1) + nI 1 - 1 = nI (n - 1)
  rw [show nI 1 = 1 from rfl]
  grind
theorem rIs_idx {n : Nat} (hn : n ≤ 400) (h : ¬ rIsF a 0 (nI n - 1) = 0) : ∃ i, i < n ∧ a = nI i := by
  have h1 : ¬ a < 0 := fun c => h (rIsF_0.mpr (Or.inl c))
  have h2 : ¬ nI n - 1 < a := fun c => h (rIsF_0.mpr (Or.inr c))
  obtain ⟨i, hi, rfl⟩ := nI_of h1
  refine ⟨i, ?_, rfl⟩
  rcases Nat.eq_zero_or_pos n with c | c
  · subst c
    exfalso
    refine h2 ?_
    have : (nI 0 - 1 : Int32) = -1 := by decide
    rw [this, Int32.lt_iff_toInt_lt]
    have e1 : (-1 : Int32).toInt = -1 := by decide
    have e2 : 0 ≤ (nI i).toInt := by
      have := Int32.not_lt.mp (nI_pos hi)
      simpa using Int32.le_iff_toInt_le.mp this
    omega
  · rw [nI_prd c] at h2
    rcases Nat.lt_or_ge i n with d | d
    · exact d
    · exact absurd (nI_lt (show n - 1 < i by omega) hi) h2
theorem rIs_rg {lo hi : Nat} (hh : hi < 2 ^ 31) (h : ¬ rIsF a (nI lo) (nI hi) = 0) (hl : lo < 2 ^ 31) : ∃ i, lo ≤ i ∧ i ≤ hi ∧ a = nI i := by
  have h1 : ¬ a < nI lo := fun c => h (rIsF_0.mpr (Or.inl c))
  have h2 : ¬ nI hi < a := fun c => h (rIsF_0.mpr (Or.inr c))
  have h0 : ¬ a < 0 := fun c => h1 (by
    rw [Int32.lt_iff_toInt_lt] at c ⊢
    have e2 : 0 ≤ (nI lo).toInt := by
      have := Int32.not_lt.mp (nI_pos hl)
      simpa using Int32.le_iff_toInt_le.mp this
    have e1 : (0 : Int32).toInt = 0 := by decide
    omega)
  obtain ⟨i, hi', rfl⟩ := nI_of h0
  refine ⟨i, ?_, ?_, rfl⟩
  · rcases Nat.lt_or_ge i lo with c | c
    · exact absurd (nI_lt c hl) h1
    · exact c
  · rcases Nat.lt_or_ge hi i with c | c
    · exact absurd (nI_lt c hi') h2
    · exact c
theorem sf_isPlayer {post : Int32 → MS → Prop} (O : rOk T Γ σ) (h0 : post 0 σ) (h1 : ∀ p r, p < Γ.1 → a = nI p → ¬ r = 0 → post r σ) : w_X11_isPlayer Γ post σ a := by
  refine law_X11_isPlayer ?_
  rw [O.p]
  by_cases c : rIsF a 0 (nI Γ.1 - 1) = 0
  · rw [c]; exact h0
  · obtain ⟨p, hp, e⟩ := rIs_idx (by have := O.hP; omega) c
    exact h1 p _ hp e c
theorem sf_isWedding {post : Int32 → MS → Prop} (O : rOk T Γ σ) (h0 : post 0 σ) (h1 : ∀ w r, w < Γ.2.2.1 → a = nI w → ¬ r = 0 → post r σ) : w_X11_isWedding Γ post σ a := by
  refine law_X11_isWedding ?_
  rw [O.w]
  by_cases c : rIsF a 0 (nI Γ.2.2.1 - 1) = 0
  · rw [c]; exact h0
  · obtain ⟨p, hp, e⟩ := rIs_idx (by have := O.hW; omega) c
    exact h1 p _ hp e c
theorem sf_isBand {post : Int32 → MS → Prop} (O : rOk T Γ σ) (h0 : post 0 σ) (h1 : ∀ b r, b < Γ.2.1 → a = nI b → ¬ r = 0 → post r σ) : w_X11_isBand Γ post σ a := by
  refine law_X11_isBand ?_
  rw [O.b]
  by_cases c : rIsF a 0 (nI Γ.2.1 - 1) = 0
  · rw [c]; exact h0
  · obtain ⟨p, hp, e⟩ := rIs_idx (by have := O.hB; omega) c
    exact h1 p _ hp e c
theorem sf_isTown {post : Int32 → MS → Prop} (h0 : post 0 σ) (h1 : ∀ t r, t < 6 → a = nI t → ¬ r = 0 → post r σ) : w_X11_isTown Γ post σ a := by
  refine law_X11_isTown ?_
  by_cases c : rIsF a 0 5 = 0
  · rw [c]; exact h0
  · obtain ⟨p, -, hp, e⟩ := rIs_rg (lo := 0) (hi := 5) (by decide) c (by decide)
    exact h1 p _ (by omega) e c
theorem sf_isDay {post : Int32 → MS → Prop} (O : rOk T Γ σ) (h0 : post 0 σ) (h1 : ∀ d r, d ≤ 365 → a = nI d → ¬ r = 0 → post r σ) : w_X11_isDay Γ post σ a := by
  refine law_X11_isDay ?_
  obtain ⟨T, hT, eT⟩ := O.t
  rw [eT]
  by_cases c : rIsF a (nI T) 365 = 0
  · rw [c]; exact h0
  · obtain ⟨p, -, hp, e⟩ := rIs_rg (lo := T) (hi := 365) (by decide) c (by omega)
    exact h1 p _ hp e c
theorem sf_areSongs {post : Int32 → MS → Prop} (h : ∀ r, post r σ) : w_X11_areSongs Γ post σ a := law_X11_areSongs (h _)
theorem sf_is {post : Int32 → MS → Prop} (h : ∀ r, post r σ) : w_X11_is Γ post σ a0 a1 a2 := law_X11_is (h _)
theorem sf_isIn {post : Int32 → MS → Prop} (h : ∀ r, post r σ) : w_X11_isIn Γ post σ a0 a1 := ⟨fun _ => h 1, fun _ => h 0⟩
theorem sf_refuse {post : Int32 → MS → Prop} (O : rOk T Γ σ) (h : ∀ r τ, rOk T Γ τ → post r τ) : w_X11_refuse Γ post σ a := law_X11_refuse (h _ _ (O.up (by unfold rPr; omega)))
theorem sf_pget {post : Nat → MS → Prop} {i : Nat} (O : rOk T Γ σ) (hi : i < Γ.1) (e : a = nI i) (h : post i σ) : w_lp_Jx4a65c_get_915e3 Γ post σ a := by
  rw [e]
  exact law_lp_get hi O.hP O.p h
theorem sf_wget {post : Nat → MS → Prop} {i : Nat} (O : rOk T Γ σ) (hi : i < Γ.2.2.1) (e : a = nI i) (h : post i σ) : w_lw_Jx4a65c_get_915e3 Γ post σ a := by
  rw [e]
  exact law_lw_get hi O.hW O.w h
theorem sf_bc {post : Int32 → MS → Prop} (h : ∀ r, post r σ) : w_r_J6_bitCount_0f7a4 Γ post σ a := by
  unfold w_r_J6_bitCount_0f7a4
  intros
  exact h _
theorem nI_le0 {m n : Nat} (h : m ≤ n) (hn : n < 2 ^ 31) : nI m ≤ nI n := by
  rcases Nat.eq_or_lt_of_le h with e | e
  · rw [e]; exact le_self _
  · exact Int32.le_of_lt (nI_lt e hn)
theorem rIs_no {n : Nat} (hn : n ≤ 400) (h : rIsF a 0 (nI n - 1) = 0) : ∀ p, p < n → a ≠ nI p := fun p hp e => by
  rcases rIsF_0.mp h with c | c
  · rw [e] at c; exact nI_pos (by omega) c
  · rw [e, nI_prd (by omega)] at c
    exact Int32.not_lt.mpr (nI_le0 (show p ≤ n - 1 by omega) (by omega)) c
theorem rIs_nor {lo hi : Nat} (hh : hi < 2 ^ 31) (h : rIsF a (nI lo) (nI hi) = 0) : ∀ p, lo ≤ p → p ≤ hi → a ≠ nI p := fun p hp hp2 e => by
  rcases rIsF_0.mp h with c | c
  · rw [e] at c; exact Int32.not_lt.mpr (nI_le0 hp (by omega)) c
  · rw [e] at c; exact Int32.not_lt.mpr (nI_le0 hp2 hh) c
/-- who it is, or that there is none -/
theorem sx_isPlayer {post : Int32 → MS → Prop} (O : rOk T Γ σ) (h0 : (∀ p, p < Γ.1 → a ≠ nI p) → post 0 σ) (h1 : ∀ p r, p < Γ.1 → a = nI p → ¬ r = 0 → post r σ) : w_X11_isPlayer Γ post σ a := by
  refine law_X11_isPlayer ?_
  rw [O.p]
  by_cases c : rIsF a 0 (nI Γ.1 - 1) = 0
  · rw [c]; exact h0 (rIs_no (by have := O.hP; omega) c)
  · obtain ⟨p, hp, e⟩ := rIs_idx (by have := O.hP; omega) c
    exact h1 p _ hp e c
theorem sx_isTown {post : Int32 → MS → Prop} (h0 : (∀ t, t < 6 → a ≠ nI t) → post 0 σ) (h1 : ∀ t r, t < 6 → a = nI t → ¬ r = 0 → post r σ) : w_X11_isTown Γ post σ a := by
  refine law_X11_isTown ?_
  by_cases c : rIsF a 0 5 = 0
  · rw [c]; exact h0 (fun t ht => rIs_nor (lo := 0) (hi := 5) (by decide) c t (by omega) (by omega))
  · obtain ⟨p, -, hp, e⟩ := rIs_rg (lo := 0) (hi := 5) (by decide) c (by decide)
    exact h1 p _ (by omega) e c
theorem sg_iff : rIsF a 0 65535 = 0 ↔ ¬ (0 ≤ a ∧ a < 65536) := by
  rw [rIsF_0]
  simp only [Int32.lt_iff_toInt_lt, Int32.le_iff_toInt_le]
  have e0 : (0 : Int32).toInt = 0 := by decide
  have e4 : (65535 : Int32).toInt = 65535 := by decide
  have e5 : (65536 : Int32).toInt = 65536 := by decide
  omega
theorem sx_bc {post : Int32 → MS → Prop} (h : post (bcI a) σ) : w_r_J6_bitCount_0f7a4 Γ post σ a := by
  unfold w_r_J6_bitCount_0f7a4
  intro y1 h1 y2 h2 y3 h3 y4 h4
  subst h1
  subst h2
  subst h3
  subst h4
  exact h
theorem sx_refuse {post : Int32 → MS → Prop} (O : rOk T Γ σ) (h : ∀ τ, rOk T Γ τ → τ 0 0 = a → post 0 τ) : w_X11_refuse Γ post σ a := law_X11_refuse (h _ (O.up (by unfold rPr; omega)) up2_same)
/-- learn: what it answers, what is told then -/
theorem sf_learn {post : Int32 → MS → Prop} (O : rOk T Γ σ)
    (h1 : (∀ p, p < Γ.1 → a1 ≠ nI p) → ∀ τ, rOk T Γ τ → τ 0 0 = 1 → post 0 τ)
    (h2 : ∀ p, p < Γ.1 → a1 = nI p → ¬ (0 ≤ a2 ∧ a2 < 65536) → ∀ τ, rOk T Γ τ → τ 0 0 = 2 → post 0 τ)
    (h3 : ∀ p, p < Γ.1 → a1 = nI p → 0 ≤ a2 ∧ a2 < 65536 → ∀ τ, rOk (up2 T (13 + p) 1 (T (13 + p) 1 ||| a2)) Γ τ → τ 0 0 = 0 → post (bcI (T (13 + p) 1 ||| a2)) τ) : w_X11_learn Γ post σ a1 a2 := by
  unfold w_X11_learn
  have hP := O.hP
  have O := O.up (k := 0) (j := 0) (v := 0) (by unfold rPr; omega)
  refine sx_isPlayer O (fun no => ⟨fun _ => sx_refuse O (h1 no), fun c => absurd rfl c⟩) (fun p r hp e hr => ⟨fun c => absurd c hr, fun _ => law_X11_areSongs ⟨fun c => sx_refuse O (h2 p hp e (sg_iff.mp c)), fun c => ?_⟩⟩)
  have ok : 0 ≤ a2 ∧ a2 < 65536 := Decidable.byContradiction fun z => c (sg_iff.mpr z)
  refine sf_pget O hp e ⟨⟨by omega, hp⟩, ?_⟩
  have eT : (up2 σ 0 0 0) (13 + p) 1 = T (13 + p) 1 := O.tld (by unfold rTd; omega)
  have O2 := O.tel (k := 13 + p) (j := 1) (v := (up2 σ 0 0 0) (13 + p) 1 ||| a2) (by unfold rPr0; omega)
  refine sf_pget O2 hp e ⟨⟨by omega, hp⟩, sx_bc ?_⟩
  rw [eT] at O2 ⊢
  rw [up2_same]
  exact h3 p hp e ok _ O2 (by rw [up2_off (by omega), up2_same])
/-- a song told -/
def sgT (T : MS) (s : Nat) (k e m : Int32) : MS := up2 (up2 (up2 T 7 s k) 8 s e) 9 s m
def sgOkR (k e m : Int32) : Prop := ¬ rIsF k 0 11 = 0 ∧ ¬ rIsF e 0 9 = 0 ∧ ¬ rIsF m 2 9 = 0
theorem sf_song {post : Int32 → MS → Prop} (O : rOk T Γ σ)
    (h1 : (∀ s, s < 16 → a1 ≠ nI s) → ∀ τ, rOk T Γ τ → τ 0 0 = 1 → post 0 τ)
    (h2 : ∀ s, s < 16 → a1 = nI s → ¬ sgOkR a2 a3 a4 → ∀ τ, rOk T Γ τ → τ 0 0 = 2 → post 0 τ)
    (h3 : ∀ s, s < 16 → a1 = nI s → sgOkR a2 a3 a4 → ∀ τ, rOk (sgT T s a2 a3 a4) Γ τ → τ 0 0 = 0 → post (T 9 s) τ) : w_X11_song Γ post σ a1 a2 a3 a4 := by
  unfold w_X11_song u_X11_song_52
  have O := O.up (k := 0) (j := 0) (v := 0) (by unfold rPr; omega)
  refine law_X11_is ⟨fun c => sx_refuse O (h1 (fun s hs => rIs_nor (lo := 0) (hi := 15) (by decide) c s (by omega) (by omega))), fun c => ?_⟩
  obtain ⟨i, -, hi, e⟩ := rIs_rg (lo := 0) (hi := 15) (by decide) c (by decide)
  have hv : vp_in a1 16 := by rw [e]; exact vp_in_nI (by omega) (by decide)
  have hi : i < 16 := by omega
  refine law_X11_is ⟨fun c => sx_refuse O (h2 i hi e (fun z => z.1 c)), fun c3 => law_X11_is ⟨fun c => sx_refuse O (h2 i hi e (fun z => z.2.1 c)), fun c4 => law_X11_is ⟨fun c => sx_refuse O (h2 i hi e (fun z => z.2.2 c)), fun c2 => ⟨hv, hv, hv, hv, ?_⟩⟩⟩⟩
  obtain ⟨m, hm, hm2, e2⟩ := rIs_rg (lo := 2) (hi := 9) (by decide) c2 (by decide)
  have O2 := ((O.tel (k := 7) (j := i) (v := a2) (by unfold rPr0; omega)).tel (k := 8) (j := i) (v := a3) (by unfold rPr0; omega)).setMin (j := i) hm hm2 e2
  rw [show Int32.toNatClampNeg a1 = i by rw [e, nI_clamp (by omega)], O.tld (k := 9) (j := i) (by unfold rTd; omega)]
  exact h3 i hi e ⟨c3, c4, c2⟩ _ O2 (by rw [up2_off (by omega), up2_off (by omega), up2_off (by omega), up2_same])
end RSAFE
end
section
/-! THE REFERENCE IS SAFE: roads, feuds, who is free, what is known, costs -/
section RSAFE2
variable {T : MS} {Γ : RG} {σ τ : MS} {a a0 a1 a2 a3 a4 : Int32}
theorem ix36 {i j : Nat} (hi : i < 6) (hj : j < 6) : vp_in (nI i * 6 + nI j) 36 := by
  rw [show (nI i * 6 + nI j : Int32) = nI (i * 6 + j) from by rw [show (6 : Int32) = nI 6 from rfl, ← nI_add]; congr 1; exact (Int32.ofNat_mul i 6).symm]
  exact vp_in_nI (by omega) (by decide)
theorem sf_driveOf {post : Int32 → MS → Prop} (h1 : ∃ t, t < 6 ∧ a1 = nI t) (h2 : ∃ t, t < 6 ∧ a2 = nI t) (h : ∀ r, post r σ) : w_X11_driveOf Γ post σ a1 a2 := by
  obtain ⟨i, hi, rfl⟩ := h1
  obtain ⟨j, hj, rfl⟩ := h2
  exact ⟨ix36 hi hj, h _⟩
/-- what is told but for the drives, which are as they are -/
def w12 (T τ : MS) : MS := fun k j => if k = 12 then τ 12 j else T k j
def rO12 (T : MS) (z0 : Int32) (Γ : RG) (τ : MS) : Prop := rOk (w12 T τ) Γ τ ∧ τ 0 0 = z0
theorem rO12.of {z0 : Int32} (h : rOk T Γ σ) (hz : σ 0 0 = z0) : rO12 T z0 Γ σ := ⟨h.reT (fun k j hk => by
  unfold w12
  by_cases z : k = 12
  · rw [if_pos z]; subst z; exact h.2 12 j hk
  · rw [if_neg z]), hz⟩
theorem rO12.up {z0 : Int32} {j : Nat} {v : Int32} (h : rO12 T z0 Γ σ) : rO12 T z0 Γ (up2 σ 12 j v) := by
  have h2 := rOk.tel (k := 12) (j := j) (v := v) h.1 (by unfold rPr0; omega)
  refine ⟨h2.reT (fun k i hk => ?_), (up2_off (by omega)).trans h.2⟩
  unfold w12
  by_cases z : k = 12
  · rw [if_pos z]
    subst z
    by_cases y : i = j
    · subst y; rw [up2_same, up2_same]
    · rw [up2_off (by omega), up2_off (by omega), if_pos rfl]
  · rw [if_neg z, up2_off (by omega), if_neg z]
/-- the class's roads and ways, and the reference's -/
def Wy (y τ : MS) : Prop := ∀ a b, a < 6 → b < 6 → τ 12 (a * 6 + b) = y (23 + a) b ∧ τ 11 (a * 6 + b) = y (17 + a) b
theorem x6 {i j : Nat} (hi : i < 6) (hj : j < 6) : Int32.toNatClampNeg (nI i * 6 + nI j) = i * 6 + j := by
  rw [show (nI i * 6 + nI j : Int32) = nI (i * 6 + j) from by rw [show (6 : Int32) = nI 6 from rfl, ← nI_add]; congr 1; exact (Int32.ofNat_mul i 6).symm]
  exact nI_clamp (by omega)
theorem Wy.up {y : MS} {a b : Nat} {v : Int32} (h : Wy y τ) (ha : a < 6) (hb : b < 6) : Wy (up2 y (23 + a) b v) (up2 τ 12 (a * 6 + b) v) := fun c d hc hd => by
  constructor
  · by_cases z : c = a ∧ d = b
    · obtain ⟨rfl, rfl⟩ := z
      rw [up2_same, up2_same]
    · rw [up2_off (by omega), up2_off (by omega)]
      exact (h c d hc hd).1
  · rw [up2_off (by omega), up2_off (by omega)]
    exact (h c d hc hd).2
theorem sf_drive {post : MS → Prop} {x : MS} {z0 : Int32} (O : rO12 T z0 Γ σ) (hw : Wy x σ) (h : ∀ τ, rO12 T z0 Γ τ → Wy (ovS (lyA x 6) 6) τ → post τ) : w_X11_drive Γ post σ := by
  -- the relaxing
  have h95 : ∀ (K79 : MS → Int32 → Prop) (K87 : MS → Int32 → Int32 → Prop) (y : MS) (o i : Nat), o < 6 → i < 6 → (∀ τ, rO12 T z0 Γ τ → Wy (shA y o i 6) τ → K87 τ (nI o) (nI i + 1)) → ∀ τ, rO12 T z0 Γ τ → Wy y τ → ∃ k, u_X11_drive_95 Γ post K79 K87 k τ (nI o) (nI i) 0 := by
    intro K79 K87 y o i ho hi hK τ O hw
    refine inv_loop (fun k (q : MS × Int32) => u_X11_drive_95 Γ post K79 K87 k q.1 (nI o) (nI i) q.2) (fun j q => rO12 T z0 Γ q.1 ∧ Wy (shA y o i j) q.1 ∧ q.2 = nI j) 6 ?_ ?_ 0 (by omega) (τ, 0) ⟨O, hw, nI_0.symm⟩
    · rintro ⟨τ, v⟩ ⟨O, hw, rfl⟩
      show u_X11_drive_95 Γ post K79 K87 1 τ (nI o) (nI i) (nI 6)
      rw [u_X11_drive_95]
      exact ⟨fun _ => hK τ O hw, fun c => absurd (le_self (nI 6)) c⟩
    · rintro j k ⟨τ, v⟩ hj ⟨O, hw, rfl⟩ ih
      have nx : ∀ τ', rO12 T z0 Γ τ' → Wy (shB (shA y o i j) o i j) τ' → u_X11_drive_95 Γ post K79 K87 k τ' (nI o) (nI i) (nI j + 1) := fun τ' O' hw' => by rw [nI_1]; exact ih (τ', nI (j + 1)) ⟨O', hw', rfl⟩
      dsimp only at O hw
      generalize shA y o i j = z at hw nx
      show u_X11_drive_95 Γ post K79 K87 (k + 1) τ (nI o) (nI i) (nI j)
      rw [u_X11_drive_95]
      unfold u_X11_drive_168
      rw [x6 hi ho, x6 ho hj, x6 hi hj, (hw i o hi ho).1, (hw o j ho hj).1, (hw i j hi hj).1]
      unfold shB at nx
      have set : ∀ v : Int32, Wy (up2 z (23 + i) j v) (up2 τ 12 (i * 6 + j) v) := fun v => hw.up hi hj
      have keep : Wy (up2 z (23 + i) j (z (23 + i) j)) τ := fun c d hc hd => by
        constructor
        · by_cases q : c = i ∧ d = j
          · obtain ⟨rfl, rfl⟩ := q
            rw [up2_same]; exact (hw c d hc hd).1
          · rw [up2_off (by omega)]; exact (hw c d hc hd).1
        · rw [up2_off (by omega)]; exact (hw c d hc hd).2
      refine ⟨fun c => absurd (show nI 6 ≤ nI j from c) (nI_ge hj (by decide)), fun _ => ⟨ix36 hi ho, ix36 ho hj, ix36 hi hj, fun c1 => nx τ O (by rw [if_pos (Or.inl c1)]; exact hw), fun c1 => ⟨fun c2 => nx τ O (by rw [if_pos (Or.inr c2)]; exact hw), fun c2 => ⟨fun c3 => ⟨ix36 hi hj, nx _ O.up ?_⟩, fun c3 => ⟨fun c4 => nx τ O ?_, fun c4 => ⟨ix36 hi hj, nx _ O.up ?_⟩⟩⟩⟩⟩⟩
      · rw [if_neg (fun q => q.elim c1 c2), if_pos c3]; exact set _
      · rw [if_neg (fun q => q.elim c1 c2), if_neg c3, if_neg (fun q => absurd c4 (Int32.not_le.mpr q))]; exact keep
      · rw [if_neg (fun q => q.elim c1 c2), if_neg c3, if_pos (Int32.not_le.mp c4)]; exact set _
  have h87 : ∀ (K79 : MS → Int32 → Prop) (y : MS) (o : Nat), o < 6 → (∀ τ, rO12 T z0 Γ τ → Wy (shO y o 6) τ → K79 τ (nI o + 1)) → ∀ τ, rO12 T z0 Γ τ → Wy y τ → ∃ k, u_X11_drive_87 Γ post K79 k τ (nI o) 0 := by
    intro K79 y o ho hK τ O hw
    refine inv_loop (fun k (q : MS × Int32) => u_X11_drive_87 Γ post K79 k q.1 (nI o) q.2) (fun j q => rO12 T z0 Γ q.1 ∧ Wy (shO y o j) q.1 ∧ q.2 = nI j) 6 ?_ ?_ 0 (by omega) (τ, 0) ⟨O, hw, nI_0.symm⟩
    · rintro ⟨τ, v⟩ ⟨O, hw, rfl⟩
      show u_X11_drive_87 Γ post K79 1 τ (nI o) (nI 6)
      rw [u_X11_drive_87]
      exact ⟨fun _ => hK τ O hw, fun c => absurd (le_self (nI 6)) c⟩
    · rintro j k ⟨τ, v⟩ hj ⟨O, hw, rfl⟩ ih
      show u_X11_drive_87 Γ post K79 (k + 1) τ (nI o) (nI j)
      rw [u_X11_drive_87]
      refine ⟨fun c => absurd (show nI 6 ≤ nI j from c) (nI_ge hj (by decide)), fun _ => h95 _ _ _ o j ho hj (fun τ' O' hw' => ?_) τ O hw⟩
      rw [nI_1]
      exact ih (τ', nI (j + 1)) ⟨O', hw', rfl⟩
  have h79 : ∀ (y : MS), (∀ τ, rO12 T z0 Γ τ → Wy (ovS y 6) τ → post τ) → ∀ τ, rO12 T z0 Γ τ → Wy y τ → ∃ k, u_X11_drive_79 Γ post k τ 0 := by
    intro y h τ O hw
    refine inv_loop (fun k (q : MS × Int32) => u_X11_drive_79 Γ post k q.1 q.2) (fun j q => rO12 T z0 Γ q.1 ∧ Wy (ovS y j) q.1 ∧ q.2 = nI j) 6 ?_ ?_ 0 (by omega) (τ, 0) ⟨O, hw, nI_0.symm⟩
    · rintro ⟨τ, v⟩ ⟨O, hw, rfl⟩
      show u_X11_drive_79 Γ post 1 τ (nI 6)
      rw [u_X11_drive_79]
      exact ⟨fun _ => h τ O hw, fun c => absurd (le_self (nI 6)) c⟩
    · rintro j k ⟨τ, v⟩ hj ⟨O, hw, rfl⟩ ih
      show u_X11_drive_79 Γ post (k + 1) τ (nI j)
      rw [u_X11_drive_79]
      refine ⟨fun c => absurd (show nI 6 ≤ nI j from c) (nI_ge hj (by decide)), fun _ => h87 _ _ j hj (fun τ' O' hw' => ?_) τ O hw⟩
      rw [nI_1]
      exact ih (τ', nI (j + 1)) ⟨O', hw', rfl⟩
  have h10 : ∀ (K2 : MS → Int32 → Prop) (y : MS) (o : Nat), o < 6 → (∀ τ, rO12 T z0 Γ τ → Wy (lyB y o 6) τ → K2 τ (nI o + 1)) → ∀ τ, rO12 T z0 Γ τ → Wy y τ → ∃ k, u_X11_drive_10 Γ post K2 k τ (nI o) 0 := by
    intro K2 y o ho hK τ O hw
    refine inv_loop (fun k (q : MS × Int32) => u_X11_drive_10 Γ post K2 k q.1 (nI o) q.2) (fun j q => rO12 T z0 Γ q.1 ∧ Wy (lyB y o j) q.1 ∧ q.2 = nI j) 6 ?_ ?_ 0 (by omega) (τ, 0) ⟨O, hw, nI_0.symm⟩
    · rintro ⟨τ, v⟩ ⟨O, hw, rfl⟩
      show u_X11_drive_10 Γ post K2 1 τ (nI o) (nI 6)
      rw [u_X11_drive_10]
      exact ⟨fun _ => hK τ O hw, fun c => absurd (le_self (nI 6)) c⟩
    · rintro j k ⟨τ, v⟩ hj ⟨O, hw, rfl⟩ ih
      have nx : ∀ τ', rO12 T z0 Γ τ' → Wy (up2 (lyB y o j) (23 + o) j (lyV (lyB y o j) o j)) τ' → u_X11_drive_10 Γ post K2 k τ' (nI o) (nI j + 1) := fun τ' O' hw' => by rw [nI_1]; exact ih (τ', nI (j + 1)) ⟨O', hw', rfl⟩
      dsimp only at O hw
      generalize lyB y o j = z at hw nx
      have hx := ix36 ho hj
      show u_X11_drive_10 Γ post K2 (k + 1) τ (nI o) (nI j)
      rw [u_X11_drive_10, x6 ho hj, (hw o j ho hj).2]
      unfold lyV at nx
      have set : ∀ v : Int32, Wy (up2 z (23 + o) j v) (up2 τ 12 (o * 6 + j) v) := fun v => hw.up ho hj
      refine ⟨fun c => absurd (show nI 6 ≤ nI j from c) (nI_ge hj (by decide)), fun _ => ⟨fun c => ⟨hx, nx _ O.up ?_⟩, fun c => ⟨hx, fun d => ⟨hx, nx _ O.up ?_⟩, fun d => ⟨hx, hx, nx _ O.up ?_⟩⟩⟩⟩
      · rw [if_pos ((nI_eq (by omega) (by omega)).mp c)]; exact set _
      · rw [if_neg (fun q => c (by rw [q])), if_pos d]; exact set _
      · rw [if_neg (fun q => c (by rw [q])), if_neg d]; exact set _
  unfold w_X11_drive
  refine inv_loop (fun k (q : MS × Int32) => u_X11_drive_2 Γ post k q.1 q.2) (fun j q => rO12 T z0 Γ q.1 ∧ Wy (lyA x j) q.1 ∧ q.2 = nI j) 6 ?_ ?_ 0 (by omega) (σ, 0) ⟨O, hw, nI_0.symm⟩
  · rintro ⟨τ, v⟩ ⟨O, hw, rfl⟩
    show u_X11_drive_2 Γ post 1 τ (nI 6)
    rw [u_X11_drive_2]
    exact ⟨fun _ => h79 _ h τ O hw, fun c => absurd (le_self (nI 6)) c⟩
  · rintro j k ⟨τ, v⟩ hj ⟨O, hw, rfl⟩ ih
    show u_X11_drive_2 Γ post (k + 1) τ (nI j)
    rw [u_X11_drive_2]
    refine ⟨fun c => absurd (show nI 6 ≤ nI j from c) (nI_ge hj (by decide)), fun _ => h10 _ _ j hj (fun τ' O' hw' => ?_) τ O hw⟩
    rw [nI_1]
    exact ih (τ', nI (j + 1)) ⟨O', hw', rfl⟩
/-- road: the class's roads x say what it answers -/
def rdT (T : MS) (i j : Nat) (h : Int32) : MS := up2 (up2 T 11 (i * 6 + j) h) 11 (j * 6 + i) h
theorem sf_road {post : Int32 → MS → Prop} {x : MS} (O : rOk T Γ σ) (hw : Wy x σ)
    (h1 : ((∀ t, t < 6 → a1 ≠ nI t) ∨ (∀ t, t < 6 → a2 ≠ nI t)) → ∀ τ, rOk T Γ τ → τ 0 0 = 1 → post 0 τ)
    (h2 : ∀ i j, i < 6 → j < 6 → a1 = nI i → a2 = nI j → (i = j ∨ rIsF a3 0 9 = 0) → ∀ τ, rOk T Γ τ → τ 0 0 = 2 → post 0 τ)
    (h3 : ∀ i j, i < 6 → j < 6 → a1 = nI i → a2 = nI j → i ≠ j → ¬ rIsF a3 0 9 = 0 → ∀ τ, rO12 (rdT T i j a3) 0 Γ τ → Wy (layS x i j a3) τ → post (layS x i j a3 (23 + i) j) τ) : w_X11_road Γ post σ a1 a2 a3 := by
  unfold w_X11_road u_X11_road_19 u_X11_road_40
  have O := O.up (k := 0) (j := 0) (v := 0) (by unfold rPr; omega)
  refine sx_isTown (fun no => ⟨fun _ => sx_refuse O (h1 (Or.inl no)), fun c => absurd rfl c⟩) (fun i r hi e hr => ⟨fun c => absurd c hr, fun _ => sx_isTown (fun no => ⟨fun _ => sx_refuse O (h1 (Or.inr no)), fun c => absurd rfl c⟩) (fun j r2 hj e2 hr2 => ⟨fun c => absurd c hr2, fun _ => ⟨fun c => sx_refuse O (h2 i j hi hj e e2 (Or.inl ?_)), fun c => law_X11_is ⟨fun d => sx_refuse O (h2 i j hi hj e e2 (Or.inr d)), fun d => ?_⟩⟩⟩)⟩)
  · rw [e, e2] at c
    exact (nI_eq (by omega) (by omega)).mp c
  subst e
  subst e2
  have hij : i ≠ j := fun z => c (by rw [z])
  refine ⟨ix36 hi hj, ix36 hj hi, ?_⟩
  rw [x6 hi hj, x6 hj hi]
  have O2 := (O.tel (k := 11) (j := i * 6 + j) (v := a3) (by unfold rPr0; omega)).tel (k := 11) (j := j * 6 + i) (v := a3) (by unfold rPr0; omega)
  have hw2 : Wy (up2 (up2 x (17 + i) j a3) (17 + j) i a3) (up2 (up2 (up2 σ 0 0 0) 11 (i * 6 + j) a3) 11 (j * 6 + i) a3) := fun c d hc hd => by
    constructor
    · rw [up2_off (by omega), up2_off (by omega), up2_off (by omega), up2_off (by omega), up2_off (by omega)]
      exact (hw c d hc hd).1
    · by_cases q1 : c = j ∧ d = i
      · obtain ⟨rfl, rfl⟩ := q1
        rw [up2_same, up2_same]
      · rw [up2_off (by omega), up2_off (σ := up2 x (17 + i) j a3) (by omega)]
        by_cases q2 : c = i ∧ d = j
        · obtain ⟨rfl, rfl⟩ := q2
          rw [up2_same, up2_same]
        · rw [up2_off (by omega), up2_off (by omega), up2_off (by omega)]
          exact (hw c d hc hd).2
  refine sf_drive (z0 := 0) (rO12.of O2 (by rw [up2_off (by omega), up2_off (by omega), up2_same])) hw2 (fun τ O' hw' => ⟨ix36 hi hj, ?_⟩)
  rw [x6 hi hj, (hw' i j hi hj).1]
  exact h3 i j hi hj rfl rfl hij d τ O' hw'
theorem sf_isIn01 {post : Int32 → MS → Prop} (h0 : post 0 σ) (h1 : post 1 σ) : w_X11_isIn Γ post σ a0 a1 := ⟨fun _ => h1, fun _ => h0⟩
theorem b_one {p i : Nat} (hp : p < 32) (hi : i < 32) : bt (one p) i = decide (i = p) := by
  have h1 : ∀ i, bt 1 i = decide (i = 0) := fun i => by
    rcases Nat.lt_or_ge i 32 with h | h
    · exact (by decide +kernel : ∀ i, i < 32 → bt 1 i = decide (i = 0)) i h
    · rw [b_big h, decide_eq_false (by omega)]
  unfold one
  rw [b_shl p hp 1 hi, h1]
  by_cases c : i = p
  · subst c
    simp
  · rw [decide_eq_false c]
    by_cases d : p ≤ i
    · rw [decide_eq_false (show ¬ i - p = 0 by omega), Bool.and_false]
    · rw [decide_eq_false d, Bool.false_and]
theorem b_cmp {x : Int32} {i : Nat} (hi : i < 32) : bt (x ^^^ (-1)) i = !bt x i := by rw [b_xor, b_m1 i hi]; cases bt x i <;> rfl
/-- a feud told or ended in one's row -/
def fdV (f : Int32) (q : Nat) (c : Int32) : Int32 := if c = 0 then f &&& (one q ^^^ (-1)) else f ||| one q
theorem fdV_bt {f c : Int32} {q i : Nat} (hq : q < 32) (hi : i < 32) : bt (fdV f q c) i = if i = q then !decide (c = 0) else bt f i := by
  unfold fdV
  by_cases z : c = 0
  · rw [if_pos z, b_and, b_cmp hi, b_one hq hi]
    by_cases y : i = q
    · rw [if_pos y, decide_eq_true y, decide_eq_true z]; cases bt f i <;> rfl
    · rw [if_neg y, decide_eq_false y, Bool.not_false, Bool.and_true]
  · rw [if_neg z, b_or, b_one hq hi]
    by_cases y : i = q
    · rw [if_pos y, decide_eq_true y, decide_eq_false z]; cases bt f i <;> rfl
    · rw [if_neg y, decide_eq_false y, Bool.or_false]
theorem fdV_xor {f c : Int32} {q : Nat} (hq : q < 32) (h : bt f q = decide (c = 0)) : f ^^^ one q = fdV f q c := b_ext fun i hi => by
  rw [fdV_bt hq hi, b_xor, b_one hq hi]
  by_cases y : i = q
  · subst y
    rw [if_pos rfl, decide_eq_true rfl, h, Bool.xor_true]
  · rw [if_neg y, decide_eq_false y, Bool.xor_false]
theorem fdV_id {f c : Int32} {q : Nat} (hq : q < 32) (h : bt f q = !decide (c = 0)) : fdV f q c = f := b_ext fun i hi => by
  rw [fdV_bt hq hi]
  by_cases y : i = q
  · subst y
    rw [if_pos rfl, h]
  · rw [if_neg y]
theorem sx_isIn {post : Int32 → MS → Prop} {s : Int32} {p : Nat} (hp : p < 32) (h : post (b01 (bt s p)) σ) : w_X11_isIn Γ post σ s (nI p) := by
  have e : bt (s >>> (nI p &&& 31)) 0 = bt s p := by rw [b_sshr p hp s (by decide), Nat.add_zero, if_pos hp]
  have h1 : bt 1 0 = true := by decide +kernel
  unfold w_X11_isIn
  refine ⟨fun c => ?_, fun c => ?_⟩
  · have : bt s p = true := by
      have c2 := congrArg (fun y => bt y 0) c
      simp only [b_and, e, h1] at c2
      simpa using c2
    rw [this] at h; exact h
  · have : bt s p = false := by
      cases q : bt s p with
      | false => rfl
      | true =>
        exfalso
        refine c (b_ext fun i hi => ?_)
        rw [b_and]
        by_cases z : i = 0
        · subst z; rw [e, q, h1]; rfl
        · rw [(by decide +kernel : ∀ i, i < 32 → i ≠ 0 → bt 1 i = false) i hi z, Bool.and_false]
    rw [this] at h; exact h
def fedT (T : MS) (p q : Nat) (c : Int32) : MS := up2 (up2 T (13 + p) 4 (fdV (T (13 + p) 4) q c)) (13 + q) 4 (fdV (T (13 + q) 4) p c)
theorem sf_feud {post : Int32 → MS → Prop} (O : rOk T Γ σ)
    (h1 : ((∀ p, p < Γ.1 → a1 ≠ nI p) ∨ (∀ p, p < Γ.1 → a2 ≠ nI p)) → ∀ τ, rOk T Γ τ → τ 0 0 = 1 → post 0 τ)
    (h2 : ∀ p, p < Γ.1 → a1 = nI p → a2 = nI p → ∀ τ, rOk T Γ τ → τ 0 0 = 2 → post 0 τ)
    (h3 : ∀ p q, p < Γ.1 → q < Γ.1 → a1 = nI p → a2 = nI q → p ≠ q → ∀ τ, rOk (fedT T p q a3) Γ τ → τ 0 0 = 0 → post (b01 (bt (T (13 + p) 4) q)) τ) : w_X11_feud Γ post σ a1 a2 a3 := by
  have hP := O.hP
  have no : ∀ {t0 : Int32}, ¬ t0 ≤ 0 → (∀ τ, rOk T Γ τ → τ 0 0 = t0 → post 0 τ) → u_X11_feud_31 Γ post a1 a2 a3 σ t0 := fun {t0} ht h => by
    unfold u_X11_feud_31
    rw [up2_same]
    exact ⟨fun c => absurd c ht, fun _ => h _ (O.up (by unfold rPr; omega)) up2_same⟩
  have bad : ((∀ p, p < Γ.1 → a1 ≠ nI p) ∨ (∀ p, p < Γ.1 → a2 ≠ nI p)) → u_X11_feud_17 Γ post a1 a2 a3 σ := fun z => no (by decide) (h1 z)
  unfold w_X11_feud
  refine sx_isPlayer O (fun n1 => ⟨fun _ => bad (Or.inl n1), fun c => absurd rfl c⟩) (fun p r hp e hr => ⟨fun c => absurd c hr, fun _ => sx_isPlayer O (fun n2 => ⟨fun _ => bad (Or.inr n2), fun c => absurd rfl c⟩) (fun p2 r2 hp2 e2 hr2 => ⟨fun c => absurd c hr2, fun _ => ⟨fun c => ?_, fun c => ?_⟩⟩)⟩)
  · refine no (by decide) (h2 p hp e (c ▸ e))
  have hne : p ≠ p2 := fun z => c (by rw [e, e2, z])
  unfold u_X11_feud_31
  have O := O.up (k := 0) (j := 0) (v := 0) (by unfold rPr; omega)
  refine ⟨fun _ => sf_pget O hp e ⟨⟨by omega, hp⟩, sf_pget O hp2 e2 ⟨⟨by omega, hp2⟩, ?_⟩⟩, fun c => absurd (show (up2 σ 0 0 0) 0 0 ≤ 0 by rw [up2_same]; exact le_self _) c⟩
  have ep : (up2 σ 0 0 0) (13 + p) 4 = T (13 + p) 4 := O.tld (by unfold rTd; omega)
  have eq : (up2 σ 0 0 0) (13 + p2) 4 = T (13 + p2) 4 := O.tld (by unfold rTd; omega)
  have O2 := (O.tel (k := 13 + p) (j := 4) (v := fdV (T (13 + p) 4) p2 a3) (by unfold rPr0; omega)).tel (k := 13 + p2) (j := 4) (v := fdV (T (13 + p2) 4) p a3) (by unfold rPr0; omega)
  have nr : ∀ x : Bool, narrow .boolean (.int (b01 x)) = .int (b01 x) := fun x => by cases x <;> rfl
  rw [ep]
  subst e
  subst e2
  have fin := h3 p p2 hp hp2 rfl rfl hne _ O2 (by rw [up2_off (by omega), up2_off (by omega), up2_same])
  refine sx_isIn (by omega) ⟨fun d => ?_, fun d => ?_⟩
  · unfold u_X11_feud_109
    refine ⟨fun _ => ⟨nr _, ?_⟩, fun d2 => absurd d d2⟩
    rw [up2_off (σ := up2 σ 0 0 0) (by omega), eq, ep]
    unfold fdV at fin
    rw [if_pos d, if_pos d] at fin
    exact fin
  · unfold u_X11_feud_109
    refine ⟨fun d2 => absurd d2 d, fun _ => ⟨nr _, ?_⟩⟩
    rw [up2_off (σ := up2 σ 0 0 0) (by omega), eq, ep]
    unfold fdV at fin
    rw [if_neg d, if_neg d] at fin
    exact fin
/-- loops over players, weddings, where nothing changes: what the turn does with its own numbers -/
theorem pl_loop {S : Type} (O : rOk T Γ σ) (U : Nat → S → Int32 → Prop) (hz : ∀ s, U 1 s (nI Γ.1)) (hs : ∀ i k s, i < Γ.1 → (∀ s', U k s' (nI i + 1)) → U (k + 1) s (nI i)) (s : S) : ∃ k, U k s 0 := by
  have := inv_loop (fun k (q : S × Int32) => U k q.1 q.2) (fun j q => q.2 = nI j) Γ.1 (by rintro ⟨s, v⟩ rfl; exact hz s) (by rintro j k ⟨s, v⟩ hj rfl ih; exact hs j k s hj (fun s' => by rw [nI_1]; exact ih (s', nI (j + 1)) rfl)) 0 (by omega) (s, 0) nI_0.symm
  exact this
theorem wd_loop {S : Type} (O : rOk T Γ σ) (U : Nat → S → Int32 → Prop) (hz : ∀ s, U 1 s (nI Γ.2.2.1)) (hs : ∀ i k s, i < Γ.2.2.1 → (∀ s', U k s' (nI i + 1)) → U (k + 1) s (nI i)) (s : S) : ∃ k, U k s 0 := by
  have := inv_loop (fun k (q : S × Int32) => U k q.1 q.2) (fun j q => q.2 = nI j) Γ.2.2.1 (by rintro ⟨s, v⟩ rfl; exact hz s) (by rintro j k ⟨s, v⟩ hj rfl ih; exact hs j k s hj (fun s' => by rw [nI_1]; exact ih (s', nI (j + 1)) rfl)) 0 (by omega) (s, 0) nI_0.symm
  exact this
theorem sf_isPeaceful {post : Int32 → MS → Prop} (O : rOk T Γ σ) (h : ∀ r, post r σ) : w_X11_isPeaceful Γ post σ a1 := by
  have hP := O.hP
  unfold w_X11_isPeaceful
  refine pl_loop (S := Unit) O (fun k _ v => u_X11_isPeaceful_2 Γ post a1 k σ v) (fun _ => ?_) (fun i k _ hi ih => ?_) ()
  · unfold u_X11_isPeaceful_2 w_lp_Jx4a65c_size_8abf5
    rw [O.p]
    exact ⟨fun _ => h 1, fun c => absurd (le_self _) c⟩
  · unfold u_X11_isPeaceful_2 w_lp_Jx4a65c_size_8abf5
    rw [O.p]
    exact ⟨fun c => absurd c (nI_ge hi (by omega)), fun _ => sf_isIn (fun r => ⟨fun _ => ih (), fun _ => sf_pget O hi rfl ⟨⟨by omega, hi⟩, fun _ => ih (), fun _ => h 0⟩⟩)⟩
theorem sf_isKnown {post : Int32 → MS → Prop} (O : rOk T Γ σ) (h : ∀ r, post r σ) : w_X11_isKnown Γ post σ a1 a2 := by
  have hP := O.hP
  unfold w_X11_isKnown
  refine pl_loop (S := Int32) O (fun k s v => u_X11_isKnown_5 Γ post a1 a2 k σ s v) (fun s => ?_) (fun i k s hi ih => ?_) 0
  · unfold u_X11_isKnown_5 w_lp_Jx4a65c_size_8abf5
    rw [O.p]
    exact ⟨fun _ => ⟨fun _ => h 1, fun _ => ⟨fun _ => sf_bc (fun r => ⟨fun _ => h 1, fun _ => h 0⟩), fun _ => h 0⟩⟩, fun c => absurd (le_self _) c⟩
  · unfold u_X11_isKnown_5 w_lp_Jx4a65c_size_8abf5
    rw [O.p]
    exact ⟨fun c => absurd c (nI_ge hi (by omega)), fun _ => sf_isIn (fun r => ⟨fun _ => ih _, fun _ => sf_pget O hi rfl ⟨⟨by omega, hi⟩, sf_isIn (fun r2 => ⟨fun _ => ih _, fun _ => ih _⟩)⟩⟩)⟩
theorem sf_areKnown {post : Int32 → MS → Prop} (O : rOk T Γ σ) (h : ∀ r, post r σ) : w_X11_areKnown Γ post σ a1 a2 := by
  unfold w_X11_areKnown
  refine up_loop (fun k (v : Int32) => u_X11_areKnown_2 Γ post a1 a2 k σ v) (fun i => nI i) 16 ?_ (fun i k hi ih => ?_)
  · show u_X11_areKnown_2 Γ post a1 a2 1 σ (nI 16)
    unfold u_X11_areKnown_2
    exact ⟨fun _ => h 1, fun c => absurd (le_self (nI 16)) c⟩
  · have ih : u_X11_areKnown_2 Γ post a1 a2 k σ (nI (i + 1)) := ih
    rw [← nI_1 i] at ih
    show u_X11_areKnown_2 Γ post a1 a2 (k + 1) σ (nI i)
    unfold u_X11_areKnown_2
    exact ⟨fun c => absurd (show nI 16 ≤ nI i from c) (nI_ge hi (by decide)), fun _ => sf_isIn (fun r => ⟨fun _ => ih, fun _ => sf_isKnown O (fun r2 => ⟨fun _ => h 0, fun _ => ih⟩)⟩)⟩
theorem sf_cost {post : Int32 → MS → Prop} {p w : Nat} (O : rOk T Γ σ) (hp : p < Γ.1) (e : a1 = nI p) (hw : w < Γ.2.2.1) (h : ∀ r, post r σ) : w_X11_cost Γ post σ a1 w := by
  have hP := O.hP
  unfold w_X11_cost
  exact sf_pget O hp e ⟨⟨by omega, hp⟩, sf_driveOf (O.home hp) (O.town hw) (fun r => ⟨fun _ => h _, fun _ => h _⟩)⟩
theorem sf_costOf {post : Int32 → MS → Prop} {w : Nat} (O : rOk T Γ σ) (hw : w < Γ.2.2.1) (h : ∀ r, post r σ) : w_X11_costOf Γ post σ a1 w := by
  have hP := O.hP
  unfold w_X11_costOf
  refine pl_loop (S := Int32) O (fun k s v => u_X11_costOf_5 Γ post a1 w k σ s v) (fun s => ?_) (fun i k s hi ih => ?_) 0
  · unfold u_X11_costOf_5 w_lp_Jx4a65c_size_8abf5
    rw [O.p]
    exact ⟨fun _ => h _, fun c => absurd (le_self _) c⟩
  · unfold u_X11_costOf_5 w_lp_Jx4a65c_size_8abf5
    rw [O.p]
    exact ⟨fun c => absurd c (nI_ge hi (by omega)), fun _ => sf_isIn (fun r => ⟨fun _ => ih _, fun _ => sf_cost O hi rfl hw (fun r2 => ih _)⟩)⟩
theorem sf_quarters {post : Int32 → MS → Prop} {w : Nat} (h : ∀ r, post r σ) : w_X10_quarters Γ post σ w := fun _ _ => h _
theorem sf_owed {post : Int32 → MS → Prop} {w : Nat} (h : ∀ r, post r σ) : w_X11_owed Γ post σ w := ⟨fun _ => ⟨fun _ => ⟨fun _ => h _, fun _ => h _⟩, fun _ => h _⟩, fun _ => h _⟩
end RSAFE2
end
section
/-! THE REFERENCE IS SAFE: places, who is free, seats, fillings, the best -/
section RSAFE3
variable {Tm : MS} {Γ : RG} {σ τ : MS} {a a0 a1 a2 a3 a4 : Int32}
theorem nx_or (a b : Nat) : nI a ||| nI b = nI (a ||| b) := by
  apply Int32.toBitVec_inj.1
  show BitVec.ofNat 32 a ||| BitVec.ofNat 32 b = BitVec.ofNat 32 (a ||| b)
  apply BitVec.eq_of_getLsbD_eq
  intro i hi
  simp [hi]
theorem sf_lbget {post : Nat → MS → Prop} {i : Nat} (O : rOk Tm Γ σ) (hi : i < Γ.2.1) (e : a = nI i) (h : post i σ) : w_lb_Jx4a65c_get_915e3 Γ post σ a := by
  have hB := O.hB
  have hcl : (nI i).toNatClampNeg = i := nI_clamp (by omega)
  rw [e]
  unfold w_lb_Jx4a65c_get_915e3 w_J15_checkIndex_7cf53 w_J3_checkIndex_8e157 w_lb_Jx4a65c_elementData_915e3
  rw [hcl, O.b]
  exact ⟨fun z => absurd z (nI_pos (by omega)), fun _ => ⟨fun _ => ⟨by omega, vp_in_nI (by omega) (by decide), hi, ⟨hi, h⟩⟩, fun z => absurd (nI_lt hi (by omega)) z⟩⟩
theorem sf_place {post : Int32 → MS → Prop} {w : Nat} (O : rOk Tm Γ σ) (hw : w < Γ.2.2.1) (e : a1 = nI w) (h : ∀ r, post r σ) : w_X11_place Γ post σ a1 := by
  have hW := O.hW
  unfold w_X11_place
  refine sf_wget O hw e ⟨⟨by omega, hw⟩, fun _ => ?_, fun _ => h _⟩
  have := inv_loop (fun k (q : Int32 × Int32) => u_X11_place_26 Γ post a1 k σ w q.1 q.2) (fun j q => q.2 = nI j) w (by
    rintro ⟨s, v⟩ rfl
    show u_X11_place_26 Γ post a1 1 σ w s (nI w)
    unfold u_X11_place_26
    rw [e]
    exact ⟨fun _ => h _, fun c => absurd (le_self _) c⟩) (by
    rintro j k ⟨s, v⟩ hj rfl ih
    have nx : ∀ s', u_X11_place_26 Γ post a1 k σ w s' (nI j + 1) := fun s' => by rw [nI_1]; exact ih (s', nI (j + 1)) rfl
    show u_X11_place_26 Γ post a1 (k + 1) σ w s (nI j)
    unfold u_X11_place_26
    exact ⟨fun c => absurd (e ▸ c) (nI_ge hj (by omega)), fun _ => sf_wget O (by omega) rfl ⟨⟨by omega, by omega⟩, fun _ => ⟨fun _ => ⟨fun _ => nx _, fun _ => nx _⟩, fun _ => nx _⟩, fun _ => nx _⟩⟩) 0 (by omega) (0, 0) nI_0.symm
  exact this
theorem sf_isFree {post : Int32 → MS → Prop} {p w : Nat} (O : rOk Tm Γ σ) (hp : p < Γ.1) (e : a1 = nI p) (hw : w < Γ.2.2.1) (e2 : a2 = nI w) (h : ∀ r, post r σ) : w_X11_isFree Γ post σ a1 a2 := by
  have hW := O.hW
  have hP := O.hP
  unfold w_X11_isFree
  obtain ⟨d, hd, ed⟩ := O.day hw
  refine sf_wget O hw e2 ⟨⟨by omega, hw⟩, sf_pget O hp e ⟨⟨by omega, hp⟩, ?_, fun _ => sf_driveOf (O.home hp) (O.town hw) (fun r => ⟨fun _ => h 0, fun _ => ?_⟩), fun _ => h 0⟩⟩
  · show vp_in (σ (33 + w) 1) 366
    rw [ed]
    exact vp_in_nI (by omega) (by decide)
  · have d189 : ∀ (K : MS → Nat → Int32 → Prop) (v5 : Int32) (v6 v8 t0 : Nat), v6 < Γ.2.2.1 → K σ w (v5 + 1) → u_X11_isFree_189 Γ post a1 a2 K σ w v5 v6 v8 t0 := by
      intro K v5 v6 v8 t0 h6 hK
      unfold u_X11_isFree_189
      exact sf_driveOf (O.town hw) (O.town h6) (fun r => ⟨fun _ => h 0, fun _ => ⟨fun _ => hK, fun _ => h 0⟩⟩)
    have d163 : ∀ (K : MS → Nat → Int32 → Prop) (v5 : Int32) (v6 : Nat) (t0 : Int32), v6 < Γ.2.2.1 → K σ w (v5 + 1) → u_X11_isFree_163 Γ post a1 a2 K σ w v5 v6 t0 := by
      intro K v5 v6 t0 h6 hK
      unfold u_X11_isFree_163 u_X11_isFree_176
      exact ⟨fun _ => ⟨fun _ => d189 K _ _ _ _ h6 hK, fun _ => d189 K _ _ _ _ h6 hK⟩, fun _ => ⟨fun _ => d189 K _ _ _ _ h6 hK, fun _ => d189 K _ _ _ _ h6 hK⟩⟩
    refine wd_loop (S := Unit) O (fun k _ v => u_X11_isFree_60 Γ post a1 a2 k σ w v) (fun _ => ?_) (fun i k _ hi ih => ?_) ()
    · unfold u_X11_isFree_60 w_lw_Jx4a65c_size_8abf5
      rw [O.w]
      exact ⟨fun _ => h 1, fun c => absurd (le_self _) c⟩
    · have ih := ih ()
      have d1 : u_X11_isFree_158 Γ post a1 a2 (fun σ w0 w1 => u_X11_isFree_60 Γ post a1 a2 k σ w0 w1) σ w (nI i) i := d163 _ _ _ _ hi ih
      have d2 : u_X11_isFree_162 Γ post a1 a2 (fun σ w0 w1 => u_X11_isFree_60 Γ post a1 a2 k σ w0 w1) σ w (nI i) i := d163 _ _ _ _ hi ih
      unfold u_X11_isFree_60 w_lw_Jx4a65c_size_8abf5
      rw [O.w]
      exact ⟨fun c => absurd c (nI_ge hi (by omega)), fun _ => sf_wget O hi rfl ⟨⟨by omega, hi⟩, fun _ => ih, fun _ => ⟨fun _ => ⟨fun _ => sf_isIn (fun r => ⟨fun _ => ih, fun _ => ⟨fun _ => d1, fun _ => ⟨fun _ => ⟨fun _ => d2, fun _ => d1⟩, fun _ => d2⟩⟩⟩), fun _ => ih⟩, fun _ => ih⟩⟩⟩
theorem sf_freeFor {post : Int32 → MS → Prop} {w : Nat} (O : rOk Tm Γ σ) (hw : w < Γ.2.2.1) (e : a1 = nI w) (h : ∀ m, m < 1024 → post (nI m) σ) : w_X11_freeFor Γ post σ a1 := by
  have hP := O.hP
  unfold w_X11_freeFor
  have := inv_loop (fun k (q : Int32 × Int32) => u_X11_freeFor_4 Γ post a1 k σ q.1 q.2) (fun j q => q.2 = nI j ∧ ∃ m, m < 2 ^ j ∧ q.1 = nI m) Γ.1 (by
    rintro ⟨s, v⟩ ⟨rfl, m, hm, rfl⟩
    show u_X11_freeFor_4 Γ post a1 1 σ (nI m) (nI Γ.1)
    unfold u_X11_freeFor_4 w_lp_Jx4a65c_size_8abf5
    rw [O.p]
    exact ⟨fun _ => h m (Nat.lt_of_lt_of_le hm (pw1024 hP).2), fun c => absurd (le_self _) c⟩) (by
    rintro j k ⟨s, v⟩ hj ⟨rfl, m, hm, rfl⟩ ih
    have n0 : u_X11_freeFor_4 Γ post a1 k σ (nI m ||| 0) (nI j + 1) := by
      rw [nI_1]
      exact ih (nI m ||| 0, nI (j + 1)) ⟨rfl, m, by rw [Nat.pow_succ]; omega, by show nI m ||| nI 0 = nI m; rw [nx_or, Nat.or_zero]⟩
    have n1 : u_X11_freeFor_4 Γ post a1 k σ (nI m ||| (1 <<< (nI j &&& 31))) (nI j + 1) := by
      rw [nI_1, shl1 j (by omega), nx_or]
      exact ih (nI (m ||| 2 ^ j), nI (j + 1)) ⟨rfl, _, Nat.or_lt_two_pow (by rw [Nat.pow_succ]; omega) (by rw [Nat.pow_succ]; have := Nat.one_le_two_pow (n := j); omega), rfl⟩
    show u_X11_freeFor_4 Γ post a1 (k + 1) σ (nI m) (nI j)
    unfold u_X11_freeFor_4 w_lp_Jx4a65c_size_8abf5
    rw [O.p]
    exact ⟨fun c => absurd c (nI_ge hj (by omega)), fun _ => sf_isFree O hj rfl hw e (fun r => ⟨fun _ => n0, fun _ => n1⟩)⟩) 0 (by omega) (0, 0) ⟨nI_0.symm, 0, by decide, nI_0.symm⟩
  exact this
theorem sf_needed {post : Int32 → MS → Prop} {n : Nat} (hn : n ≤ 6) (e : a1 = nI n) (h : ∀ r, post r σ) : w_X11_needed Γ post σ a0 a1 := by
  unfold w_X11_needed
  have := inv_loop (fun k (q : Int32 × Int32) => u_X11_needed_4 Γ post a0 a1 k σ q.1 q.2) (fun j q => q.2 = nI j) n (by
    rintro ⟨s, v⟩ rfl
    show u_X11_needed_4 Γ post a0 a1 1 σ s (nI n)
    unfold u_X11_needed_4
    rw [e]
    exact ⟨fun _ => h _, fun c => absurd (le_self _) c⟩) (by
    rintro j k ⟨s, v⟩ hj rfl ih
    show u_X11_needed_4 Γ post a0 a1 (k + 1) σ s (nI j)
    unfold u_X11_needed_4
    refine ⟨fun c => absurd (e ▸ c) (nI_ge hj (by omega)), fun _ => ?_⟩
    rw [nI_1]
    exact ih (_, nI (j + 1)) rfl) 0 (by omega) (a0, 0) nI_0.symm
  exact this
theorem sf_needed_ {post : Int32 → MS → Prop} (h : ∀ r, post r σ) : w_X11_needed_ Γ post σ a0 := by
  unfold w_X11_needed_
  have := inv_loop (fun k (q : Int32 × Int32) => u_X11_needed__4 Γ post a0 k σ q.1 q.2) (fun j q => q.2 = nI j) 6 (by
    rintro ⟨s, v⟩ rfl
    show u_X11_needed__4 Γ post a0 1 σ s (nI 6)
    unfold u_X11_needed__4
    exact ⟨fun _ => h _, fun c => absurd (le_self (nI 6)) c⟩) (by
    rintro j k ⟨s, v⟩ hj rfl ih
    show u_X11_needed__4 Γ post a0 (k + 1) σ s (nI j)
    unfold u_X11_needed__4
    refine ⟨fun c => absurd (show nI 6 ≤ nI j from c) (nI_ge hj (by decide)), fun _ => sf_needed (n := j) (by omega) rfl (fun r => ?_)⟩
    rw [nI_1]
    exact ih (_, nI (j + 1)) rfl) 0 (by omega) (0, 0) nI_0.symm
  exact this
theorem sf_cp6 {post : Int32 → MS → Prop} (e : a3 = nI 6) (h : ∀ r, r = 0 ∨ r = 1 → post r σ) : w_K6_X11_canPlay Γ post σ a1 a2 a3 a4 := ⟨fun _ => h 1 (Or.inr rfl), fun c => absurd e c⟩
theorem nar_01r {r : Int32} (h : r = 0 ∨ r = 1) : narrow .boolean (.int r) = .int r := by
  rcases h with h | h
  · rw [h]; rfl
  · rw [h]; rfl

theorem sf_cp5_in {post : Int32 → MS → Prop} {K35 : MS → Int32 → Int32 → Prop} {v5 v6 v7 : Int32} {j : Nat} (O : rOk Tm Γ σ) (e : a3 = nI 5) (h : post 1 σ) (hK : K35 σ v5 (v6 + 1)) (hj : j ≤ Γ.1) : ∃ k, u_K5_X11_canPlay_123 Γ post a1 a2 a3 a4 K35 k σ v5 v6 v7 (nI j) := by
  have hP := O.hP
  refine inv_loop (fun k (v : Int32) => u_K5_X11_canPlay_123 Γ post a1 a2 a3 a4 K35 k σ v5 v6 v7 v) (fun j v => v = nI j) Γ.1 ?_ ?_ j hj (nI j) rfl
  · rintro _ rfl
    show u_K5_X11_canPlay_123 Γ post a1 a2 a3 a4 K35 1 σ v5 v6 v7 (nI Γ.1)
    unfold u_K5_X11_canPlay_123 w_lp_Jx4a65c_size_8abf5
    rw [O.p]
    exact ⟨fun _ => hK, fun c => absurd (le_self _) c⟩
  · rintro j k _ hj rfl ih
    have ih : u_K5_X11_canPlay_123 Γ post a1 a2 a3 a4 K35 k σ v5 v6 v7 (nI j + 1) := ih _ (nI_1 j)
    show u_K5_X11_canPlay_123 Γ post a1 a2 a3 a4 K35 (k + 1) σ v5 v6 v7 (nI j)
    unfold u_K5_X11_canPlay_123 w_lp_Jx4a65c_size_8abf5
    rw [O.p]
    exact ⟨fun c => absurd c (nI_ge hj (by omega)), fun _ => ⟨fun _ => sf_isIn (fun r => ⟨fun _ => ih, fun _ => sf_pget O hj rfl ⟨⟨by omega, hj⟩, sf_isIn (fun r2 => ⟨fun _ => ih, fun _ => sf_cp6 (by rw [e]; decide) (fun r3 _ => ⟨fun _ => ih, fun _ => h⟩)⟩)⟩⟩), fun _ => hK⟩⟩
theorem sf_cp5 {post : Int32 → MS → Prop} (O : rOk Tm Γ σ) (e : a3 = nI 5) (h : ∀ r, r = 0 ∨ r = 1 → post r σ) : w_K5_X11_canPlay Γ post σ a1 a2 a3 a4 := by
  have hP := O.hP
  unfold w_K5_X11_canPlay
  refine ⟨fun _ => h 1 (Or.inr rfl), fun _ => sf_needed (n := 5) (by decide) e (fun r => ⟨fun _ => sf_cp6 (by rw [e]; decide) (fun r2 h2 => ⟨nar_01r h2, h r2 h2⟩), fun _ => ?_⟩)⟩
  refine pl_loop (S := Int32) O (fun k s v => u_K5_X11_canPlay_35 Γ post a1 a2 a3 a4 k σ s v) (fun s => ?_) (fun i k s hi ih => ?_) r
  · unfold u_K5_X11_canPlay_35 w_lp_Jx4a65c_size_8abf5
    rw [O.p]
    exact ⟨fun _ => h 0 (Or.inl rfl), fun c => absurd (le_self _) c⟩
  · have inn : ∃ n, u_K5_X11_canPlay_123 Γ post a1 a2 a3 a4 (fun σ w0 w1 => u_K5_X11_canPlay_35 Γ post a1 a2 a3 a4 k σ w0 w1) n σ s (nI i) (a4 ||| (1 <<< (nI i &&& 31))) (nI i + 1) := by
      rw [nI_1]
      exact sf_cp5_in O e (h 1 (Or.inr rfl)) (ih s) (by omega)
    unfold u_K5_X11_canPlay_35 w_lp_Jx4a65c_size_8abf5
    rw [O.p]
    exact ⟨fun c => absurd c (nI_ge hi (by omega)), fun _ => sf_isIn (fun r => ⟨fun _ => ih s, fun _ => sf_pget O hi rfl ⟨⟨by omega, hi⟩, sf_isIn (fun r2 => ⟨fun _ => ih s, fun _ => ⟨fun _ => sf_cp6 (by rw [e]; decide) (fun r3 _ => ⟨fun _ => inn, fun _ => h 1 (Or.inr rfl)⟩), fun _ => inn⟩⟩)⟩⟩)⟩

theorem sf_cp4_in {post : Int32 → MS → Prop} {K35 : MS → Int32 → Int32 → Prop} {v5 v6 v7 : Int32} {j : Nat} (O : rOk Tm Γ σ) (e : a3 = nI 4) (h : post 1 σ) (hK : K35 σ v5 (v6 + 1)) (hj : j ≤ Γ.1) : ∃ k, u_K4_X11_canPlay_123 Γ post a1 a2 a3 a4 K35 k σ v5 v6 v7 (nI j) := by
  have hP := O.hP
  refine inv_loop (fun k (v : Int32) => u_K4_X11_canPlay_123 Γ post a1 a2 a3 a4 K35 k σ v5 v6 v7 v) (fun j v => v = nI j) Γ.1 ?_ ?_ j hj (nI j) rfl
  · rintro _ rfl
    show u_K4_X11_canPlay_123 Γ post a1 a2 a3 a4 K35 1 σ v5 v6 v7 (nI Γ.1)
    unfold u_K4_X11_canPlay_123 w_lp_Jx4a65c_size_8abf5
    rw [O.p]
    exact ⟨fun _ => hK, fun c => absurd (le_self _) c⟩
  · rintro j k _ hj rfl ih
    have ih : u_K4_X11_canPlay_123 Γ post a1 a2 a3 a4 K35 k σ v5 v6 v7 (nI j + 1) := ih _ (nI_1 j)
    show u_K4_X11_canPlay_123 Γ post a1 a2 a3 a4 K35 (k + 1) σ v5 v6 v7 (nI j)
    unfold u_K4_X11_canPlay_123 w_lp_Jx4a65c_size_8abf5
    rw [O.p]
    exact ⟨fun c => absurd c (nI_ge hj (by omega)), fun _ => ⟨fun _ => sf_isIn (fun r => ⟨fun _ => ih, fun _ => sf_pget O hj rfl ⟨⟨by omega, hj⟩, sf_isIn (fun r2 => ⟨fun _ => ih, fun _ => sf_cp5 O (by rw [e]; decide) (fun r3 _ => ⟨fun _ => ih, fun _ => h⟩)⟩)⟩⟩), fun _ => hK⟩⟩
theorem sf_cp4 {post : Int32 → MS → Prop} (O : rOk Tm Γ σ) (e : a3 = nI 4) (h : ∀ r, r = 0 ∨ r = 1 → post r σ) : w_K4_X11_canPlay Γ post σ a1 a2 a3 a4 := by
  have hP := O.hP
  unfold w_K4_X11_canPlay
  refine ⟨fun _ => h 1 (Or.inr rfl), fun _ => sf_needed (n := 4) (by decide) e (fun r => ⟨fun _ => sf_cp5 O (by rw [e]; decide) (fun r2 h2 => ⟨nar_01r h2, h r2 h2⟩), fun _ => ?_⟩)⟩
  refine pl_loop (S := Int32) O (fun k s v => u_K4_X11_canPlay_35 Γ post a1 a2 a3 a4 k σ s v) (fun s => ?_) (fun i k s hi ih => ?_) r
  · unfold u_K4_X11_canPlay_35 w_lp_Jx4a65c_size_8abf5
    rw [O.p]
    exact ⟨fun _ => h 0 (Or.inl rfl), fun c => absurd (le_self _) c⟩
  · have inn : ∃ n, u_K4_X11_canPlay_123 Γ post a1 a2 a3 a4 (fun σ w0 w1 => u_K4_X11_canPlay_35 Γ post a1 a2 a3 a4 k σ w0 w1) n σ s (nI i) (a4 ||| (1 <<< (nI i &&& 31))) (nI i + 1) := by
      rw [nI_1]
      exact sf_cp4_in O e (h 1 (Or.inr rfl)) (ih s) (by omega)
    unfold u_K4_X11_canPlay_35 w_lp_Jx4a65c_size_8abf5
    rw [O.p]
    exact ⟨fun c => absurd c (nI_ge hi (by omega)), fun _ => sf_isIn (fun r => ⟨fun _ => ih s, fun _ => sf_pget O hi rfl ⟨⟨by omega, hi⟩, sf_isIn (fun r2 => ⟨fun _ => ih s, fun _ => ⟨fun _ => sf_cp5 O (by rw [e]; decide) (fun r3 _ => ⟨fun _ => inn, fun _ => h 1 (Or.inr rfl)⟩), fun _ => inn⟩⟩)⟩⟩)⟩

theorem sf_cp3_in {post : Int32 → MS → Prop} {K35 : MS → Int32 → Int32 → Prop} {v5 v6 v7 : Int32} {j : Nat} (O : rOk Tm Γ σ) (e : a3 = nI 3) (h : post 1 σ) (hK : K35 σ v5 (v6 + 1)) (hj : j ≤ Γ.1) : ∃ k, u_K3_X11_canPlay_123 Γ post a1 a2 a3 a4 K35 k σ v5 v6 v7 (nI j) := by
  have hP := O.hP
  refine inv_loop (fun k (v : Int32) => u_K3_X11_canPlay_123 Γ post a1 a2 a3 a4 K35 k σ v5 v6 v7 v) (fun j v => v = nI j) Γ.1 ?_ ?_ j hj (nI j) rfl
  · rintro _ rfl
    show u_K3_X11_canPlay_123 Γ post a1 a2 a3 a4 K35 1 σ v5 v6 v7 (nI Γ.1)
    unfold u_K3_X11_canPlay_123 w_lp_Jx4a65c_size_8abf5
    rw [O.p]
    exact ⟨fun _ => hK, fun c => absurd (le_self _) c⟩
  · rintro j k _ hj rfl ih
    have ih : u_K3_X11_canPlay_123 Γ post a1 a2 a3 a4 K35 k σ v5 v6 v7 (nI j + 1) := ih _ (nI_1 j)
    show u_K3_X11_canPlay_123 Γ post a1 a2 a3 a4 K35 (k + 1) σ v5 v6 v7 (nI j)
    unfold u_K3_X11_canPlay_123 w_lp_Jx4a65c_size_8abf5
    rw [O.p]
    exact ⟨fun c => absurd c (nI_ge hj (by omega)), fun _ => ⟨fun _ => sf_isIn (fun r => ⟨fun _ => ih, fun _ => sf_pget O hj rfl ⟨⟨by omega, hj⟩, sf_isIn (fun r2 => ⟨fun _ => ih, fun _ => sf_cp4 O (by rw [e]; decide) (fun r3 _ => ⟨fun _ => ih, fun _ => h⟩)⟩)⟩⟩), fun _ => hK⟩⟩
theorem sf_cp3 {post : Int32 → MS → Prop} (O : rOk Tm Γ σ) (e : a3 = nI 3) (h : ∀ r, r = 0 ∨ r = 1 → post r σ) : w_K3_X11_canPlay Γ post σ a1 a2 a3 a4 := by
  have hP := O.hP
  unfold w_K3_X11_canPlay
  refine ⟨fun _ => h 1 (Or.inr rfl), fun _ => sf_needed (n := 3) (by decide) e (fun r => ⟨fun _ => sf_cp4 O (by rw [e]; decide) (fun r2 h2 => ⟨nar_01r h2, h r2 h2⟩), fun _ => ?_⟩)⟩
  refine pl_loop (S := Int32) O (fun k s v => u_K3_X11_canPlay_35 Γ post a1 a2 a3 a4 k σ s v) (fun s => ?_) (fun i k s hi ih => ?_) r
  · unfold u_K3_X11_canPlay_35 w_lp_Jx4a65c_size_8abf5
    rw [O.p]
    exact ⟨fun _ => h 0 (Or.inl rfl), fun c => absurd (le_self _) c⟩
  · have inn : ∃ n, u_K3_X11_canPlay_123 Γ post a1 a2 a3 a4 (fun σ w0 w1 => u_K3_X11_canPlay_35 Γ post a1 a2 a3 a4 k σ w0 w1) n σ s (nI i) (a4 ||| (1 <<< (nI i &&& 31))) (nI i + 1) := by
      rw [nI_1]
      exact sf_cp3_in O e (h 1 (Or.inr rfl)) (ih s) (by omega)
    unfold u_K3_X11_canPlay_35 w_lp_Jx4a65c_size_8abf5
    rw [O.p]
    exact ⟨fun c => absurd c (nI_ge hi (by omega)), fun _ => sf_isIn (fun r => ⟨fun _ => ih s, fun _ => sf_pget O hi rfl ⟨⟨by omega, hi⟩, sf_isIn (fun r2 => ⟨fun _ => ih s, fun _ => ⟨fun _ => sf_cp4 O (by rw [e]; decide) (fun r3 _ => ⟨fun _ => inn, fun _ => h 1 (Or.inr rfl)⟩), fun _ => inn⟩⟩)⟩⟩)⟩

theorem sf_cp2_in {post : Int32 → MS → Prop} {K35 : MS → Int32 → Int32 → Prop} {v5 v6 v7 : Int32} {j : Nat} (O : rOk Tm Γ σ) (e : a3 = nI 2) (h : post 1 σ) (hK : K35 σ v5 (v6 + 1)) (hj : j ≤ Γ.1) : ∃ k, u_K2_X11_canPlay_123 Γ post a1 a2 a3 a4 K35 k σ v5 v6 v7 (nI j) := by
  have hP := O.hP
  refine inv_loop (fun k (v : Int32) => u_K2_X11_canPlay_123 Γ post a1 a2 a3 a4 K35 k σ v5 v6 v7 v) (fun j v => v = nI j) Γ.1 ?_ ?_ j hj (nI j) rfl
  · rintro _ rfl
    show u_K2_X11_canPlay_123 Γ post a1 a2 a3 a4 K35 1 σ v5 v6 v7 (nI Γ.1)
    unfold u_K2_X11_canPlay_123 w_lp_Jx4a65c_size_8abf5
    rw [O.p]
    exact ⟨fun _ => hK, fun c => absurd (le_self _) c⟩
  · rintro j k _ hj rfl ih
    have ih : u_K2_X11_canPlay_123 Γ post a1 a2 a3 a4 K35 k σ v5 v6 v7 (nI j + 1) := ih _ (nI_1 j)
    show u_K2_X11_canPlay_123 Γ post a1 a2 a3 a4 K35 (k + 1) σ v5 v6 v7 (nI j)
    unfold u_K2_X11_canPlay_123 w_lp_Jx4a65c_size_8abf5
    rw [O.p]
    exact ⟨fun c => absurd c (nI_ge hj (by omega)), fun _ => ⟨fun _ => sf_isIn (fun r => ⟨fun _ => ih, fun _ => sf_pget O hj rfl ⟨⟨by omega, hj⟩, sf_isIn (fun r2 => ⟨fun _ => ih, fun _ => sf_cp3 O (by rw [e]; decide) (fun r3 _ => ⟨fun _ => ih, fun _ => h⟩)⟩)⟩⟩), fun _ => hK⟩⟩
theorem sf_cp2 {post : Int32 → MS → Prop} (O : rOk Tm Γ σ) (e : a3 = nI 2) (h : ∀ r, r = 0 ∨ r = 1 → post r σ) : w_K2_X11_canPlay Γ post σ a1 a2 a3 a4 := by
  have hP := O.hP
  unfold w_K2_X11_canPlay
  refine ⟨fun _ => h 1 (Or.inr rfl), fun _ => sf_needed (n := 2) (by decide) e (fun r => ⟨fun _ => sf_cp3 O (by rw [e]; decide) (fun r2 h2 => ⟨nar_01r h2, h r2 h2⟩), fun _ => ?_⟩)⟩
  refine pl_loop (S := Int32) O (fun k s v => u_K2_X11_canPlay_35 Γ post a1 a2 a3 a4 k σ s v) (fun s => ?_) (fun i k s hi ih => ?_) r
  · unfold u_K2_X11_canPlay_35 w_lp_Jx4a65c_size_8abf5
    rw [O.p]
    exact ⟨fun _ => h 0 (Or.inl rfl), fun c => absurd (le_self _) c⟩
  · have inn : ∃ n, u_K2_X11_canPlay_123 Γ post a1 a2 a3 a4 (fun σ w0 w1 => u_K2_X11_canPlay_35 Γ post a1 a2 a3 a4 k σ w0 w1) n σ s (nI i) (a4 ||| (1 <<< (nI i &&& 31))) (nI i + 1) := by
      rw [nI_1]
      exact sf_cp2_in O e (h 1 (Or.inr rfl)) (ih s) (by omega)
    unfold u_K2_X11_canPlay_35 w_lp_Jx4a65c_size_8abf5
    rw [O.p]
    exact ⟨fun c => absurd c (nI_ge hi (by omega)), fun _ => sf_isIn (fun r => ⟨fun _ => ih s, fun _ => sf_pget O hi rfl ⟨⟨by omega, hi⟩, sf_isIn (fun r2 => ⟨fun _ => ih s, fun _ => ⟨fun _ => sf_cp3 O (by rw [e]; decide) (fun r3 _ => ⟨fun _ => inn, fun _ => h 1 (Or.inr rfl)⟩), fun _ => inn⟩⟩)⟩⟩)⟩

theorem sf_cp1_in {post : Int32 → MS → Prop} {K35 : MS → Int32 → Int32 → Prop} {v5 v6 v7 : Int32} {j : Nat} (O : rOk Tm Γ σ) (e : a3 = nI 1) (h : post 1 σ) (hK : K35 σ v5 (v6 + 1)) (hj : j ≤ Γ.1) : ∃ k, u_K1_X11_canPlay_123 Γ post a1 a2 a3 a4 K35 k σ v5 v6 v7 (nI j) := by
  have hP := O.hP
  refine inv_loop (fun k (v : Int32) => u_K1_X11_canPlay_123 Γ post a1 a2 a3 a4 K35 k σ v5 v6 v7 v) (fun j v => v = nI j) Γ.1 ?_ ?_ j hj (nI j) rfl
  · rintro _ rfl
    show u_K1_X11_canPlay_123 Γ post a1 a2 a3 a4 K35 1 σ v5 v6 v7 (nI Γ.1)
    unfold u_K1_X11_canPlay_123 w_lp_Jx4a65c_size_8abf5
    rw [O.p]
    exact ⟨fun _ => hK, fun c => absurd (le_self _) c⟩
  · rintro j k _ hj rfl ih
    have ih : u_K1_X11_canPlay_123 Γ post a1 a2 a3 a4 K35 k σ v5 v6 v7 (nI j + 1) := ih _ (nI_1 j)
    show u_K1_X11_canPlay_123 Γ post a1 a2 a3 a4 K35 (k + 1) σ v5 v6 v7 (nI j)
    unfold u_K1_X11_canPlay_123 w_lp_Jx4a65c_size_8abf5
    rw [O.p]
    exact ⟨fun c => absurd c (nI_ge hj (by omega)), fun _ => ⟨fun _ => sf_isIn (fun r => ⟨fun _ => ih, fun _ => sf_pget O hj rfl ⟨⟨by omega, hj⟩, sf_isIn (fun r2 => ⟨fun _ => ih, fun _ => sf_cp2 O (by rw [e]; decide) (fun r3 _ => ⟨fun _ => ih, fun _ => h⟩)⟩)⟩⟩), fun _ => hK⟩⟩
theorem sf_cp1 {post : Int32 → MS → Prop} (O : rOk Tm Γ σ) (e : a3 = nI 1) (h : ∀ r, r = 0 ∨ r = 1 → post r σ) : w_K1_X11_canPlay Γ post σ a1 a2 a3 a4 := by
  have hP := O.hP
  unfold w_K1_X11_canPlay
  refine ⟨fun _ => h 1 (Or.inr rfl), fun _ => sf_needed (n := 1) (by decide) e (fun r => ⟨fun _ => sf_cp2 O (by rw [e]; decide) (fun r2 h2 => ⟨nar_01r h2, h r2 h2⟩), fun _ => ?_⟩)⟩
  refine pl_loop (S := Int32) O (fun k s v => u_K1_X11_canPlay_35 Γ post a1 a2 a3 a4 k σ s v) (fun s => ?_) (fun i k s hi ih => ?_) r
  · unfold u_K1_X11_canPlay_35 w_lp_Jx4a65c_size_8abf5
    rw [O.p]
    exact ⟨fun _ => h 0 (Or.inl rfl), fun c => absurd (le_self _) c⟩
  · have inn : ∃ n, u_K1_X11_canPlay_123 Γ post a1 a2 a3 a4 (fun σ w0 w1 => u_K1_X11_canPlay_35 Γ post a1 a2 a3 a4 k σ w0 w1) n σ s (nI i) (a4 ||| (1 <<< (nI i &&& 31))) (nI i + 1) := by
      rw [nI_1]
      exact sf_cp1_in O e (h 1 (Or.inr rfl)) (ih s) (by omega)
    unfold u_K1_X11_canPlay_35 w_lp_Jx4a65c_size_8abf5
    rw [O.p]
    exact ⟨fun c => absurd c (nI_ge hi (by omega)), fun _ => sf_isIn (fun r => ⟨fun _ => ih s, fun _ => sf_pget O hi rfl ⟨⟨by omega, hi⟩, sf_isIn (fun r2 => ⟨fun _ => ih s, fun _ => ⟨fun _ => sf_cp2 O (by rw [e]; decide) (fun r3 _ => ⟨fun _ => inn, fun _ => h 1 (Or.inr rfl)⟩), fun _ => inn⟩⟩)⟩⟩)⟩

theorem sf_cp0_in {post : Int32 → MS → Prop} {K35 : MS → Int32 → Int32 → Prop} {v5 v6 v7 : Int32} {j : Nat} (O : rOk Tm Γ σ) (e : a3 = nI 0) (h : post 1 σ) (hK : K35 σ v5 (v6 + 1)) (hj : j ≤ Γ.1) : ∃ k, u_K0_X11_canPlay_123 Γ post a1 a2 a3 a4 K35 k σ v5 v6 v7 (nI j) := by
  have hP := O.hP
  refine inv_loop (fun k (v : Int32) => u_K0_X11_canPlay_123 Γ post a1 a2 a3 a4 K35 k σ v5 v6 v7 v) (fun j v => v = nI j) Γ.1 ?_ ?_ j hj (nI j) rfl
  · rintro _ rfl
    show u_K0_X11_canPlay_123 Γ post a1 a2 a3 a4 K35 1 σ v5 v6 v7 (nI Γ.1)
    unfold u_K0_X11_canPlay_123 w_lp_Jx4a65c_size_8abf5
    rw [O.p]
    exact ⟨fun _ => hK, fun c => absurd (le_self _) c⟩
  · rintro j k _ hj rfl ih
    have ih : u_K0_X11_canPlay_123 Γ post a1 a2 a3 a4 K35 k σ v5 v6 v7 (nI j + 1) := ih _ (nI_1 j)
    show u_K0_X11_canPlay_123 Γ post a1 a2 a3 a4 K35 (k + 1) σ v5 v6 v7 (nI j)
    unfold u_K0_X11_canPlay_123 w_lp_Jx4a65c_size_8abf5
    rw [O.p]
    exact ⟨fun c => absurd c (nI_ge hj (by omega)), fun _ => ⟨fun _ => sf_isIn (fun r => ⟨fun _ => ih, fun _ => sf_pget O hj rfl ⟨⟨by omega, hj⟩, sf_isIn (fun r2 => ⟨fun _ => ih, fun _ => sf_cp1 O (by rw [e]; decide) (fun r3 _ => ⟨fun _ => ih, fun _ => h⟩)⟩)⟩⟩), fun _ => hK⟩⟩
theorem sf_cp0 {post : Int32 → MS → Prop} (O : rOk Tm Γ σ) (e : a3 = nI 0) (h : ∀ r, r = 0 ∨ r = 1 → post r σ) : w_K0_X11_canPlay Γ post σ a1 a2 a3 a4 := by
  have hP := O.hP
  unfold w_K0_X11_canPlay
  refine ⟨fun _ => h 1 (Or.inr rfl), fun _ => sf_needed (n := 0) (by decide) e (fun r => ⟨fun _ => sf_cp1 O (by rw [e]; decide) (fun r2 h2 => ⟨nar_01r h2, h r2 h2⟩), fun _ => ?_⟩)⟩
  refine pl_loop (S := Int32) O (fun k s v => u_K0_X11_canPlay_35 Γ post a1 a2 a3 a4 k σ s v) (fun s => ?_) (fun i k s hi ih => ?_) r
  · unfold u_K0_X11_canPlay_35 w_lp_Jx4a65c_size_8abf5
    rw [O.p]
    exact ⟨fun _ => h 0 (Or.inl rfl), fun c => absurd (le_self _) c⟩
  · have inn : ∃ n, u_K0_X11_canPlay_123 Γ post a1 a2 a3 a4 (fun σ w0 w1 => u_K0_X11_canPlay_35 Γ post a1 a2 a3 a4 k σ w0 w1) n σ s (nI i) (a4 ||| (1 <<< (nI i &&& 31))) (nI i + 1) := by
      rw [nI_1]
      exact sf_cp0_in O e (h 1 (Or.inr rfl)) (ih s) (by omega)
    unfold u_K0_X11_canPlay_35 w_lp_Jx4a65c_size_8abf5
    rw [O.p]
    exact ⟨fun c => absurd c (nI_ge hi (by omega)), fun _ => sf_isIn (fun r => ⟨fun _ => ih s, fun _ => sf_pget O hi rfl ⟨⟨by omega, hi⟩, sf_isIn (fun r2 => ⟨fun _ => ih s, fun _ => ⟨fun _ => sf_cp1 O (by rw [e]; decide) (fun r3 _ => ⟨fun _ => inn, fun _ => h 1 (Or.inr rfl)⟩), fun _ => inn⟩⟩)⟩⟩)⟩

theorem sf_isFilling {post : Int32 → MS → Prop} {w : Nat} (O : rOk Tm Γ σ) (hw : w < Γ.2.2.1) (h : ∀ r, post r σ) : w_X11_isFilling Γ post σ a1 w := by
  obtain ⟨b, hb, eb⟩ := O.band hw
  unfold w_X11_isFilling
  refine sf_lbget O hb eb ⟨hb, ?_⟩
  unfold w_in_J6_intValue_8abf5
  exact sf_bc (fun r => sf_needed_ (fun r2 => ⟨fun _ => sf_isPeaceful O (fun r3 => ⟨fun _ => h 0, fun _ => sf_areKnown O (fun r4 => ⟨fun _ => h 0, fun _ => sf_cp0 O rfl (fun r5 _ => ⟨fun _ => h 0, fun _ => h 1⟩)⟩)⟩), fun _ => h 0⟩))
theorem sf_isBetter {post : Int32 → MS → Prop} {w : Nat} (O : rOk Tm Γ σ) (hw : w < Γ.2.2.1) (h : ∀ r, post r σ) : w_X11_isBetter Γ post σ a1 a2 a3 w := by
  unfold w_X11_isBetter
  exact sf_bc (fun r => sf_bc (fun r2 => ⟨fun _ => h 1, fun _ => ⟨fun _ => sf_costOf O hw (fun r3 => sf_costOf O hw (fun r4 => ⟨fun _ => h 0, fun _ => h 1⟩)), fun _ => h 0⟩⟩))
end RSAFE3
end
section
/-! THE REFERENCE IS SAFE: the best filling, counts of fillings, why, fixing, illness, money, queries -/
section RSAFE4
variable {Tm : MS} {Γ : RG} {σ τ : MS} {a a0 a1 a2 a3 a4 : Int32}
theorem nI_le' {m n : Nat} (h : m ≤ n) (hn : n < 2 ^ 31) : nI m ≤ nI n := by
  rcases Nat.eq_or_lt_of_le h with e | e
  · rw [e]; exact le_self _
  · exact Int32.le_of_lt (nI_lt e hn)
theorem and_m10 (a : Nat) {F : Nat} (hF : F < 1024) : a &&& F = (a % 1024) &&& F := by
  have h1 : F &&& 1023 = F := by
    have := Nat.and_two_pow_sub_one_eq_mod F 10
    rw [show (2 ^ 10 - 1 : Nat) = 1023 from rfl] at this
    rw [this]; exact Nat.mod_eq_of_lt hF
  have h2 : a % 1024 = a &&& 1023 := (Nat.and_two_pow_sub_one_eq_mod a 10).symm
  rw [h2, Nat.and_assoc, Nat.and_comm 1023 F, h1]
theorem sub_step {V F : Nat} (hV : V < 1024) (hF : F < 1024) : (nI V - nI F) &&& nI F = nI ((V + (1024 - F)) &&& F) := by
  rw [nI_bv (nI V - nI F), nx_and]
  congr 1
  have e : (nI V - nI F).toBitVec.toNat = (2 ^ 32 - F + V) % 2 ^ 32 := by
    rw [Int32.toBitVec_sub, BitVec.toNat_sub]
    show (2 ^ 32 - F % 2 ^ 32 + V % 2 ^ 32) % 2 ^ 32 = _
    rw [Nat.mod_eq_of_lt (show F < 2 ^ 32 by omega), Nat.mod_eq_of_lt (show V < 2 ^ 32 by omega)]
  rw [e, and_m10 _ hF, and_m10 (V + (1024 - F)) hF]
  congr 1
  omega
/-- the walk over the parts of F comes back to nothing -/
def sub_run (F : Nat) : Nat → Nat → Bool
  | 0, V => V == 0
  | k + 1, V => V == 0 || sub_run F k ((V + (1024 - F)) &&& F)
theorem sub_runs : ∀ F, F < 1024 → sub_run F 1024 (1024 - F &&& F) = true := by decide +kernel
theorem sub_loop {S : Type} (U : Nat → S → Int32 → Prop) {F : Nat} (hF : F < 1024) (hz : ∀ k s, U (k + 1) s (nI 0)) (hs : ∀ k s V, V < 1024 → (∀ s', U k s' ((nI V - nI F) &&& nI F)) → U (k + 1) s (nI V)) (s : S) : ∃ k, U k s (nI F &&& (-(nI F))) := by
  have key : ∀ k V, V < 1024 → sub_run F k V = true → ∀ s, U (k + 1) s (nI V) := by
    intro k
    induction k with
    | zero =>
      intro V _ h s
      have e : V = 0 := by simpa [sub_run] using h
      rw [e]; exact hz 0 s
    | succ k ih =>
      intro V hV h s
      rcases Nat.eq_zero_or_pos V with e | e
      · rw [e]; exact hz _ s
      · have h' : sub_run F k ((V + (1024 - F)) &&& F) = true := by
          have : (V == 0) = false := by simp; omega
          simpa [sub_run, this] using h
        refine hs (k + 1) s V hV (fun s' => ?_)
        rw [sub_step hV hF]
        exact ih _ (Nat.lt_of_le_of_lt Nat.and_le_right hF) h' s'
  refine ⟨1024 + 1, ?_⟩
  have e : nI F &&& (-(nI F)) = nI (1024 - F &&& F) := by
    have := sub_step (V := 0) (F := F) (by decide) hF
    rw [show (nI 0 - nI F : Int32) = -(nI F) by rw [nI_0]; grind, Nat.zero_add] at this
    rw [← this]
    exact Int32.and_comm _ _
  rw [e]
  exact key 1024 _ (Nat.lt_of_le_of_lt Nat.and_le_right hF) (sub_runs F hF) s
theorem sf_best {post : Int32 → MS → Prop} {w : Nat} (O : rOk Tm Γ σ) (hw : w < Γ.2.2.1) (e : a1 = nI w) (h : ∀ r, post r σ) : w_X11_best Γ post σ a1 a2 a3 := by
  have hW := O.hW
  unfold w_X11_best
  refine sf_wget O hw e ⟨⟨by omega, hw⟩, sf_freeFor O hw e (fun m hm => ?_)⟩
  obtain ⟨F, hF, eF⟩ := and_small hm (by decide) (a2 ^^^ (-1))
  rw [eF]
  refine sub_loop (S := Int32) (fun k s v => u_X11_best_38 Γ post a1 a2 a3 k σ w (nI F) s v) (by omega) (fun k s => ?_) (fun k s V hV ih => ?_) (-1)
  · unfold u_X11_best_38
    exact ⟨fun _ => h _, fun c => absurd (le_self (nI 0)) c⟩
  · unfold u_X11_best_38
    exact ⟨fun _ => h _, fun _ => sf_isFilling O hw (fun r => ⟨fun _ => ih _, fun _ => ⟨fun _ => ih _, fun _ => sf_isBetter O hw (fun r2 => ⟨fun _ => ih _, fun _ => ih _⟩)⟩⟩)⟩
theorem one_loop {S : Type} (U : Nat → S → Int32 → Prop) {m : Nat} (hz : ∀ s, U 1 s (nI (m + 1))) (hs : ∀ i k s, i ≤ m → (∀ s', U k s' (nI i + 1)) → U (k + 1) s (nI i)) (s : S) : ∃ k, U k s 1 := by
  have := inv_loop (fun k (q : S × Int32) => U k q.1 q.2) (fun j q => q.2 = nI j) (m + 1) (by rintro ⟨s, v⟩ rfl; exact hz s) (by rintro j k ⟨s, v⟩ hj rfl ih; exact hs j k s (by omega) (fun s' => by rw [nI_1]; exact ih (s', nI (j + 1)) rfl)) 1 (by omega) (s, 1) rfl
  exact this
theorem sf_fillings {post : Int32 → MS → Prop} {w : Nat} (O : rOk Tm Γ σ) (hw : w < Γ.2.2.1) (e : a1 = nI w) (h : ∀ r, post r σ) : w_X11_fillings Γ post σ a1 := by
  have hW := O.hW
  unfold w_X11_fillings
  refine sf_wget O hw e ⟨⟨by omega, hw⟩, sf_freeFor O hw e (fun m hm => ?_)⟩
  refine one_loop (S := Int32) (m := m) (fun k s v => u_X11_fillings_24 Γ post a1 k σ w (nI m) s v) (fun s => ?_) (fun i k s hi ih => ?_) 0
  · unfold u_X11_fillings_24
    exact ⟨fun _ => h _, fun c => absurd (nI_lt (Nat.lt_succ_self m) (by omega)) c⟩
  · unfold u_X11_fillings_24
    exact ⟨fun _ => h _, fun _ => ⟨fun _ => sf_isFilling O hw (fun r => ⟨fun _ => ih _, fun _ => ih _⟩), fun _ => ih _⟩⟩
theorem sf_why {post : Int32 → MS → Prop} {w : Nat} (O : rOk Tm Γ σ) (hw : w < Γ.2.2.1) (e : a1 = nI w) (h : ∀ r, post r σ) : w_X11_why Γ post σ a1 := by
  have hW := O.hW
  obtain ⟨b, hb, eb⟩ := O.band hw
  unfold w_X11_why
  refine sf_wget O hw e ⟨⟨by omega, hw⟩, sf_lbget O hb eb ⟨hb, ?_⟩⟩
  unfold w_in_J6_intValue_8abf5
  refine sf_freeFor O hw e (fun m hm => sf_bc (fun r => sf_needed_ (fun r2 => ⟨fun _ => sf_best O hw e (fun r3 => ⟨fun _ => ?_, fun _ => h _⟩), fun _ => h _⟩)))
  refine one_loop (S := Int32) (m := m) (fun k s v => u_X11_why_70 Γ post a1 k σ w (Γ.2.2.2.2.2 b) (nI m) s v) (fun s => ?_) (fun i k s hi ih => ?_) 2
  · unfold u_X11_why_70
    exact ⟨fun _ => h _, fun c => absurd (nI_lt (Nat.lt_succ_self m) (by omega)) c⟩
  · unfold u_X11_why_70
    exact ⟨fun _ => h _, fun _ => ⟨fun _ => sf_bc (fun r => sf_needed_ (fun r2 => ⟨fun _ => sf_cp0 O rfl (fun r3 _ => ⟨fun _ => ih _, fun _ => sf_areKnown O (fun r4 => ⟨fun _ => ih _, fun _ => h _⟩)⟩), fun _ => ih _⟩)), fun _ => ih _⟩⟩
theorem sf_fees {post : Int32 → MS → Prop} (O : rOk Tm Γ σ) (h : ∀ r, post r σ) : w_X11_fees Γ post σ a1 := by
  have hP := O.hP
  unfold w_X11_fees
  refine pl_loop (S := Int32) O (fun k s v => u_X11_fees_4 Γ post a1 k σ s v) (fun s => ?_) (fun i k s hi ih => ?_) 0
  · unfold u_X11_fees_4 w_lp_Jx4a65c_size_8abf5
    rw [O.p]
    exact ⟨fun _ => h _, fun c => absurd (le_self _) c⟩
  · unfold u_X11_fees_4 w_lp_Jx4a65c_size_8abf5
    rw [O.p]
    exact ⟨fun c => absurd c (nI_ge hi (by omega)), fun _ => sf_isIn (fun r => ⟨fun _ => ih _, fun _ => sf_pget O hi rfl ⟨⟨by omega, hi⟩, ih _⟩⟩)⟩
theorem sf_earnedAt {post : Int32 → MS → Prop} {p w : Nat} (O : rOk Tm Γ σ) (hp : p < Γ.1) (e : a1 = nI p) (hw : w < Γ.2.2.1) (h : ∀ r, post r σ) : w_X11_earnedAt Γ post σ a1 w := by
  have hP := O.hP
  unfold w_X11_earnedAt
  exact sf_cost O hp e hw (fun r => sf_quarters (fun r2 => sf_pget O hp e ⟨⟨by omega, hp⟩, h _⟩))
theorem sf_gain {post : Int32 → MS → Prop} {w : Nat} (O : rOk Tm Γ σ) (hw : w < Γ.2.2.1) (h : ∀ r, post r σ) : w_X11_gain Γ post σ w := by
  have hP := O.hP
  unfold w_X11_gain
  refine sf_quarters (fun r => sf_fees O (fun r2 => ?_))
  refine pl_loop (S := Int32) O (fun k s v => u_X11_gain_28 Γ post w k σ s v) (fun s => ?_) (fun i k s hi ih => ?_) _
  · unfold u_X11_gain_28 w_lp_Jx4a65c_size_8abf5
    rw [O.p]
    exact ⟨fun _ => h _, fun c => absurd (le_self _) c⟩
  · unfold u_X11_gain_28 w_lp_Jx4a65c_size_8abf5
    rw [O.p]
    exact ⟨fun c => absurd c (nI_ge hi (by omega)), fun _ => sf_isIn (fun r => ⟨fun _ => ih _, fun _ => sf_earnedAt O hi rfl hw (fun r2 => ih _)⟩)⟩
theorem sf_isBehind {post : Int32 → MS → Prop} (h1 : vp_in a1 16) (h2 : vp_in a2 16) (h : ∀ r, post r σ) : w_X11_isBehind Γ post σ a1 a2 := by
  have fin : ∀ t0, u_X11_isBehind_40 Γ post a1 a2 σ t0 := fun t0 => by
    unfold u_X11_isBehind_40
    exact ⟨h1, h2, fun _ => h _, fun _ _ _ _ _ => ⟨fun _ => h _, fun _ => h _⟩⟩
  unfold w_X11_isBehind u_X11_isBehind_35 u_X11_isBehind_39
  exact ⟨h2, h1, fun _ => fin 1, fun _ => ⟨h2, h1, fun _ => ⟨fun _ => fin 0, fun _ => fin 1⟩, fun _ => fin 0⟩⟩
theorem sf_share {post : Int32 → MS → Prop} (h1 : vp_in a1 16) (h : ∀ r, post r σ) : w_X11_share Γ post σ a1 := by
  unfold w_X11_share
  have := inv_loop (fun k (q : Int32 × Int32) => u_X11_share_4 Γ post a1 k σ q.1 q.2) (fun j q => q.2 = nI j) 16 (by
    rintro ⟨s, v⟩ rfl
    show u_X11_share_4 Γ post a1 1 σ s (nI 16)
    unfold u_X11_share_4
    exact ⟨fun _ => ⟨fun _ => h _, fun c => ⟨h1, h1, c, h _⟩⟩, fun c => absurd (le_self (nI 16)) c⟩) (by
    rintro j k ⟨s, v⟩ hj rfl ih
    have hv : vp_in (nI j) 16 := vp_in_nI hj (by decide)
    show u_X11_share_4 Γ post a1 (k + 1) σ s (nI j)
    unfold u_X11_share_4
    refine ⟨fun c => absurd (show nI 16 ≤ nI j from c) (nI_ge hj (by decide)), fun _ => ⟨hv, hv, ?_⟩⟩
    rw [nI_1 j]
    exact ih (_, nI (j + 1)) rfl) 0 (by omega) (0, 0) nI_0.symm
  exact this
end RSAFE4
end
section
/-! THE REFERENCE IS SAFE: what is asked of songs, bands, weddings, players; keys; what a cancelling would cost -/
section RSAFE5
variable {Tm : MS} {Γ : RG} {σ τ : MS} {a a0 a1 a2 a3 a4 b c : Int32}
theorem rOk.mrg (h : rOk Tm Γ τ) : rOk Tm Γ (mrg τ σ) := h.same (fun k j hp => by rw [mrg_lo (by unfold rPr at hp; omega)])
theorem rOk.rw0 {k : Nat} {f : Nat → Int32} (h : rOk Tm Γ τ) (hk : 47 ≤ k) : rOk Tm Γ (rw0 τ k f) := h.same (fun i j hp => by rw [rw0_ne (by unfold rPr at hp; omega)])
theorem sf_isr {post : Int32 → MS → Prop} {lo hi : Nat} (e1 : b = nI lo) (e2 : c = nI hi) (hl : lo < 2 ^ 31) (hh : hi < 2 ^ 31) (h0 : post 0 σ) (h1 : ∀ i r, lo ≤ i → i ≤ hi → a = nI i → ¬ r = 0 → post r σ) : w_X11_is Γ post σ a b c := by
  rw [e1, e2]
  refine law_X11_is ?_
  by_cases z : rIsF a (nI lo) (nI hi) = 0
  · rw [z]; exact h0
  · obtain ⟨i, h2, h3, e⟩ := rIs_rg hh z hl
    exact h1 i _ h2 h3 e z
theorem sf_ofSongNow {post : Int32 → MS → Prop} (O : rOk Tm Γ σ) (hv : vp_in a1 16) (h : ∀ r, post r σ) : w_X11_ofSongNow Γ post σ a1 a2 := by
  have hP := O.hP
  unfold w_X11_ofSongNow
  refine pl_loop (S := Int32) O (fun k s v => u_X11_ofSongNow_5 Γ post a1 a2 k σ s v) (fun s => ?_) (fun i k s hi ih => ?_) 0
  · unfold u_X11_ofSongNow_5 w_lp_Jx4a65c_size_8abf5
    rw [O.p]
    exact ⟨fun _ => ⟨fun _ => ⟨hv, h _⟩, fun _ => ⟨fun _ => ⟨hv, h _⟩, fun _ => ⟨fun _ => ⟨hv, h _⟩, fun _ => ⟨fun _ => ⟨hv, h _⟩, fun _ => ⟨fun _ => sf_share hv h, fun _ => h _⟩⟩⟩⟩⟩, fun c => absurd (le_self _) c⟩
  · unfold u_X11_ofSongNow_5 w_lp_Jx4a65c_size_8abf5
    rw [O.p]
    exact ⟨fun c => absurd c (nI_ge hi (by omega)), fun _ => sf_pget O hi rfl ⟨⟨by omega, hi⟩, sf_isIn (fun r => ⟨fun _ => ih _, fun _ => ih _⟩)⟩⟩
theorem sf_ofSong {post : Int32 → MS → Prop} (O : rOk Tm Γ σ) (h : ∀ r τ, rOk Tm Γ τ → post r τ) : w_X11_ofSong Γ post σ a1 a2 := by
  unfold w_X11_ofSong
  have O := O.up (k := 0) (j := 0) (v := 0) (by unfold rPr; omega)
  exact sf_isr (lo := 0) (hi := 15) rfl rfl (by decide) (by decide) ⟨fun _ => sf_refuse O h, fun c => absurd rfl c⟩ (fun i r h0 h1 e hr => ⟨fun c => absurd c hr, fun _ => sf_is (fun r2 => ⟨fun _ => sf_refuse O h, fun _ => sf_ofSongNow O (by rw [e]; exact vp_in_nI (by omega) (by decide)) (fun r3 => h _ _ O)⟩)⟩)
theorem sf_ofBandNow {post : Int32 → MS → Prop} {w n : Nat} (O : rOk Tm Γ σ) (hb : w < Γ.2.1) (e : a1 = nI w) (hn : n ≤ 8) (e2 : a2 = nI n) (h : ∀ r, post r σ) : w_X11_ofBandNow Γ post σ a1 a2 := by
  have hW := O.hW
  unfold w_X11_ofBandNow
  refine ⟨fun _ => ⟨fun _ => sf_lbget O hb e ⟨hb, ?_⟩, fun _ => ?_⟩, fun c => sf_lbget O hb e ⟨hb, ?_⟩⟩
  · unfold w_in_J6_intValue_8abf5
    exact sf_needed_ h
  · refine wd_loop (S := Int32) O (fun k s v => u_X11_ofBandNow_54 Γ post a1 a2 k σ s v) (fun s => ?_) (fun i k s hi ih => ?_) 0
    · unfold u_X11_ofBandNow_54 w_lw_Jx4a65c_size_8abf5
      rw [O.w]
      exact ⟨fun _ => h _, fun c => absurd (le_self _) c⟩
    · unfold u_X11_ofBandNow_54 w_lw_Jx4a65c_size_8abf5
      rw [O.w]
      exact ⟨fun c => absurd c (nI_ge hi (by omega)), fun _ => sf_wget O hi rfl ⟨⟨by omega, hi⟩, fun _ => ⟨fun _ => ih _, fun _ => sf_wget O hi rfl ⟨⟨by omega, hi⟩, fun _ => ih _, fun _ => ih _⟩⟩, fun _ => ih _⟩⟩
  · unfold w_in_J6_intValue_8abf5
    refine sf_needed (n := n) ?_ e2 h
    rcases Nat.lt_or_ge n 6 with d | d
    · omega
    · exact absurd (by rw [e2]; exact nI_le' d (by omega)) c
theorem sf_ofBand {post : Int32 → MS → Prop} (O : rOk Tm Γ σ) (h : ∀ r τ, rOk Tm Γ τ → post r τ) : w_X11_ofBand Γ post σ a1 a2 := by
  unfold w_X11_ofBand
  have O := O.up (k := 0) (j := 0) (v := 0) (by unfold rPr; omega)
  exact sf_isBand O ⟨fun _ => sf_refuse O h, fun c => absurd rfl c⟩ (fun b r hb e hr => ⟨fun c => absurd c hr, fun _ => sf_isr (lo := 0) (hi := 8) rfl rfl (by decide) (by decide) ⟨fun _ => sf_refuse O h, fun c => absurd rfl c⟩ (fun n r2 h0 h8 e2 hr2 => ⟨fun c => absurd c hr2, fun _ => sf_ofBandNow O hb e h8 e2 (fun r3 => h _ _ O)⟩)⟩)
theorem sf_ofWeddingNow {post : Int32 → MS → Prop} {w : Nat} (O : rOk Tm Γ σ) (hw : w < Γ.2.2.1) (e : a1 = nI w) (h : ∀ r, post r σ) : w_X11_ofWeddingNow Γ post σ a1 a2 := by
  have hW := O.hW
  unfold w_X11_ofWeddingNow
  exact sf_wget O hw e ⟨⟨by omega, hw⟩, fun _ => h _, fun _ => ⟨fun _ => h _, fun _ => ⟨fun _ => h _, fun _ => ⟨fun _ => h _, fun _ => ⟨fun _ => h _, fun _ => ⟨fun _ => h _, fun _ => ⟨fun _ => h _, fun _ => ⟨fun _ => h _, fun _ => ⟨fun _ => h _, fun _ => ⟨fun _ => h _, fun _ => ⟨fun _ => h _, fun _ => ⟨fun _ => sf_place O hw e h, fun _ => sf_quarters h⟩⟩⟩⟩⟩⟩⟩⟩⟩⟩⟩⟩
theorem sf_ofWedding {post : Int32 → MS → Prop} (O : rOk Tm Γ σ) (h : ∀ r τ, rOk Tm Γ τ → post r τ) : w_X11_ofWedding Γ post σ a1 a2 := by
  unfold w_X11_ofWedding
  have O := O.up (k := 0) (j := 0) (v := 0) (by unfold rPr; omega)
  exact sf_isWedding O ⟨fun _ => sf_refuse O h, fun c => absurd rfl c⟩ (fun b r hb e hr => ⟨fun c => absurd c hr, fun _ => sf_is (fun r2 => ⟨fun _ => sf_refuse O h, fun _ => sf_ofWeddingNow O hb e (fun r3 => h _ _ O)⟩)⟩)
theorem sf_drive_ {post : Int32 → MS → Prop} (O : rOk Tm Γ σ) (h : ∀ r τ, rOk Tm Γ τ → post r τ) : w_X11_drive_ Γ post σ a1 a2 := by
  unfold w_X11_drive_ u_X11_drive__28
  have O := O.up (k := 0) (j := 0) (v := 0) (by unfold rPr; omega)
  exact sf_isTown ⟨fun _ => sf_refuse O h, fun c => absurd rfl c⟩ (fun t r ht e hr => ⟨fun c => absurd c hr, fun _ => sf_isTown ⟨fun _ => sf_refuse O h, fun c => absurd rfl c⟩ (fun t2 r2 ht2 e2 hr2 => ⟨fun c => absurd c hr2, fun _ => sf_driveOf ⟨t, ht, e⟩ ⟨t2, ht2, e2⟩ (fun r => h _ _ O)⟩)⟩)
theorem sf_free {post : Int32 → MS → Prop} (O : rOk Tm Γ σ) (h : ∀ r τ, rOk Tm Γ τ → post r τ) : w_X11_free Γ post σ a1 a2 := by
  unfold w_X11_free u_X11_free_21
  have bad : u_X11_free_22 Γ post a1 a2 σ 1 := by
    unfold u_X11_free_22
    rw [up2_same]
    exact ⟨fun c => absurd c (by decide), fun _ => h _ _ (O.up (by unfold rPr; omega))⟩
  refine sf_isPlayer O ⟨fun _ => bad, fun c => absurd rfl c⟩ (fun p r hp e hr => ⟨fun c => absurd c hr, fun _ => sf_isWedding O ⟨fun _ => bad, fun c => absurd rfl c⟩ (fun w r2 hw e2 hr2 => ⟨fun c => absurd c hr2, fun _ => ?_⟩)⟩)
  have O := O.up (k := 0) (j := 0) (v := 0) (by unfold rPr; omega)
  unfold u_X11_free_22
  exact ⟨fun _ => sf_isFree O hp e hw e2 (fun r => ⟨fun _ => h _ _ O, fun _ => h _ _ O⟩), fun _ => h _ _ O⟩
theorem sf_fillingNow {post : Int32 → MS → Prop} {w : Nat} (O : rOk Tm Γ σ) (hw : w < Γ.2.2.1) (e : a1 = nI w) (h : ∀ r, post r σ) : w_X11_fillingNow Γ post σ a1 a2 := by
  have hW := O.hW
  unfold w_X11_fillingNow
  exact ⟨fun _ => sf_fillings O hw e h, fun _ => ⟨fun _ => sf_why O hw e h, fun _ => sf_best O hw e (fun r => ⟨fun _ => h _, fun _ => ⟨fun _ => h _, fun _ => sf_wget O hw e ⟨⟨by omega, hw⟩, sf_costOf O hw h⟩⟩⟩)⟩⟩
theorem sf_filling {post : Int32 → MS → Prop} (O : rOk Tm Γ σ) (h : ∀ r τ, rOk Tm Γ τ → post r τ) : w_X11_filling Γ post σ a1 a2 := by
  unfold w_X11_filling
  have O := O.up (k := 0) (j := 0) (v := 0) (by unfold rPr; omega)
  exact sf_isWedding O ⟨fun _ => sf_refuse O h, fun c => absurd rfl c⟩ (fun b r hb e hr => ⟨fun c => absurd c hr, fun _ => sf_is (fun r2 => ⟨fun _ => sf_refuse O h, fun _ => sf_fillingNow O hb e (fun r3 => h _ _ O)⟩)⟩)
theorem sf_wouldCancel {post : Int32 → MS → Prop} (O : rOk Tm Γ σ) (h : ∀ r τ, rOk Tm Γ τ → post r τ) : w_X11_wouldCancel Γ post σ a1 := by
  have hW := O.hW
  unfold w_X11_wouldCancel
  have O := O.up (k := 0) (j := 0) (v := 0) (by unfold rPr; omega)
  exact sf_isWedding O ⟨fun _ => sf_refuse O h, fun c => absurd rfl c⟩ (fun w r hw e hr => ⟨fun c => absurd c hr, fun _ => sf_wget O hw e ⟨⟨by omega, hw⟩, fun _ => sf_owed (fun r2 => sf_gain O hw (fun r3 => h _ _ O)), fun _ => sf_refuse O h⟩⟩)
theorem sf_key {post : Int32 → MS → Prop} (O : rOk Tm Γ σ) (h : ∀ r τ, rOk Tm Γ τ → post r τ) : w_X11_key Γ post σ a1 := by
  have hP := O.hP
  unfold w_X11_key
  have O := O.up (k := 0) (j := 0) (v := 0) (by unfold rPr; omega)
  refine sf_isWedding O ⟨fun _ => sf_refuse O h, fun c => absurd rfl c⟩ (fun w r hw e hr => ⟨fun c => absurd c hr, fun _ => sf_best O hw e (fun r2 => ⟨fun _ => h _ _ O, fun _ => ?_⟩)⟩)
  refine pl_loop (S := Unit) O (fun k _ v => u_X11_key_34 Γ post a1 k (up2 σ 0 0 0) v) (fun s => ?_) (fun i k s hi ih => ?_) ()
  · unfold u_X11_key_34 w_lp_Jx4a65c_size_8abf5
    rw [O.p]
    exact ⟨fun _ => h _ _ O, fun c => absurd (le_self _) c⟩
  · unfold u_X11_key_34 w_lp_Jx4a65c_size_8abf5
    rw [O.p]
    exact ⟨fun c => absurd c (nI_ge hi (by omega)), fun _ => sf_best O hw e (fun r3 => ⟨fun _ => h _ _ O, fun _ => ih ()⟩)⟩
theorem sf_weddingsOf {post : Nat → (Nat → Int32) → MS → Prop} (O : rOk Tm Γ σ) (h : ∀ f τ, rOk Tm Γ τ → post 3 f τ) : w_X11_weddingsOf Γ post σ a1 := by
  have hW := O.hW
  have up64 : ∀ {τ : MS} {j : Nat} {v : Int32}, rOk Tm Γ τ → rOk Tm Γ (up2 τ 64 j v) := fun O => O.up (by unfold rPr; omega)
  have v0 : vp_in 0 3 := vp_in_nI (n := 0) (by decide) (by decide)
  have v1 : vp_in 1 3 := vp_in_nI (n := 1) (by decide) (by decide)
  have v2 : vp_in 2 3 := vp_in_nI (n := 2) (by decide) (by decide)
  have d83 : ∀ (K : MS → Int32 → Prop) (τ : MS) (v3 : Int32) (v4 : Nat) (t0 t1 t2 : Int32), vp_in t2 3 → rOk Tm Γ τ → (∀ τ', rOk Tm Γ τ' → K τ' (v3 + 1)) → u_X11_weddingsOf_83 Γ post a1 K τ v3 v4 t0 t1 t2 := by
    intro K τ v3 v4 t0 t1 t2 ht O hK
    unfold u_X11_weddingsOf_83
    exact ⟨ht, v2, fun _ => ⟨v2, hK _ (up64 (up64 O))⟩, fun _ => ⟨v2, hK _ (up64 (up64 O))⟩⟩
  have d63 : ∀ (K : MS → Int32 → Prop) (τ : MS) (v3 : Int32) (v4 : Nat) (t0 t1 t2 : Int32), vp_in t2 3 → rOk Tm Γ τ → (∀ τ', rOk Tm Γ τ' → K τ' (v3 + 1)) → u_X11_weddingsOf_63 Γ post a1 K τ v3 v4 t0 t1 t2 := by
    intro K τ v3 v4 t0 t1 t2 ht O hK
    unfold u_X11_weddingsOf_63
    exact ⟨ht, v1, fun _ => d83 K _ _ _ _ _ _ v1 (up64 O) hK, fun _ => d83 K _ _ _ _ _ _ v1 (up64 O) hK⟩
  unfold w_X11_weddingsOf
  have O := O.rw0 (k := 64) (f := fun _ => 0) (by decide)
  have := inv_loop (fun k (q : MS × Int32) => u_X11_weddingsOf_6 Γ post a1 k q.1 q.2) (fun j q => rOk Tm Γ q.1 ∧ q.2 = nI j) Γ.2.2.1 (by
    rintro ⟨τ, v⟩ ⟨O, rfl⟩
    have O : rOk Tm Γ τ := O
    show u_X11_weddingsOf_6 Γ post a1 1 τ (nI Γ.2.2.1)
    unfold u_X11_weddingsOf_6 w_lw_Jx4a65c_size_8abf5
    rw [O.w]
    exact ⟨fun _ => h _ _ O.mrg, fun c => absurd (le_self _) c⟩) (by
    rintro j k ⟨τ, v⟩ hj ⟨O, rfl⟩ ih
    have O : rOk Tm Γ τ := O
    have nx : ∀ τ', rOk Tm Γ τ' → u_X11_weddingsOf_6 Γ post a1 k τ' (nI j + 1) := fun τ' O' => by rw [nI_1]; exact ih (τ', nI (j + 1)) ⟨O', rfl⟩
    show u_X11_weddingsOf_6 Γ post a1 (k + 1) τ (nI j)
    unfold u_X11_weddingsOf_6 w_lw_Jx4a65c_size_8abf5
    rw [O.w]
    exact ⟨fun c => absurd c (nI_ge hj (by omega)), fun _ => sf_wget O.mrg hj rfl ⟨⟨by omega, hj⟩, sf_isIn (fun r => ⟨fun _ => nx _ O.mrg.mrg.mrg, fun _ => ⟨v0, fun _ => d63 _ _ _ _ _ _ _ v0 O.mrg.mrg.mrg nx, fun _ => d63 _ _ _ _ _ _ _ v0 O.mrg.mrg.mrg nx⟩⟩)⟩⟩) 0 (by omega) (_, 0) ⟨O, nI_0.symm⟩
  exact this
theorem sf_ofPlayerNow {post : Int32 → MS → Prop} {p n : Nat} (O : rOk Tm Γ σ) (hp : p < Γ.1) (e : a1 = nI p) (hn : n ≤ 8) (e2 : a2 = nI n) (h : ∀ r τ, rOk Tm Γ τ → post r τ) : w_X11_ofPlayerNow Γ post σ a1 a2 := by
  have hP := O.hP
  unfold w_X11_ofPlayerNow
  refine sf_pget O hp e ⟨⟨by omega, hp⟩, fun _ => h _ _ O, fun c0 => ⟨fun _ => h _ _ O, fun c1 => ⟨fun _ => h _ _ O, fun c2 => ⟨fun _ => h _ _ O, fun c3 => ⟨fun _ => h _ _ O, fun c4 => ⟨fun _ => h _ _ O, fun c5 => sf_weddingsOf O (fun f τ O' => ⟨?_, h _ _ (O'.mrg.rw0 (by decide))⟩)⟩⟩⟩⟩⟩⟩
  subst e2
  have h6 : 6 ≤ n := by
    rcases Nat.lt_or_ge n 6 with d | d
    · exfalso
      have key : ∀ n, n < 6 → nI n = 0 ∨ nI n = 1 ∨ nI n = 2 ∨ nI n = 3 ∨ nI n = 4 ∨ nI n = 5 := by decide
      rcases key n d with c | c | c | c | c | c
      · exact c0 c
      · exact c1 c
      · exact c2 c
      · exact c3 c
      · exact c4 c
      · exact c5 c
    · exact d
  have key2 : ∀ n, n < 9 → 6 ≤ n → nI n - 6 = nI (n - 6) := by decide
  have ek := key2 n (by omega) h6
  have hk : n - 6 < 3 := by omega
  rw [ek]
  exact vp_in_nI hk (by decide)
theorem sf_ofPlayer {post : Int32 → MS → Prop} (O : rOk Tm Γ σ) (h : ∀ r τ, rOk Tm Γ τ → post r τ) : w_X11_ofPlayer Γ post σ a1 a2 := by
  unfold w_X11_ofPlayer
  have O := O.up (k := 0) (j := 0) (v := 0) (by unfold rPr; omega)
  exact sf_isPlayer O ⟨fun _ => sf_refuse O h, fun c => absurd rfl c⟩ (fun b r hb e hr => ⟨fun c => absurd c hr, fun _ => sf_isr (lo := 0) (hi := 8) rfl rfl (by decide) (by decide) ⟨fun _ => sf_refuse O h, fun c => absurd rfl c⟩ (fun n r2 h0 h8 e2 hr2 => ⟨fun c => absurd c hr2, fun _ => sf_ofPlayerNow O hb e h8 e2 h⟩)⟩)
end RSAFE5
end
section
/-! THE REFERENCE IS SAFE: what would be lost, apart, the desk, soundness -/
section RSAFE6
variable {Tm : MS} {Γ : RG} {σ τ : MS} {a a0 a1 a2 a3 a4 b c : Int32}
theorem inv_loop_b {S : Type} (U : Nat → S → Prop) (I : Nat → S → Prop) (n N : Nat) (hN : n + 1 ≤ N) (hz : ∀ s, I n s → U 1 s) (hs : ∀ i k s, i < n → I i s → (∀ s', I (i + 1) s' → U k s') → U (k + 1) s) (s : S) (h : I 0 s) : ∃ k, k ≤ N ∧ U k s := by
  have key : ∀ d i, i + d = n → ∀ s, I i s → U (d + 1) s := by
    intro d
    induction d with
    | zero => intro i hi s h; obtain rfl : i = n := by omega
              exact hz s h
    | succ d ih => intro i hi s h; exact hs i (d + 1) s (by omega) h (fun s' h' => ih (i + 1) (by omega) s' h')
  exact ⟨n + 1, hN, key n 0 (by omega) s h⟩
theorem sf_apart {post : Int32 → MS → Prop} (O : rOk Tm Γ σ) (h : ∀ r τ, rOk Tm Γ τ → post r τ) : w_X11_apart Γ post σ := by
  have hP := O.hP
  have v2 : vp_in 2 3 := vp_in_nI (n := 2) (by decide) (by decide)
  have key : ∀ x y : Int32, ∃ k, k ≤ 11 ∧ u_X11_apart_22 Γ post k σ x y 0 := by
    intro x y
    have := inv_loop_b (fun k (q : MS × Int32 × Int32 × Int32) => u_X11_apart_22 Γ post k q.1 q.2.1 q.2.2.1 q.2.2.2) (fun j q => rOk Tm Γ q.1 ∧ q.2.2.2 = nI j) Γ.1 11 (by omega) (by
      rintro ⟨τ, x, y, v⟩ ⟨O, rfl⟩
      have O : rOk Tm Γ τ := O
      show u_X11_apart_22 Γ post 1 τ x y (nI Γ.1)
      unfold u_X11_apart_22 w_lp_Jx4a65c_size_8abf5
      rw [O.p]
      exact ⟨fun _ => h _ _ O, fun c => absurd (le_self _) c⟩) (by
      rintro j k ⟨τ, x, y, v⟩ hj ⟨O, rfl⟩ ih
      have O : rOk Tm Γ τ := O
      have nx : ∀ τ' x y, rOk Tm Γ τ' → u_X11_apart_22 Γ post k τ' x y (nI j + 1) := fun τ' x y O' => by rw [nI_1]; exact ih (τ', x, y, nI (j + 1)) ⟨O', rfl⟩
      show u_X11_apart_22 Γ post (k + 1) τ x y (nI j)
      unfold u_X11_apart_22 w_lp_Jx4a65c_size_8abf5
      rw [O.p]
      exact ⟨fun c => absurd c (nI_ge hj (by omega)), fun _ => sf_weddingsOf O (fun f τ' O' => ⟨v2, nx _ _ _ (O'.mrg.rw0 (by decide))⟩)⟩) (σ, x, y, 0) ⟨O, nI_0.symm⟩
    exact this
  unfold w_X11_apart w_lp_Jx4a65c_isEmpty_aae02
  exact ⟨fun _ => ⟨fun _ => key _ _, fun _ => key _ _⟩, fun _ => ⟨fun _ => key _ _, fun _ => key _ _⟩⟩
theorem sf_deskNow {post : Int32 → MS → Prop} (O : rOk Tm Γ σ) (h : ∀ r τ, rOk Tm Γ τ → post r τ) : w_X11_deskNow Γ post σ a1 := by
  have hP := O.hP
  have hW := O.hW
  have d95 : ∃ k, u_X11_deskNow_95 Γ post a1 k σ 0 0 := by
    refine wd_loop (S := Int32) O (fun k s v => u_X11_deskNow_95 Γ post a1 k σ s v) (fun s => ?_) (fun i k s hi ih => ?_) 0
    · unfold u_X11_deskNow_95 w_lw_Jx4a65c_size_8abf5
      rw [O.w]
      exact ⟨fun _ => h _ _ O, fun c => absurd (le_self _) c⟩
    · unfold u_X11_deskNow_95 w_lw_Jx4a65c_size_8abf5
      rw [O.w]
      exact ⟨fun c => absurd c (nI_ge hi (by omega)), fun _ => sf_wget O hi rfl ⟨⟨by omega, hi⟩, fun _ => ih _, fun _ => ih _⟩⟩
  have d149 : ∃ k, u_X11_deskNow_149 Γ post a1 k σ 0 0 := by
    refine pl_loop (S := Int32) O (fun k s v => u_X11_deskNow_149 Γ post a1 k σ s v) (fun s => ?_) (fun i k s hi ih => ?_) 0
    · unfold u_X11_deskNow_149 w_lp_Jx4a65c_size_8abf5
      rw [O.p]
      exact ⟨fun _ => h _ _ O, fun c => absurd (le_self _) c⟩
    · unfold u_X11_deskNow_149 w_lp_Jx4a65c_size_8abf5
      rw [O.p]
      exact ⟨fun c => absurd c (nI_ge hi (by omega)), fun _ => sf_pget O hi rfl ⟨⟨by omega, hi⟩, sf_bc (fun r => ih _)⟩⟩
  have d192 : ∃ k, u_X11_deskNow_192 Γ post a1 k σ 0 0 := by
    refine pl_loop (S := Int32) O (fun k s v => u_X11_deskNow_192 Γ post a1 k σ s v) (fun s => ?_) (fun i k s hi ih => ?_) 0
    · unfold u_X11_deskNow_192 w_lp_Jx4a65c_size_8abf5
      rw [O.p]
      exact ⟨fun _ => h _ _ O, fun c => absurd (le_self _) c⟩
    · unfold u_X11_deskNow_192 w_lp_Jx4a65c_size_8abf5
      rw [O.p]
      exact ⟨fun c => absurd c (nI_ge hi (by omega)), fun _ => sf_pget O hi rfl ⟨⟨by omega, hi⟩, ih _⟩⟩
  have d230 : ∃ k, u_X11_deskNow_230 Γ post a1 k σ 0 0 := by
    refine pl_loop (S := Int32) O (fun k s v => u_X11_deskNow_230 Γ post a1 k σ s v) (fun s => ?_) (fun i k s hi ih => ?_) 0
    · unfold u_X11_deskNow_230 w_lp_Jx4a65c_size_8abf5
      rw [O.p]
      exact ⟨fun _ => h _ _ O, fun c => absurd (le_self _) c⟩
    · unfold u_X11_deskNow_230 w_lp_Jx4a65c_size_8abf5
      rw [O.p]
      refine ⟨fun c => absurd c (nI_ge hi (by omega)), fun _ => sf_pget O hi rfl ⟨⟨by omega, hi⟩, ?_⟩⟩
      have := inv_loop (fun m (q : Int32 × Int32) => u_X11_deskNow_265 Γ post a1 (fun σ w0 w1 => u_X11_deskNow_230 Γ post a1 k σ w0 w1) m σ q.1 (nI i) i (nI 366) q.2) (fun j q => q.2 = nI j) 366 (by
        rintro ⟨s, v⟩ rfl
        show u_X11_deskNow_265 Γ post a1 _ 1 σ s (nI i) i (nI 366) (nI 366)
        unfold u_X11_deskNow_265
        exact ⟨fun _ => ih _, fun c => absurd (le_self _) c⟩) (by
        rintro j m ⟨s, v⟩ hj rfl ih2
        show u_X11_deskNow_265 Γ post a1 _ (m + 1) σ s (nI i) i (nI 366) (nI j)
        unfold u_X11_deskNow_265
        refine ⟨fun c => absurd c (nI_ge hj (by decide)), fun _ => ⟨vp_in_nI hj (by decide), ?_⟩⟩
        rw [nI_1 j]
        exact ⟨fun _ => ih2 (_, nI (j + 1)) rfl, fun _ => ih2 (_, nI (j + 1)) rfl⟩) 0 (by omega) (s, 0) nI_0.symm
      exact this
  unfold w_X11_deskNow w_lp_Jx4a65c_size_8abf5 w_lb_Jx4a65c_size_8abf5 w_lw_Jx4a65c_size_8abf5
  exact ⟨fun _ => h _ _ O, fun _ => ⟨fun _ => h _ _ O, fun _ => ⟨fun _ => h _ _ O, fun _ => ⟨fun _ => h _ _ O, fun _ => ⟨fun _ => d95, fun _ => ⟨fun _ => d95, fun _ => ⟨fun _ => d95, fun _ => ⟨fun _ => d95, fun _ => ⟨fun _ => h _ _ O, fun _ => ⟨fun _ => d149, fun _ => ⟨fun _ => d192, fun _ => ⟨fun _ => d230, fun _ => sf_apart O h⟩⟩⟩⟩⟩⟩⟩⟩⟩⟩⟩⟩
theorem sf_desk {post : Int32 → MS → Prop} (O : rOk Tm Γ σ) (h : ∀ r τ, rOk Tm Γ τ → post r τ) : w_X11_desk Γ post σ a1 := by
  unfold w_X11_desk
  have O := O.up (k := 0) (j := 0) (v := 0) (by unfold rPr; omega)
  exact sf_is (fun r => ⟨fun _ => sf_refuse O h, fun _ => sf_deskNow O h⟩)
theorem sf_isSoundNow {post : Int32 → MS → Prop} (O : rOk Tm Γ σ) (h : ∀ r τ, r = 0 ∨ r = 1 → rOk Tm Γ τ → post r τ) : w_X11_isSoundNow Γ post σ := by
  have hP := O.hP
  have hW := O.hW
  have h0 : ∀ τ, rOk Tm Γ τ → post 0 τ := fun τ => h 0 τ (Or.inl rfl)
  have h1 : ∀ τ, rOk Tm Γ τ → post 1 τ := fun τ => h 1 τ (Or.inr rfl)
  have d158 : ∀ x y, ∃ k, u_X11_isSoundNow_158 Γ post k σ x y 0 := by
    intro x y
    have := inv_loop (fun k (q : Int32 × Int32) => u_X11_isSoundNow_158 Γ post k σ x q.1 q.2) (fun j q => q.2 = nI j) 16 (by
      rintro ⟨s, v⟩ rfl
      show u_X11_isSoundNow_158 Γ post 1 σ x s (nI 16)
      unfold u_X11_isSoundNow_158
      exact ⟨fun _ => sf_deskNow O (fun r τ O' => ⟨fun _ => ⟨fun _ => h0 _ O', fun _ => h1 _ O'⟩, fun _ => h0 _ O'⟩), fun c => absurd (le_self (nI 16)) c⟩) (by
      rintro j k ⟨s, v⟩ hj rfl ih
      show u_X11_isSoundNow_158 Γ post (k + 1) σ x s (nI j)
      unfold u_X11_isSoundNow_158
      refine ⟨fun c => absurd (show nI 16 ≤ nI j from c) (nI_ge hj (by decide)), fun _ => sf_share (vp_in_nI hj (by decide)) (fun r => ?_)⟩
      rw [nI_1 j]
      exact ih (_, nI (j + 1)) rfl) 0 (by omega) (y, 0) nI_0.symm
    exact this
  unfold w_X11_isSoundNow
  refine wd_loop (S := Int32 × Int32) O (fun k s v => u_X11_isSoundNow_6 Γ post k σ s.1 s.2 v) (fun s => ?_) (fun i k s hi ih => ?_) (0, 0)
  · unfold u_X11_isSoundNow_6 w_lw_Jx4a65c_size_8abf5
    rw [O.w]
    exact ⟨fun _ => d158 _ _, fun c => absurd (le_self _) c⟩
  · have d87 : ∀ x y, ∃ m, u_X11_isSoundNow_87 Γ post (fun σ w0 w1 w2 => u_X11_isSoundNow_6 Γ post k σ w0 w1 w2) m σ x y (nI i) i 0 := by
      intro x y
      have := inv_loop (fun m (v : Int32) => u_X11_isSoundNow_87 Γ post (fun σ w0 w1 w2 => u_X11_isSoundNow_6 Γ post k σ w0 w1 w2) m σ x y (nI i) i v) (fun j v => v = nI j) i (by
        rintro _ rfl
        show u_X11_isSoundNow_87 Γ post _ 1 σ x y (nI i) i (nI i)
        unfold u_X11_isSoundNow_87
        exact ⟨fun _ => ih (x, y), fun c => absurd (le_self _) c⟩) (by
        rintro j m _ hj rfl ih2
        have ih2 := ih2 _ (nI_1 j)
        show u_X11_isSoundNow_87 Γ post _ (m + 1) σ x y (nI i) i (nI j)
        unfold u_X11_isSoundNow_87
        exact ⟨fun c => absurd c (nI_ge hj (by omega)), fun _ => sf_wget O (by omega) rfl ⟨⟨by omega, by omega⟩, fun _ => ⟨fun _ => ⟨fun _ => h0 _ O, fun _ => ih2⟩, fun _ => ih2⟩, fun _ => ih2⟩⟩) 0 (by omega) 0 nI_0.symm
      exact this
    obtain ⟨bd, hb, eb⟩ := O.band hi
    unfold u_X11_isSoundNow_6 w_lw_Jx4a65c_size_8abf5
    rw [O.w]
    refine ⟨fun c => absurd c (nI_ge hi (by omega)), fun _ => sf_wget O hi rfl ⟨⟨by omega, hi⟩, fun _ => sf_bc (fun r => sf_lbget O hb eb ⟨hb, ?_⟩), fun _ => ih (_, _)⟩⟩
    unfold w_in_J6_intValue_8abf5
    exact sf_needed_ (fun r2 => ⟨fun _ => d87 _ _, fun _ => h0 _ O⟩)
theorem sf_isSound {post : Int32 → MS → Prop} (O : rOk Tm Γ σ) (h : ∀ r τ, rOk Tm Γ τ → post r τ) : w_X11_isSound Γ post σ := by
  unfold w_X11_isSound
  exact sf_isSoundNow (O.up (by unfold rPr; omega)) (fun r τ hr O' => ⟨nar_01r hr, h _ _ O'⟩)
end RSAFE6
end
section
/-! THE REFERENCE IS SAFE: fixing a wedding, trying some, the plan of a day -/
section RSAFE7
variable {Tm : MS} {Γ : RG} {σ τ : MS} {a a0 a1 a2 a3 a4 b c : Int32}
/-- the walk over the weddings is at number j -/
def itI (Tm : MS) (Γ : RG) (j : Nat) (τ : MS) : Prop := rOk Tm Γ τ ∧ τ 64 0 = nI j ∧ τ 64 2 = τ 3 0
theorem itI.next {j : Nat} (h : itI Tm Γ j τ) : itI Tm Γ (j + 1) (up2 (up2 τ 64 0 (nI (j + 1))) 64 1 (nI j)) := by
  obtain ⟨O, h1, h2⟩ := h
  refine ⟨(O.up (by unfold rPr; omega)).up (by unfold rPr; omega), ?_, ?_⟩
  · rw [up2_at (Or.inr (by decide)), up2_same]
  · rw [up2_at (Or.inr (by decide)), up2_at (Or.inr (by decide)), up2_at (Or.inl (by decide)), up2_at (Or.inl (by decide))]; exact h2
theorem itI.up {j k i : Nat} {v : Int32} (h : itI Tm Γ j τ) (hp : ¬ rPr k i) (h3 : k ≠ 3) (h64 : k ≠ 64) : itI Tm Γ j (up2 τ k i v) := by
  obtain ⟨O, h1, h2⟩ := h
  refine ⟨O.up hp, ?_, ?_⟩
  · rw [up2_at (Or.inl (Ne.symm h64))]; exact h1
  · rw [up2_at (Or.inl (Ne.symm h64)), up2_at (Or.inl (Ne.symm h3))]; exact h2
theorem itI.start (O : rOk Tm Γ τ) : itI Tm Γ 0 (rw0 τ 64 (itR (τ 3 0))) := by
  refine ⟨O.rw0 (by decide), ?_, ?_⟩
  · rw [rw0_eq]; rfl
  · rw [rw0_eq, rw0_ne (by decide)]; rfl
theorem itI.fin (h : itI Tm Γ Γ.2.2.1 τ) : b01 (!decide (τ 64 0 = τ 3 2)) = 0 := by
  rw [h.2.1, h.1.w, decide_eq_true rfl]; rfl
theorem itI.go {j : Nat} (h : itI Tm Γ j τ) (hj : j < Γ.2.2.1) : ¬ b01 (!decide (τ 64 0 = τ 3 2)) = 0 := by
  have hW := h.1.hW
  have ne : ¬ nI j = nI Γ.2.2.1 := fun e => absurd (show nI Γ.2.2.1 ≤ nI j by rw [e]; exact le_self _) (nI_ge hj (by omega))
  rw [h.2.1, h.1.w, decide_eq_false ne]
  decide
end RSAFE7
end
section
/-! THE REFERENCE IS SAFE: the songs' order, counts below a number, who is behind -/
section RSAFE8
variable {Tm : MS} {Γ : RG} {σ τ ρ : MS} {a a0 a1 a2 a3 a4 b c : Int32}
theorem mrg_self : mrg τ τ = τ := by
  funext k
  unfold mrg
  by_cases h : k < 64
  · rw [if_pos h]
  · rw [if_neg h]
noncomputable def cnt (P : Nat → Prop) : Nat → Nat
  | 0 => 0
  | n + 1 => cnt P n + @ite Nat (P n) (Classical.propDecidable (P n)) 1 0
theorem cnt_le {P : Nat → Prop} : ∀ n, cnt P n ≤ n
  | 0 => Nat.le_refl _
  | n + 1 => by
    have := cnt_le (P := P) n
    unfold cnt
    split <;> omega
theorem cnt_all {P : Nat → Prop} : ∀ n, (∀ i, i < n → P i) → cnt P n = n
  | 0, _ => rfl
  | n + 1, h => by
    have := cnt_all n (fun i hi => h i (by omega))
    unfold cnt
    rw [if_pos (h n (by omega))]
    omega
theorem cnt_mono {P Q : Nat → Prop} : ∀ n, (∀ i, i < n → P i → Q i) → cnt P n ≤ cnt Q n
  | 0, _ => Nat.le_refl _
  | n + 1, h => by
    have h1 := cnt_mono n (fun i hi => h i (by omega))
    have h2 := h n (by omega)
    unfold cnt
    by_cases p : P n
    · rw [if_pos p, if_pos (h2 p)]; omega
    · rw [if_neg p]; omega
theorem cnt_lt {P Q : Nat → Prop} : ∀ n, (∀ i, i < n → P i → Q i) → (∃ i, i < n ∧ ¬ P i ∧ Q i) → cnt P n + 1 ≤ cnt Q n
  | 0, _, h2 => by obtain ⟨i, hi, _⟩ := h2; omega
  | n + 1, h, h2 => by
    obtain ⟨i, hi, hp, hq⟩ := h2
    unfold cnt
    rcases Nat.eq_or_lt_of_le (Nat.le_of_lt_succ hi) with e | e
    · subst e
      have h1 := cnt_mono i (fun j hj => h j (by omega))
      rw [if_neg hp, if_pos hq]; omega
    · have h1 := cnt_lt n (fun j hj => h j (by omega)) ⟨i, e, hp, hq⟩
      by_cases p : P n
      · rw [if_pos p, if_pos (h n (by omega) p)]; omega
      · rw [if_neg p]; omega
theorem cnt_add {P Q : Nat → Prop} {m : Nat} : ∀ n, (∀ i, i < n → Q i → P i ∨ i = m) → cnt Q n ≤ cnt P n + 1 := by
  have key : ∀ n, (∀ i, i < n → Q i → P i ∨ i = m) → cnt Q n ≤ cnt P n + (if m < n then 1 else 0) := by
    intro n
    induction n with
    | zero => intro _; exact Nat.zero_le _
    | succ n ih =>
      intro h
      have h1 := ih (fun i hi => h i (by omega))
      have h2 := h n (by omega)
      unfold cnt
      by_cases q : Q n
      · rcases h2 q with p | p
        · rw [if_pos q, if_pos p]
          split at h1 <;> split <;> omega
        · subst p
          rw [if_pos q, if_neg (Nat.lt_irrefl n)] at *
          rw [if_pos (Nat.lt_succ_self n)]
          omega
      · rw [if_neg q]
        have h3 : (if m < n then 1 else 0) ≤ (if m < n + 1 then 1 else 0) := by split <;> split <;> omega
        exact Nat.le_trans h1 (by omega)
  intro n h
  have := key n h
  split at this <;> omega
/-- song j comes later than song i -/
def lat (ρ : MS) (i j : Nat) : Prop := ρ 8 i < ρ 8 j ∨ (ρ 8 j = ρ 8 i ∧ i < j)
theorem lat_irrefl {i : Nat} : ¬ lat ρ i i := by
  rintro (h | h)
  · rw [Int32.lt_iff_toInt_lt] at h; omega
  · omega
theorem lat_trans {i j k : Nat} (h1 : lat ρ i j) (h2 : lat ρ j k) : lat ρ i k := by
  rcases h1 with h1 | ⟨h1, h1'⟩
  · rcases h2 with h2 | ⟨h2, h2'⟩
    · left
      rw [Int32.lt_iff_toInt_lt] at *
      omega
    · left; rw [h2]; exact h1
  · rcases h2 with h2 | ⟨h2, h2'⟩
    · left; rw [← h1]; exact h2
    · right; exact ⟨by rw [h2, h1], by omega⟩
def nearV (ρ : MS) (i j : Nat) : Int32 := if 0 ≤ ρ 7 i - ρ 7 j then ρ 7 i - ρ 7 j else 0 - (ρ 7 i - ρ 7 j)
def bhP (ρ : MS) (i j : Nat) : Prop := lat ρ i j ∧ ¬ 2 < (if 12 - nearV ρ i j < nearV ρ i j then 12 - nearV ρ i j else nearV ρ i j)
theorem bhP_same {i j : Nat} (h7 : σ 7 = ρ 7) (h8 : σ 8 = ρ 8) : bhP σ i j = bhP ρ i j := by
  unfold bhP lat nearV
  rw [h7, h8]
theorem sf_bh {post : Int32 → MS → Prop} {i j : Nat} (hi : i < 16) (hj : j < 16) (e1 : a1 = nI i) (e2 : a2 = nI j) (h1 : bhP σ i j → post 1 σ) (h0 : ¬ bhP σ i j → post 0 σ) : w_X11_isBehind Γ post σ a1 a2 := by
  subst e1
  subst e2
  have ci : (nI i).toNatClampNeg = i := nI_clamp (by omega)
  have cj : (nI j).toNatClampNeg = j := nI_clamp (by omega)
  have vi : vp_in (nI i) 16 := vp_in_nI hi (by decide)
  have vj : vp_in (nI j) 16 := vp_in_nI hj (by decide)
  have f1 : lat σ i j → u_X11_isBehind_40 Γ post (nI i) (nI j) σ 1 := fun hl => by
    unfold u_X11_isBehind_40
    rw [ci, cj]
    refine ⟨vi, vj, fun c => absurd c (by decide), fun _ y7 h7 y8 h8 => ?_⟩
    subst h7
    subst h8
    exact ⟨fun c => h0 (fun z => z.2 c), fun c => h1 ⟨hl, c⟩⟩
  have f0 : ¬ lat σ i j → u_X11_isBehind_40 Γ post (nI i) (nI j) σ 0 := fun hl => by
    unfold u_X11_isBehind_40
    exact ⟨vi, vj, fun _ => h0 (fun z => hl z.1), fun c => absurd rfl c⟩
  unfold w_X11_isBehind u_X11_isBehind_35 u_X11_isBehind_39
  rw [ci, cj]
  refine ⟨vj, vi, fun c => f1 (Or.inl c), fun c => ⟨vj, vi, fun c2 => ⟨fun c3 => f0 ?_, fun c3 => f1 (Or.inr ⟨c2, ?_⟩)⟩, fun c2 => f0 ?_⟩⟩
  · rintro (z | z)
    · exact c z
    · exact nI_ge z.2 (by omega) c3
  · rcases Nat.lt_or_ge i j with d | d
    · exact d
    · exact absurd (nI_le' d (by omega)) c3
  · rintro (z | z)
    · exact c z
    · exact c2 z.1
end RSAFE8
end
section
/-! THE REFERENCE IS SAFE: the best set's inner loops -/
section RSAFE9
variable {Tm : MS} {Γ : RG} {σ τ ρ : MS} {a a0 a1 a2 a3 a4 b c : Int32}
theorem bs_in {post : Nat → (Nat → Int32) → MS → Prop} {K13 : MS → Int32 → Prop} {v4 : Int32} {s : Nat} {F : Nat → Nat} (hs : s < 16) (hF : ∀ n, n < 16 → τ 64 n = nI (F n) ∧ F n ≤ 144)
    (hK : ∀ r, (r = 0 ∨ ∃ n, n < 16 ∧ bhP τ s n ∧ F n = r ∧ ¬ r = 0) → K13 (up2 τ 64 s (τ 9 s + nI r)) (v4 + 1)) : ∃ k, u_X11_bestSet_121 Γ post a1 K13 k τ v4 (nI s) 0 0 := by
  have cs : (nI s).toNatClampNeg = s := nI_clamp (by omega)
  have vs : vp_in (nI s) 16 := vp_in_nI hs (by decide)
  have := inv_loop (fun k (q : Int32 × Int32) => u_X11_bestSet_121 Γ post a1 K13 k τ v4 (nI s) q.1 q.2) (fun j q => q.2 = nI j ∧ ∃ r, q.1 = nI r ∧ (r = 0 ∨ ∃ n, n < 16 ∧ bhP τ s n ∧ F n = r ∧ ¬ r = 0)) 16 (by
    rintro ⟨x, v⟩ ⟨rfl, r, rfl, hr⟩
    show u_X11_bestSet_121 Γ post a1 K13 1 τ v4 (nI s) (nI r) (nI 16)
    unfold u_X11_bestSet_121
    rw [cs]
    exact ⟨fun _ => ⟨vs, vs, hK r hr⟩, fun c => absurd (le_self (nI 16)) c⟩) (by
    rintro j k ⟨x, v⟩ hj ⟨rfl, r, rfl, hr⟩ ih
    have cj : (nI j).toNatClampNeg = j := nI_clamp (by omega)
    have vj : vp_in (nI j) 16 := vp_in_nI hj (by decide)
    have nx : u_X11_bestSet_121 Γ post a1 K13 k τ v4 (nI s) (nI r) (nI j + 1) := by rw [nI_1]; exact ih (nI r, nI (j + 1)) ⟨rfl, r, rfl, hr⟩
    show u_X11_bestSet_121 Γ post a1 K13 (k + 1) τ v4 (nI s) (nI r) (nI j)
    unfold u_X11_bestSet_121
    refine ⟨fun c => absurd (show nI 16 ≤ nI j from c) (nI_ge hj (by decide)), fun _ => ⟨vj, fun _ => nx, fun c => sf_bh hs hj rfl rfl (fun hb => ?_) (fun hb => ?_)⟩⟩
    · rw [mrg_self, cj]
      refine ⟨fun z => absurd z (by decide), fun _ => ⟨vj, ?_⟩⟩
      rw [(hF j hj).1, nI_1 j]
      refine ih (nI (F j), nI (j + 1)) ⟨rfl, F j, rfl, Or.inr ⟨j, hj, hb, rfl, fun z => ?_⟩⟩
      rw [cj, (hF j hj).1, z] at c
      refine c (nI_le' (Nat.zero_le r) ?_)
      rcases hr with hr | ⟨n, hn, _, e, _⟩
      · rw [hr]; decide
      · rw [← e]; have := (hF n hn).2; omega
    · rw [mrg_self]
      exact ⟨fun _ => nx, fun z => absurd rfl z⟩) 0 (by omega) (0, 0) ⟨nI_0.symm, 0, nI_0.symm, Or.inl rfl⟩
  exact this
theorem bs_pick {post : Nat → (Nat → Int32) → MS → Prop} {K13 : MS → Int32 → Prop} {v4 : Int32} (hd : cnt (fun i => ¬ τ 65 i = 0) 16 < 16)
    (hK : ∀ s, s < 16 → τ 65 s = 0 → w_X11_isKnown Γ (fun r19 σ18 => ((r19 = 0 → K13 (mrg σ18 (up2 τ 65 s (vp_nar .boolean 1))) (v4 + 1)) ∧ (¬ r19 = 0 → (∃ k, u_X11_bestSet_121 Γ post a1 K13 k (mrg σ18 (up2 τ 65 s (vp_nar .boolean 1))) v4 (nI s) 0 0)))) (up2 τ 65 s (vp_nar .boolean 1)) a1 (nI s)) : ∃ k, u_X11_bestSet_26 Γ post a1 K13 k τ v4 (-1) 0 := by
  have := inv_loop (fun k (q : Int32 × Int32) => u_X11_bestSet_26 Γ post a1 K13 k τ v4 q.1 q.2) (fun j q => q.2 = nI j ∧ ((q.1 = -1 ∧ ∀ i, i < j → ¬ τ 65 i = 0) ∨ ∃ s, s < 16 ∧ q.1 = nI s ∧ τ 65 s = 0)) 16 (by
    rintro ⟨x, v⟩ ⟨rfl, hx⟩
    rcases hx with ⟨_, hx⟩ | ⟨s, hs, rfl, h65⟩
    · exact absurd (cnt_all 16 hx) (by omega)
    · have cs : (nI s).toNatClampNeg = s := nI_clamp (by omega)
      show u_X11_bestSet_26 Γ post a1 K13 1 τ v4 (nI s) (nI 16)
      unfold u_X11_bestSet_26
      rw [cs]
      exact ⟨fun _ => ⟨vp_in_nI hs (by decide), hK s hs h65⟩, fun c => absurd (le_self (nI 16)) c⟩) (by
    rintro j k ⟨x, v⟩ hj ⟨rfl, hx⟩ ih
    have hx : (x = -1 ∧ ∀ i, i < j → ¬ τ 65 i = 0) ∨ ∃ s, s < 16 ∧ x = nI s ∧ τ 65 s = 0 := hx
    have cj : (nI j).toNatClampNeg = j := nI_clamp (by omega)
    have vj : vp_in (nI j) 16 := vp_in_nI hj (by decide)
    have nj : τ 65 j = 0 → u_X11_bestSet_26 Γ post a1 K13 k τ v4 (nI j) (nI j + 1) := fun h => by rw [nI_1]; exact ih (nI j, nI (j + 1)) ⟨rfl, Or.inr ⟨j, hj, rfl, h⟩⟩
    have no : (¬ x = -1 ∨ ¬ τ 65 j = 0) → u_X11_bestSet_26 Γ post a1 K13 k τ v4 x (nI j + 1) := fun h => by
      rw [nI_1]
      refine ih (x, nI (j + 1)) ⟨rfl, ?_⟩
      rcases hx with ⟨e, hx⟩ | hx
      · refine Or.inl ⟨e, fun i hi => ?_⟩
        rcases Nat.eq_or_lt_of_le (Nat.le_of_lt_succ hi) with z | z
        · rw [z]
          rcases h with h | h
          · exact absurd e h
          · exact h
        · exact hx i z
      · exact Or.inr hx
    show u_X11_bestSet_26 Γ post a1 K13 (k + 1) τ v4 x (nI j)
    unfold u_X11_bestSet_26
    rw [cj]
    refine ⟨fun c => absurd (show nI 16 ≤ nI j from c) (nI_ge hj (by decide)), fun _ => ⟨vj, fun h => ⟨fun _ => nj h, fun c => ?_⟩, fun h => no (Or.inr h)⟩⟩
    have vx : vp_in x 16 := by
      rcases hx with ⟨e, _⟩ | ⟨s, hs, e, _⟩
      · exact absurd e c
      · rw [e]; exact vp_in_nI hs (by decide)
    exact ⟨vj, vx, fun _ => nj h, fun _ => ⟨vj, vx, fun _ => ⟨fun _ => no (Or.inl c), fun _ => nj h⟩, fun _ => no (Or.inl c)⟩⟩) 0 (by omega) (-1, 0) ⟨nI_0.symm, Or.inl ⟨rfl, fun i hi => absurd hi (by omega)⟩⟩
  exact this
end RSAFE9
end
section
/-! THE REFERENCE IS SAFE: the best set made from the songs' numbers -/
section RSAFE10
variable {Tm : MS} {Γ : RG} {σ τ ρ : MS} {a a0 a1 a2 a3 a4 b c : Int32}
/-- each song's number is nothing, or its minutes and a number of one that is behind it -/
def bestF (ρ τ : MS) (F : Nat → Nat) : Prop := ∀ s, s < 16 → τ 64 s = nI (F s) ∧ F s ≤ 144 ∧ (F s = 0 ∨ ∃ m r, ρ 9 s = nI m ∧ 2 ≤ m ∧ F s = m + r ∧ (r = 0 ∨ ∃ n, n < 16 ∧ bhP ρ s n ∧ F n = r))
theorem bs_out {post : Nat → (Nat → Int32) → MS → Prop} {F : Nat → Nat} (h : ∀ len f τ, (∀ k, k < 64 → τ k = ρ k) → rOk Tm Γ τ → len ≤ 16 → (∀ i, i < len → ∃ s, s < 16 ∧ f i = nI s) → post len f τ) :
    ∀ d L : Nat, L ≤ d → ∀ (τ : MS) (many : Nat) (v7 : Int32) (LL : Nat → Prop), rOk Tm Γ τ → (∀ k, k < 64 → τ k = ρ k) → bestF ρ τ F → (∀ i, i < many → ∃ s, s < 16 ∧ τ 66 i = nI s) →
      ((v7 = -1 ∧ ∀ i, LL i) ∨ ∃ l, l < 16 ∧ v7 = nI l ∧ ∀ i, LL i ↔ lat ρ l i) → many + cnt LL 16 ≤ 16 → (L = 0 ∨ ∃ s, s < 16 ∧ F s = L ∧ (v7 = -1 ∨ ∃ l, l < 16 ∧ v7 = nI l ∧ bhP ρ l s)) → u_X11_bestSet_222 Γ post a1 (d + 1) τ (nI L) (nI many) v7 := by
  intro d
  induction d with
  | zero =>
    intro L hL τ many v7 LL O hlo hF hm hv hc hx
    have h7 := hlo 7 (by decide)
    have h8 := hlo 8 (by decide)
    have h9 := hlo 9 (by decide)
    obtain rfl : L = 0 := by omega
    have cm : (nI many).toNatClampNeg = many := nI_clamp (by omega)
    unfold u_X11_bestSet_222
    rw [cm]
    refine ⟨fun _ => ⟨many, rfl, by omega, ⟨nI_pos (by omega), by omega, by omega⟩, h _ _ _ (fun k hk => by rw [rw0_ne (by omega), rw0_ne (by omega)]; exact hlo k hk) ((O.rw0 (by decide)).rw0 (by decide)) (by omega) (fun i hi => ?_)⟩, fun c => absurd (le_self (nI 0)) c⟩
    rw [rw0_eq, rw0_ne (by decide)]
    obtain ⟨s, hs, e⟩ := hm i hi
    refine ⟨s, hs, ?_⟩
    unfold va_cpy
    rw [if_pos (by omega)]
    simpa using e
  | succ d ih =>
    intro L hL τ many v7 LL O hlo hF hm hv hc hx
    have h7 := hlo 7 (by decide)
    have h8 := hlo 8 (by decide)
    have h9 := hlo 9 (by decide)
    have cm : (nI many).toNatClampNeg = many := nI_clamp (by omega)
    unfold u_X11_bestSet_222
    rw [cm]
    refine ⟨fun _ => ⟨many, rfl, by omega, ⟨nI_pos (by omega), by omega, by omega⟩, h _ _ _ (fun k hk => by rw [rw0_ne (by omega), rw0_ne (by omega)]; exact hlo k hk) ((O.rw0 (by decide)).rw0 (by decide)) (by omega) (fun i hi => ?_)⟩, fun hL0 => ?_⟩
    · rw [rw0_eq, rw0_ne (by decide)]
      obtain ⟨s, hs, e⟩ := hm i hi
      refine ⟨s, hs, ?_⟩
      unfold va_cpy
      rw [if_pos (by omega)]
      simpa using e
    have hLp : ¬ L = 0 := fun e => hL0 (by rw [e]; exact le_self _)
    have hLs : L < 2 ^ 31 := by
      rcases hx with e | ⟨s, hs, e, _⟩
      · omega
      · have := (hF s hs).2.1; omega
    have d262 : ∀ j, j < 16 → F j = L → (v7 = -1 ∨ ∃ l, l < 16 ∧ v7 = nI l ∧ bhP ρ l j) → u_X11_bestSet_262 Γ post a1 (fun σ w0 w1 w2 => u_X11_bestSet_222 Γ post a1 (d + 1) σ w0 w1 w2) τ (nI L) (nI many) (nI j) := by
      intro j hj hFj hl
      have cj : (nI j).toNatClampNeg = j := nI_clamp (by omega)
      obtain ⟨m, r, em, hm2, er, hr⟩ := (hF j hj).2.2.resolve_left (by omega)
      have hLj : LL j := by
        rcases hv with ⟨_, hv⟩ | ⟨l, hl16, e, hv⟩
        · exact hv j
        · rcases hl with e2 | ⟨l2, hl2, e2, hb⟩
          · have := nI_pos (n := l) (by omega)
            rw [← e, e2] at this
            exact absurd (by decide) this
          · obtain rfl : l = l2 := (nI_eq (by omega) (by omega)).mp (e.symm.trans e2)
            exact (hv j).mpr hb.1
      have hcn : cnt (fun i => lat ρ j i) 16 + 1 ≤ cnt LL 16 := by
        refine cnt_lt 16 (fun i _ hi => ?_) ⟨j, hj, lat_irrefl, hLj⟩
        rcases hv with ⟨_, hv⟩ | ⟨l, hl16, e, hv⟩
        · exact hv i
        · exact (hv i).mpr (lat_trans ((hv j).mp hLj) hi)
      have hmn : many < 16 := by omega
      unfold u_X11_bestSet_262
      rw [cm, cj]
      refine ⟨vp_in_nI hmn (by decide), vp_in_nI hj (by decide), ?_⟩
      have e9 : up2 τ 66 many (nI j) 9 j = nI m := by rw [up2_at (Or.inl (by decide)), h9]; exact em
      have eL : nI L - nI m = nI r := by
        rw [← hFj, er, ← nI_add]
        grind
      show u_X11_bestSet_222 Γ post a1 (d + 1) (up2 τ 66 many (nI j)) (nI L - up2 τ 66 many (nI j) 9 j) (nI many + 1) (nI j)
      rw [e9, eL, nI_1]
      have ne : ∀ k, k ≠ 66 → up2 τ 66 many (nI j) k = τ k := fun k hk => funext (fun i => up2_at (Or.inl hk))
      refine ih r (by omega) _ (many + 1) (nI j) (fun i => lat ρ j i) (O.up (by unfold rPr; omega)) (fun k hk => by rw [ne k (by omega)]; exact hlo k hk) (fun s hs => by rw [ne 64 (by decide)]; exact hF s hs) (fun i hi => ?_) (Or.inr ⟨j, hj, rfl, fun i => Iff.rfl⟩) (by omega) ?_
      · rcases Nat.eq_or_lt_of_le (Nat.le_of_lt_succ hi) with z | z
        · rw [z, up2_same]; exact ⟨j, hj, rfl⟩
        · rw [up2_at (Or.inr (by omega))]; exact hm i z
      · rcases hr with hr | ⟨n, hn, hb, e⟩
        · exact Or.inl hr
        · exact Or.inr ⟨n, hn, e, Or.inr ⟨j, hj, rfl, hb⟩⟩
    obtain ⟨s, hs, es, hsv⟩ := hx.resolve_left hLp
    have := inv_loop (fun k (v : Int32) => u_X11_bestSet_230 Γ post a1 (fun σ w0 w1 w2 => u_X11_bestSet_222 Γ post a1 (d + 1) σ w0 w1 w2) k τ (nI L) (nI many) v7 v) (fun j v => v = nI j) s (by
      rintro _ rfl
      show u_X11_bestSet_230 Γ post a1 _ 1 τ (nI L) (nI many) v7 (nI s)
      unfold u_X11_bestSet_230
      have cs : (nI s).toNatClampNeg = s := nI_clamp (by omega)
      rw [cs]
      refine ⟨vp_in_nI hs (by decide), fun _ => ⟨fun e => d262 s hs es (Or.inl e), fun c => ?_⟩, fun c => absurd (by rw [(hF s hs).1, es]) c⟩
      obtain ⟨l, hl, el, hb⟩ := hsv.resolve_left c
      refine sf_bh hl hs el rfl (fun _ => ?_) (fun z => absurd (by rw [bhP_same h7 h8]; exact hb) z)
      rw [mrg_self]
      exact ⟨fun z => absurd z (by decide), fun _ => d262 s hs es (Or.inr ⟨l, hl, el, hb⟩)⟩) (by
      rintro j k _ hj rfl ih2
      have nx : u_X11_bestSet_230 Γ post a1 (fun σ w0 w1 w2 => u_X11_bestSet_222 Γ post a1 (d + 1) σ w0 w1 w2) k τ (nI L) (nI many) v7 (nI j + 1) := ih2 _ (nI_1 j)
      show u_X11_bestSet_230 Γ post a1 _ (k + 1) τ (nI L) (nI many) v7 (nI j)
      unfold u_X11_bestSet_230
      have cj : (nI j).toNatClampNeg = j := nI_clamp (by omega)
      rw [cj]
      refine ⟨vp_in_nI (by omega) (by decide), fun e => ?_, fun _ => nx⟩
      have eF : F j = L := (nI_eq (by have := (hF j (by omega)).2.1; omega) hLs).mp ((hF j (by omega)).1.symm.trans e)
      refine ⟨fun e2 => d262 j (by omega) eF (Or.inl e2), fun c => ?_⟩
      obtain ⟨l, hl, el⟩ : ∃ l, l < 16 ∧ v7 = nI l := by
        rcases hsv with e2 | ⟨l, hl, el, _⟩
        · exact absurd e2 c
        · exact ⟨l, hl, el⟩
      refine sf_bh hl (show j < 16 by omega) el rfl (fun hb => ?_) (fun _ => ?_)
      · rw [mrg_self]
        exact ⟨fun z => absurd z (by decide), fun _ => d262 j (by omega) eF (Or.inr ⟨l, hl, el, by rw [← bhP_same h7 h8]; exact hb⟩)⟩
      · rw [mrg_self]
        exact ⟨fun _ => nx, fun z => absurd rfl z⟩) 0 (by omega) 0 nI_0.symm
    exact this
end RSAFE10
end
section
/-! THE REFERENCE IS SAFE: the best set -/
section RSAFE11
variable {Tm : MS} {Γ : RG} {σ τ ρ : MS} {a a0 a1 a2 a3 a4 b c : Int32}
theorem bs_max {post : Nat → (Nat → Int32) → MS → Prop} {F : Nat → Nat} (h : ∀ len f τ, (∀ k, k < 64 → τ k = ρ k) → rOk Tm Γ τ → len ≤ 16 → (∀ i, i < len → ∃ s, s < 16 ∧ f i = nI s) → post len f τ)
    (O : rOk Tm Γ τ) (hlo : ∀ k, k < 64 → τ k = ρ k) (hF : bestF ρ τ F) : ∃ k, u_X11_bestSet_186 Γ post a1 k τ 0 0 := by
  have := inv_loop (fun k (q : Int32 × Int32) => u_X11_bestSet_186 Γ post a1 k τ q.1 q.2) (fun j q => q.2 = nI j ∧ ∃ L, q.1 = nI L ∧ (L = 0 ∨ ∃ s, s < 16 ∧ F s = L)) 16 (by
    rintro ⟨x, v⟩ ⟨rfl, L, rfl, hL⟩
    show u_X11_bestSet_186 Γ post a1 1 τ (nI L) (nI 16)
    unfold u_X11_bestSet_186
    refine ⟨fun _ => ⟨L + 1, ?_⟩, fun c => absurd (le_self (nI 16)) c⟩
    have ne : ∀ k, k ≠ 66 → rw0 τ 66 (fun _ => 0) k = τ k := fun k hk => rw0_ne hk
    refine bs_out (ρ := ρ) (F := F) h L L (Nat.le_refl _) (rw0 τ 66 (fun _ => 0)) 0 (-1) (fun _ => True) (O.rw0 (by decide)) (fun k hk => by rw [ne k (by omega)]; exact hlo k hk) (fun s hs => by rw [ne 64 (by decide)]; exact hF s hs) (fun i hi => absurd hi (by omega)) (Or.inl ⟨rfl, fun _ => trivial⟩) (by have := cnt_le (P := fun _ => True) 16; omega) ?_
    rcases hL with e | ⟨s, hs, e⟩
    · exact Or.inl e
    · exact Or.inr ⟨s, hs, e, Or.inl rfl⟩) (by
    rintro j k ⟨x, v⟩ hj ⟨rfl, L, rfl, hL⟩ ih
    have cj : (nI j).toNatClampNeg = j := nI_clamp (by omega)
    show u_X11_bestSet_186 Γ post a1 (k + 1) τ (nI L) (nI j)
    unfold u_X11_bestSet_186
    rw [cj, (hF j hj).1, nI_1 j]
    refine ⟨fun c => absurd (show nI 16 ≤ nI j from c) (nI_ge hj (by decide)), fun _ => ⟨vp_in_nI hj (by decide), ?_⟩⟩
    by_cases c : nI L < nI (F j)
    · rw [if_pos c]; exact ih (nI (F j), nI (j + 1)) ⟨rfl, F j, rfl, Or.inr ⟨j, hj, rfl⟩⟩
    · rw [if_neg c]; exact ih (nI L, nI (j + 1)) ⟨rfl, L, rfl, hL⟩) 0 (by omega) (0, 0) ⟨nI_0.symm, 0, nI_0.symm, Or.inl rfl⟩
  exact this
/-- j songs are done; those that are not have nothing -/
def bsJ (Tm : MS) (Γ : RG) (ρ : MS) (j : Nat) (τ : MS) : Prop := rOk Tm Γ τ ∧ (∀ k, k < 64 → τ k = ρ k) ∧ cnt (fun i => ¬ τ 65 i = 0) 16 ≤ j ∧ ∃ F : Nat → Nat, ∀ s, s < 16 → τ 64 s = nI (F s) ∧ F s ≤ 9 * j ∧ (F s = 0 ∨ (¬ τ 65 s = 0 ∧ ∃ m r, ρ 9 s = nI m ∧ 2 ≤ m ∧ F s = m + r ∧ (r = 0 ∨ ∃ n, n < 16 ∧ bhP ρ s n ∧ ¬ τ 65 n = 0 ∧ F n = r)))
theorem sf_bestSetF {post : Nat → (Nat → Int32) → MS → Prop} (O : rOk Tm Γ σ) (h : ∀ len f τ, (∀ k, k < 64 → τ k = σ k) → rOk Tm Γ τ → len ≤ 16 → (∀ i, i < len → ∃ s, s < 16 ∧ f i = nI s) → post len f τ) : w_X11_bestSet Γ post σ a1 := by
  unfold w_X11_bestSet
  have one : ¬ vp_nar .boolean 1 = 0 := by decide
  have J0 : bsJ Tm Γ σ 0 (rw0 (rw0 σ 64 (fun _ => 0)) 65 (fun _ => 0)) := by
    have ne : ∀ k, k ≠ 64 → k ≠ 65 → rw0 (rw0 σ 64 (fun _ => 0)) 65 (fun _ => 0) k = σ k := fun k h1 h2 => by rw [rw0_ne h2, rw0_ne h1]
    refine ⟨(O.rw0 (by decide)).rw0 (by decide), fun k hk => ne k (by omega) (by omega), ?_, fun _ => 0, fun s hs => ⟨by rw [rw0_ne (by decide), rw0_eq, nI_0], Nat.zero_le _, Or.inl rfl⟩⟩
    have e : cnt (fun i => ¬ rw0 (rw0 σ 64 (fun _ => 0)) 65 (fun _ => 0) 65 i = 0) 16 ≤ cnt (fun _ => False) 16 := cnt_mono 16 (fun i _ hi => hi (by rw [rw0_eq]))
    have e2 : ∀ n, cnt (fun _ => False) n = 0 := fun n => by
      induction n with
      | zero => rfl
      | succ n ih => unfold cnt; rw [ih, if_neg (fun h => h)]
    rw [e2] at e
    exact e
  have := inv_loop (fun k (q : MS × Int32) => u_X11_bestSet_13 Γ post a1 k q.1 q.2) (fun j q => bsJ Tm Γ σ j q.1 ∧ q.2 = nI j) 16 (by
    rintro ⟨τ, v⟩ ⟨J, rfl⟩
    obtain ⟨O', hlo, _, F, hF⟩ := (show bsJ Tm Γ σ 16 τ from J)
    show u_X11_bestSet_13 Γ post a1 1 τ (nI 16)
    unfold u_X11_bestSet_13
    refine ⟨fun _ => bs_max (ρ := σ) (F := F) h O' hlo (fun s hs => ⟨(hF s hs).1, by have := (hF s hs).2.1; omega, ?_⟩), fun c => absurd (le_self (nI 16)) c⟩
    rcases (hF s hs).2.2 with e | ⟨_, m, r, h1, h2, h3, h4⟩
    · exact Or.inl e
    · refine Or.inr ⟨m, r, h1, h2, h3, ?_⟩
      rcases h4 with e | ⟨n, hn, hb, _, e⟩
      · exact Or.inl e
      · exact Or.inr ⟨n, hn, hb, e⟩) (by
    rintro j k ⟨τ, v⟩ hj ⟨J, rfl⟩ ih
    obtain ⟨O', hlo, hc, F, hF⟩ := (show bsJ Tm Γ σ j τ from J)
    have h7 := hlo 7 (by decide)
    have h8 := hlo 8 (by decide)
    have h9 := hlo 9 (by decide)
    have nx : ∀ τ', bsJ Tm Γ σ (j + 1) τ' → u_X11_bestSet_13 Γ post a1 k τ' (nI (j + 1)) := fun τ' J' => ih (τ', nI (j + 1)) ⟨J', rfl⟩
    show u_X11_bestSet_13 Γ post a1 (k + 1) τ (nI j)
    unfold u_X11_bestSet_13
    refine ⟨fun c => absurd (show nI 16 ≤ nI j from c) (nI_ge hj (by decide)), fun _ => bs_pick (by omega) (fun s hs h65 => ?_)⟩
    have ne : ∀ k, k ≠ 65 → up2 τ 65 s (vp_nar .boolean 1) k = τ k := fun k hk => funext (fun i => up2_at (Or.inl hk))
    have d1 : ∀ i, ¬ τ 65 i = 0 → ¬ up2 τ 65 s (vp_nar .boolean 1) 65 i = 0 := fun i hi => by
      by_cases z : i = s
      · rw [z, up2_same]; exact one
      · rw [up2_at (Or.inr z)]; exact hi
    have ds : ¬ up2 τ 65 s (vp_nar .boolean 1) 65 s = 0 := by rw [up2_same]; exact one
    have hc1 : cnt (fun i => ¬ up2 τ 65 s (vp_nar .boolean 1) 65 i = 0) 16 ≤ j + 1 := by
      have := cnt_add (P := fun i => ¬ τ 65 i = 0) (Q := fun i => ¬ up2 τ 65 s (vp_nar .boolean 1) 65 i = 0) (m := s) 16 (fun i _ hi => by
        by_cases z : i = s
        · exact Or.inr z
        · rw [up2_at (Or.inr z)] at hi; exact Or.inl hi)
      omega
    have Fs : F s = 0 := by
      rcases (hF s hs).2.2 with e | ⟨e, _⟩
      · exact e
      · exact absurd h65 e
    have O1 : rOk Tm Γ (up2 τ 65 s (vp_nar .boolean 1)) := O'.up (by unfold rPr; omega)
    refine sf_isKnown O1 (fun r => ?_)
    rw [mrg_self, nI_1]
    refine ⟨fun _ => nx (up2 τ 65 s (vp_nar .boolean 1)) ⟨O1, fun k hk => by rw [ne k (by omega)]; exact hlo k hk, hc1, F, fun s' hs' => ?_⟩, fun _ => bs_in (F := F) hs (fun n hn => ?_) (fun r hr => ?_)⟩
    · show up2 τ 65 s (vp_nar .boolean 1) 64 s' = nI (F s') ∧ _
      rw [ne 64 (by decide)]
      refine ⟨(hF s' hs').1, by have := (hF s' hs').2.1; omega, ?_⟩
      rcases (hF s' hs').2.2 with e | ⟨hd, m, r, h1, h2, h3, h4⟩
      · exact Or.inl e
      · refine Or.inr ⟨d1 _ hd, m, r, h1, h2, h3, ?_⟩
        rcases h4 with e | ⟨n, hn, hb, hd2, e⟩
        · exact Or.inl e
        · exact Or.inr ⟨n, hn, hb, d1 _ hd2, e⟩
    · rw [ne 64 (by decide)]
      exact ⟨(hF n hn).1, by have := (hF n hn).2.1; omega⟩
    · rw [nI_1]
      obtain ⟨m, hm2, hm9, em⟩ := O.min hs
      have em1 : up2 τ 65 s (vp_nar .boolean 1) 9 s = nI m := by rw [ne 9 (by decide), h9]; exact em
      rw [em1, nI_add]
      have hrB : r ≤ 9 * j := by
        rcases hr with e | ⟨n, hn, _, e, _⟩
        · omega
        · rw [← e]; exact (hF n hn).2.1
      have ne2 : ∀ k, k ≠ 64 → up2 (up2 τ 65 s (vp_nar .boolean 1)) 64 s (nI (m + r)) k = up2 τ 65 s (vp_nar .boolean 1) k := fun k hk => funext (fun i => up2_at (Or.inl hk))
      refine nx (up2 (up2 τ 65 s (vp_nar .boolean 1)) 64 s (nI (m + r))) ⟨O1.up (by unfold rPr; omega), fun k hk => by rw [ne2 k (by omega), ne k (by omega)]; exact hlo k hk, by rw [ne2 65 (by decide)]; exact hc1, fun i => if i = s then m + r else F i, fun s' hs' => ?_⟩
      show up2 (up2 τ 65 s (vp_nar .boolean 1)) 64 s (nI (m + r)) 64 s' = nI (if s' = s then m + r else F s') ∧ (if s' = s then m + r else F s') ≤ _ ∧ ((if s' = s then m + r else F s') = 0 ∨ (¬ up2 (up2 τ 65 s (vp_nar .boolean 1)) 64 s (nI (m + r)) 65 s' = 0 ∧ _))
      rw [ne2 65 (by decide)]
      by_cases z : s' = s
      · subst z
        rw [if_pos rfl, up2_same]
        refine ⟨rfl, by omega, Or.inr ⟨ds, m, r, em, hm2, if_pos rfl, ?_⟩⟩
        rcases hr with e | ⟨n, hn, hb, e, hr0⟩
        · exact Or.inl e
        · refine Or.inr ⟨n, hn, by rw [← bhP_same (σ := up2 τ 65 s' (vp_nar .boolean 1)) (by rw [ne 7 (by decide)]; exact h7) (by rw [ne 8 (by decide)]; exact h8)]; exact hb, d1 n ?_, ?_⟩
          · rcases (hF n hn).2.2 with e2 | ⟨e2, _⟩
            · exact absurd (e ▸ e2) hr0
            · exact e2
          · exact (if_neg (fun q => hr0 (by rw [← e, q]; exact Fs))).trans e
      · rw [if_neg z, up2_at (Or.inr z), ne 64 (by decide)]
        refine ⟨(hF s' hs').1, by have := (hF s' hs').2.1; omega, ?_⟩
        rcases (hF s' hs').2.2 with e | ⟨hd, m', r', h1, h2, h3, h4⟩
        · exact Or.inl e
        · refine Or.inr ⟨d1 _ hd, m', r', h1, h2, (if_neg z).trans h3, ?_⟩
          rcases h4 with e | ⟨n, hn, hb, hd2, e⟩
          · exact Or.inl e
          · exact Or.inr ⟨n, hn, hb, d1 _ hd2, (if_neg (fun q => hd2 (by rw [q]; exact h65))).trans e⟩) 0 (by omega) (_, 0) ⟨J0, nI_0.symm⟩
  exact this
theorem sf_bestSet {post : Nat → (Nat → Int32) → MS → Prop} (O : rOk Tm Γ σ) (h : ∀ len f τ, rOk Tm Γ τ → len ≤ 16 → (∀ i, i < len → ∃ s, s < 16 ∧ f i = nI s) → post len f τ) : w_X11_bestSet Γ post σ a1 := sf_bestSetF O (fun len f τ _ => h len f τ)
end RSAFE11
end
section
/-! THE REFERENCE IS SAFE: minutes of a set, the set asked for, a wedding played -/
section RSAFE12
variable {Tm : MS} {Γ : RG} {σ τ ρ : MS} {a a0 a1 a2 a3 a4 b c : Int32}
theorem sf_minutesOf {post : Int32 → MS → Prop} (O : rOk Tm Γ σ) (h : ∀ r τ, rOk Tm Γ τ → post r τ) : w_X11_minutesOf Γ post σ a1 := by
  unfold w_X11_minutesOf
  refine sf_bestSet O (fun len f τ O' hl hf => ?_)
  have O2 : rOk Tm Γ (rw0 (mrg τ σ) 64 f) := O'.mrg.rw0 (by decide)
  have := inv_loop (fun k (q : Int32 × Int32) => u_X11_minutesOf_15 Γ post a1 k (rw0 (mrg τ σ) 64 f) q.1 (nI len) q.2 len) (fun j q => q.2 = nI j) len (by
    rintro ⟨x, v⟩ rfl
    show u_X11_minutesOf_15 Γ post a1 1 (rw0 (mrg τ σ) 64 f) x (nI len) (nI len) len
    unfold u_X11_minutesOf_15
    exact ⟨fun _ => h _ _ O2, fun c => absurd (le_self _) c⟩) (by
    rintro j k ⟨x, v⟩ hj rfl ih
    have cj : (nI j).toNatClampNeg = j := nI_clamp (by omega)
    obtain ⟨s, hs, es⟩ := hf j hj
    show u_X11_minutesOf_15 Γ post a1 (k + 1) (rw0 (mrg τ σ) 64 f) x (nI len) (nI j) len
    unfold u_X11_minutesOf_15
    rw [cj, rw0_eq, es]
    refine ⟨fun c => absurd c (nI_ge hj (by omega)), fun _ => ⟨vp_in_nI hj (by omega), vp_in_nI hs (by decide), ?_⟩⟩
    rw [nI_1 j]
    exact ih (_, nI (j + 1)) rfl) 0 (by omega) (0, 0) nI_0.symm
  exact this
theorem sf_set {post : Int32 → MS → Prop} (O : rOk Tm Γ σ) (h : ∀ r τ, rOk Tm Γ τ → post r τ) : w_X11_set Γ post σ a1 a2 := by
  unfold w_X11_set u_X11_set_22 w_lp_Jx4a65c_size_8abf5
  have O := O.up (k := 0) (j := 0) (v := 0) (by unfold rPr; omega)
  exact ⟨fun _ => sf_refuse O h, fun _ => ⟨fun _ => ⟨fun _ => sf_bestSet O (fun len f τ O' _ _ => h _ _ (O'.mrg.rw0 (by decide))), fun _ => sf_minutesOf O h⟩, fun _ => sf_refuse O h⟩⟩
end RSAFE12
end
section
/-! THE REFERENCE IS SAFE: the digest -/
section RSAFE13
variable {Tm : MS} {Γ : RG} {σ τ ρ : MS} {a a0 a1 a2 a3 a4 b c : Int32}
theorem rk_loop (U : Nat → MS → Int32 → Prop) (n N : Nat) (hN : n + 1 ≤ N) (hz : ∀ τ, rOk Tm Γ τ → U 1 τ (nI n)) (hs : ∀ j k τ, j < n → rOk Tm Γ τ → (∀ τ', rOk Tm Γ τ' → U k τ' (nI j + 1)) → U (k + 1) τ (nI j)) (O : rOk Tm Γ τ) : ∃ k, k ≤ N ∧ U k τ 0 := by
  have := inv_loop_b (fun k (q : MS × Int32) => U k q.1 q.2) (fun j q => rOk Tm Γ q.1 ∧ q.2 = nI j) n N hN (by rintro ⟨τ, v⟩ ⟨O, rfl⟩; exact hz τ O) (by
    rintro j k ⟨τ, v⟩ hj ⟨O, rfl⟩ ih
    exact hs j k τ hj O (fun τ' O' => by rw [nI_1]; exact ih (τ', nI (j + 1)) ⟨O', rfl⟩)) (τ, 0) ⟨O, nI_0.symm⟩
  exact this
theorem rk_loop' (U : Nat → MS → Int32 → Prop) (n : Nat) (hz : ∀ τ, rOk Tm Γ τ → U 1 τ (nI n)) (hs : ∀ j k τ, j < n → rOk Tm Γ τ → (∀ τ', rOk Tm Γ τ' → U k τ' (nI j + 1)) → U (k + 1) τ (nI j)) (O : rOk Tm Γ τ) : ∃ k, U k τ 0 := by
  obtain ⟨k, _, h⟩ := rk_loop U n (n + 1) (Nat.le_refl _) hz hs O
  exact ⟨k, h⟩
theorem sf_add {post : MS → Prop} {x : Int64} (O : rOk Tm Γ σ) (h : ∀ τ, rOk Tm Γ τ → post τ) : w_X11_add Γ post σ x := h _ ((O.up (by unfold rPr; omega)).up (by unfold rPr; omega))
theorem sf_digest {post : Int64 → MS → Prop} (O : rOk Tm Γ σ) (h : ∀ r τ, rOk Tm Γ τ → post r τ) : w_X11_digest Γ post σ := by
  have hP := O.hP
  have hB := O.hB
  have hW := O.hW
  have d316 : ∀ τ t0, rOk Tm Γ τ → u_X11_digest_316 Γ post τ t0 := fun τ t0 O => by
    unfold u_X11_digest_316
    exact sf_add O (fun τ' O' => h _ _ O')
  have d165 : ∀ τ, rOk Tm Γ τ → ∃ k, k ≤ 15 ∧ u_X11_digest_165 Γ post k τ 0 := fun τ O => by
    refine rk_loop (fun k τ v => u_X11_digest_165 Γ post k τ v) Γ.2.2.1 15 (by omega) (fun τ O => ?_) (fun j k τ hj O ih => ?_) O
    · unfold u_X11_digest_165 w_lw_Jx4a65c_size_8abf5 w_lp_Jx4a65c_size_8abf5
      rw [O.w]
      exact ⟨fun _ => sf_minutesOf O (fun r τ O => sf_add O (fun τ O => sf_driveOf ⟨0, by decide, nI_0.symm⟩ ⟨5, by decide, rfl⟩ (fun r => sf_add O (fun τ O => sf_isSoundNow O (fun r τ _ O => ⟨fun _ => d316 _ _ O, fun _ => d316 _ _ O⟩))))), fun c => absurd (le_self _) c⟩
    · unfold u_X11_digest_165 w_lw_Jx4a65c_size_8abf5
      rw [O.w]
      refine ⟨fun c => absurd c (nI_ge hj (by omega)), fun _ => ?_⟩
      have d242 : ∀ τ, rOk Tm Γ τ → u_X11_digest_242 Γ post (fun σ w0 => u_X11_digest_165 Γ post k σ w0) τ (nI j) := fun τ O => by
        unfold u_X11_digest_242
        exact sf_wget O hj rfl ⟨⟨by omega, hj⟩, sf_bestSet O (fun len f τ' O' _ _ => sf_add (O'.mrg.rw0 (by decide)) (fun τ2 O2 => ih _ O2.mrg))⟩
      refine rk_loop' (fun m τ v => u_X11_digest_178 Γ post (fun σ w0 => u_X11_digest_165 Γ post k σ w0) m τ (nI j) v) 13 (fun τ O => ?_) (fun i m τ hi O ih2 => ?_) O
      · unfold u_X11_digest_178
        refine ⟨fun _ => ?_, fun c => absurd (le_self (nI 13)) c⟩
        refine rk_loop' (fun m τ v => u_X11_digest_203 Γ post (fun σ w0 => u_X11_digest_165 Γ post k σ w0) m τ (nI j) v) 4 (fun τ O => ?_) (fun i m τ hi O ih3 => ?_) O
        · unfold u_X11_digest_203
          exact ⟨fun _ => d242 _ O, fun c => absurd (le_self (nI 4)) c⟩
        · unfold u_X11_digest_203
          exact ⟨fun _ => d242 _ O, fun _ => sf_wget O hj rfl ⟨⟨by omega, hj⟩, fun _ => sf_fillingNow O hj rfl (fun r => sf_add O ih3), fun _ => d242 _ O⟩⟩
      · unfold u_X11_digest_178
        exact ⟨fun c => absurd (show nI 13 ≤ nI i from c) (nI_ge hi (by decide)), fun _ => sf_ofWeddingNow O hj rfl (fun r => sf_add O ih2)⟩
  have d121 : ∀ τ, rOk Tm Γ τ → ∃ k, u_X11_digest_121 Γ post k τ 0 := fun τ O => by
    refine rk_loop' (fun k τ v => u_X11_digest_121 Γ post k τ v) Γ.2.1 (fun τ O => ?_) (fun j k τ hj O ih => ?_) O
    · unfold u_X11_digest_121 w_lb_Jx4a65c_size_8abf5
      rw [O.b]
      exact ⟨fun _ => d165 _ O, fun c => absurd (le_self _) c⟩
    · unfold u_X11_digest_121 w_lb_Jx4a65c_size_8abf5
      rw [O.b]
      refine ⟨fun c => absurd c (nI_ge hj (by omega)), fun _ => ?_⟩
      refine rk_loop' (fun m τ v => u_X11_digest_134 Γ post (fun σ w0 => u_X11_digest_121 Γ post k σ w0) m τ (nI j) v) 9 (fun τ O => ?_) (fun i m τ hi O ih2 => ?_) O
      · unfold u_X11_digest_134
        exact ⟨fun _ => ih _ O, fun c => absurd (le_self (nI 9)) c⟩
      · unfold u_X11_digest_134
        exact ⟨fun c => absurd (show nI 9 ≤ nI i from c) (nI_ge hi (by decide)), fun _ => sf_ofBandNow O hj rfl (show i ≤ 8 by omega) rfl (fun r => sf_add O ih2)⟩
  have d82 : ∀ τ, rOk Tm Γ τ → ∃ k, u_X11_digest_82 Γ post k τ 0 := fun τ O => by
    refine rk_loop' (fun k τ v => u_X11_digest_82 Γ post k τ v) 16 (fun τ O => ?_) (fun j k τ hj O ih => ?_) O
    · unfold u_X11_digest_82
      exact ⟨fun _ => d121 _ O, fun c => absurd (le_self (nI 16)) c⟩
    · unfold u_X11_digest_82
      refine ⟨fun c => absurd (show nI 16 ≤ nI j from c) (nI_ge hj (by decide)), fun _ => ?_⟩
      refine rk_loop' (fun m τ v => u_X11_digest_90 Γ post (fun σ w0 => u_X11_digest_82 Γ post k σ w0) m τ (nI j) v) 6 (fun τ O => ?_) (fun i m τ hi O ih2 => ?_) O
      · unfold u_X11_digest_90
        exact ⟨fun _ => ih _ O, fun c => absurd (le_self (nI 6)) c⟩
      · unfold u_X11_digest_90
        exact ⟨fun c => absurd (show nI 6 ≤ nI i from c) (nI_ge hi (by decide)), fun _ => sf_ofSongNow O (vp_in_nI hj (by decide)) (fun r => sf_add O ih2)⟩
  have d38 : ∀ τ, rOk Tm Γ τ → ∃ k, k ≤ 11 ∧ u_X11_digest_38 Γ post k τ 0 := fun τ O => by
    refine rk_loop (fun k τ v => u_X11_digest_38 Γ post k τ v) Γ.1 11 (by omega) (fun τ O => ?_) (fun j k τ hj O ih => ?_) O
    · unfold u_X11_digest_38 w_lp_Jx4a65c_size_8abf5
      rw [O.p]
      exact ⟨fun _ => d82 _ O, fun c => absurd (le_self _) c⟩
    · unfold u_X11_digest_38 w_lp_Jx4a65c_size_8abf5
      rw [O.p]
      refine ⟨fun c => absurd c (nI_ge hj (by omega)), fun _ => ?_⟩
      refine rk_loop (fun m τ v => u_X11_digest_51 Γ post (fun σ w0 => u_X11_digest_38 Γ post k σ w0) m τ (nI j) v) 9 10 (by omega) (fun τ O => ?_) (fun i m τ hi O ih2 => ?_) O
      · unfold u_X11_digest_51
        exact ⟨fun _ => ih _ O, fun c => absurd (le_self (nI 9)) c⟩
      · unfold u_X11_digest_51
        exact ⟨fun c => absurd (show nI 9 ≤ nI i from c) (nI_ge hi (by decide)), fun _ => sf_ofPlayerNow O hj rfl (show i ≤ 8 by omega) rfl (fun r τ' O' => sf_add O' ih2)⟩
  unfold w_X11_digest
  refine rk_loop (fun k τ v => u_X11_digest_14 Γ post k τ v) 13 14 (by omega) (fun τ O => ?_) (fun j k τ hj O ih => ?_) (((O.up (by unfold rPr; omega)).up (by unfold rPr; omega)).up (by unfold rPr; omega))
  · unfold u_X11_digest_14
    exact ⟨fun _ => d38 _ O, fun c => absurd (le_self (nI 13)) c⟩
  · unfold u_X11_digest_14
    exact ⟨fun c => absurd (show nI 13 ≤ nI j from c) (nI_ge hj (by decide)), fun _ => sf_deskNow O (fun r τ' O' => sf_add O' ih)⟩
end RSAFE13
end
section
/-! THE REFERENCE IS SAFE: days go by -/
section RSAFE14
variable {Tm : MS} {Γ : RG} {σ τ ρ : MS} {a a0 a1 a2 a3 a4 b c : Int32}
/-- what playing leaves alone: today, the list of weddings, the weddings' states -/
def kPr (k j : Nat) : Prop := (k = 0 ∧ j ≤ 1) ∨ (k = 3 ∧ j = 0) ∨ (33 ≤ k ∧ k < 47 ∧ j = 7)
def kp (σ τ : MS) : Prop := ∀ k j, kPr k j → τ k j = σ k j
theorem kp.rfl' : kp σ σ := fun _ _ _ => rfl
theorem kp.up {k j : Nat} {v : Int32} (h : kp σ τ) (hk : ¬ kPr k j) : kp σ (up2 τ k j v) := fun k' j' hp => by
  rw [up2_at]
  · exact h k' j' hp
  · by_cases e : k' = k
    · by_cases e2 : j' = j
      · subst e; subst e2; exact absurd hp hk
      · exact Or.inr e2
    · exact Or.inl e
theorem kp.low (h : kp σ τ) (e : ∀ k, k < 64 → ρ k = τ k) : kp σ ρ := fun k j hp => by
  rw [e k (by unfold kPr at hp; omega)]
  exact h k j hp
theorem kp.rw0 {k : Nat} {f : Nat → Int32} (h : kp σ τ) (hk : 64 ≤ k) : kp σ (rw0 τ k f) := h.low (fun i hi => rw0_ne (by omega))
theorem kp.mrg (h : kp σ τ) : kp σ (mrg τ ρ) := h.low (fun i hi => mrg_lo hi)
/-- how many are fixed -/
noncomputable def cntF (Γ : RG) (τ : MS) : Nat := cnt (fun w => τ (33 + w) 7 = 1) Γ.2.2.1
theorem cntF_le {Γ : RG} {σ τ : MS} (h : ∀ w, w < Γ.2.2.1 → τ (33 + w) 7 = 1 → σ (33 + w) 7 = 1) : cntF Γ τ ≤ cntF Γ σ := cnt_mono _ h
/-- what was told, but today is T -/
def dyT (Tm : MS) (T : Nat) : MS := up2 Tm 0 1 (nI T)
theorem rOk.dy {T : Nat} (h : rOk Tm Γ σ) (e : σ 0 1 = nI T) : rOk (dyT Tm T) Γ σ := h.reT (fun k j hk => by
  unfold dyT
  by_cases z : k = 0 ∧ j = 1
  · obtain ⟨rfl, rfl⟩ := z
    rw [up2_same, ← h.2 0 1 hk]; exact e.symm
  · rw [up2_off z])
theorem rOk.setT {T S : Nat} {v : Int32} (h : rOk (dyT Tm S) Γ σ) (hT : T ≤ 365) (e : v = nI T) : rOk (dyT Tm T) Γ (up2 σ 0 1 v) := by
  have ne : ∀ k i, k ≠ 0 → up2 σ 0 1 v k i = σ k i := fun k i hk => up2_at (Or.inl hk)
  obtain ⟨⟨h1, h2, h3, h4, h5, h6, h7, h0, h8, h9⟩, ht⟩ := h
  refine ⟨⟨h1, h2, h3, by rw [ne _ _ (by omega)]; exact h4, by rw [ne _ _ (by omega)]; exact h5, by rw [ne _ _ (by omega)]; exact h6, ⟨T, hT, by rw [up2_same]; exact e⟩, fun s hs => by rw [ne _ _ (by omega)]; exact h0 s hs, fun p hp => by rw [ne _ _ (by omega)]; exact h8 p hp, fun w hw => by rw [ne _ _ (by omega), ne _ _ (by omega), ne _ _ (by omega)]; exact h9 w hw⟩, fun k j hk => ?_⟩
  unfold dyT
  by_cases z : k = 0 ∧ j = 1
  · obtain ⟨rfl, rfl⟩ := z
    rw [up2_same, up2_same]; exact e
  · rw [up2_off z, up2_off z]
    have := ht k j hk
    unfold dyT at this
    rw [up2_off z] at this
    exact this
end RSAFE14
end
