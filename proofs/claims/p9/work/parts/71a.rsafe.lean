/-! THE REFERENCE IS SAFE: what always holds of its numbers (rOk), and that every call ends and keeps it; of answers nothing is said here -/
/-- where what is told lies, and the counts -/
def rPr (k j : Nat) : Prop := (k = 0 ∧ (j = 1 ∨ j = 2)) ∨ (k = 1 ∧ j = 2) ∨ (k = 2 ∧ j = 2) ∨ (k = 3 ∧ j = 2) ∨ (7 ≤ k ∧ k < 47)
def rPr0 (k j : Nat) : Prop := (k = 0 ∧ j = 1) ∨ (k = 1 ∧ j = 2) ∨ (k = 2 ∧ j = 2) ∨ (k = 3 ∧ j = 2) ∨ (13 ≤ k ∧ k < 23 ∧ j = 2) ∨ (33 ≤ k ∧ k < 47 ∧ j ≤ 2) ∨ k = 9
def rOk0 (Γ : RG) (σ : MS) : Prop := Γ.1 ≤ 10 ∧ Γ.2.1 ≤ 6 ∧ Γ.2.2.1 ≤ 14 ∧ σ 1 2 = nI Γ.1 ∧ σ 2 2 = nI Γ.2.1 ∧ σ 3 2 = nI Γ.2.2.1 ∧ (∃ T, T ≤ 365 ∧ σ 0 1 = nI T) ∧ (∀ s, s < 16 → ∃ m, 2 ≤ m ∧ m ≤ 9 ∧ σ 9 s = nI m) ∧
  (∀ p, p < Γ.1 → ∃ t, t < 6 ∧ σ (13 + p) 2 = nI t) ∧ ∀ w, w < Γ.2.2.1 → (∃ b, b < Γ.2.1 ∧ σ (33 + w) 0 = nI b) ∧ (∃ d, d ≤ 365 ∧ σ (33 + w) 1 = nI d) ∧ ∃ t, t < 6 ∧ σ (33 + w) 2 = nI t
/-- what is told: today, the cash, songs, how often they were played, roads and drives, players, their days off, weddings -/
def rTd (Γ : RG) (k j : Nat) : Prop := (k = 0 ∧ (j = 1 ∨ j = 2)) ∨ ((k = 7 ∨ k = 8 ∨ k = 9 ∨ k = 10) ∧ j < 16) ∨ ((k = 11 ∨ k = 12) ∧ j < 36) ∨ (13 ≤ k ∧ k < 13 + Γ.1 ∧ j < 6) ∨ (23 ≤ k ∧ k < 23 + Γ.1 ∧ j < 366) ∨ (33 ≤ k ∧ k < 33 + Γ.2.2.1 ∧ k < 47 ∧ j < 12)
/-- what always holds; T says what was told -/
def rOk (T : MS) (Γ : RG) (σ : MS) : Prop := rOk0 Γ σ ∧ ∀ k j, rTd Γ k j → σ k j = T k j
section RSAFE
variable {T : MS} {Γ : RG} {σ τ : MS} {a a0 a1 a2 a3 a4 : Int32}
theorem rOk.hP (h : rOk T Γ σ) : Γ.1 ≤ 10 := h.1.1
theorem rOk.hB (h : rOk T Γ σ) : Γ.2.1 ≤ 6 := h.1.2.1
theorem rOk.hW (h : rOk T Γ σ) : Γ.2.2.1 ≤ 14 := h.1.2.2.1
theorem rOk.p (h : rOk T Γ σ) : σ 1 2 = nI Γ.1 := h.1.2.2.2.1
theorem rOk.b (h : rOk T Γ σ) : σ 2 2 = nI Γ.2.1 := h.1.2.2.2.2.1
theorem rOk.w (h : rOk T Γ σ) : σ 3 2 = nI Γ.2.2.1 := h.1.2.2.2.2.2.1
theorem rOk.t (h : rOk T Γ σ) : ∃ T, T ≤ 365 ∧ σ 0 1 = nI T := h.1.2.2.2.2.2.2.1
theorem rOk.min (h : rOk T Γ σ) {s : Nat} (hs : s < 16) : ∃ m, 2 ≤ m ∧ m ≤ 9 ∧ σ 9 s = nI m := h.1.2.2.2.2.2.2.2.1 s hs
theorem rOk.home (h : rOk T Γ σ) {p : Nat} (hp : p < Γ.1) : ∃ t, t < 6 ∧ σ (13 + p) 2 = nI t := h.1.2.2.2.2.2.2.2.2.1 p hp
theorem rOk.band (h : rOk T Γ σ) {w : Nat} (hw : w < Γ.2.2.1) : ∃ b, b < Γ.2.1 ∧ σ (33 + w) 0 = nI b := (h.1.2.2.2.2.2.2.2.2.2 w hw).1
theorem rOk.day (h : rOk T Γ σ) {w : Nat} (hw : w < Γ.2.2.1) : ∃ d, d ≤ 365 ∧ σ (33 + w) 1 = nI d := (h.1.2.2.2.2.2.2.2.2.2 w hw).2.1
theorem rOk.town (h : rOk T Γ σ) {w : Nat} (hw : w < Γ.2.2.1) : ∃ t, t < 6 ∧ σ (33 + w) 2 = nI t := (h.1.2.2.2.2.2.2.2.2.2 w hw).2.2
theorem rOk.tld (h : rOk T Γ σ) {k j : Nat} (hk : rTd Γ k j) : σ k j = T k j := h.2 k j hk
theorem rTd.pr {k j : Nat} (h : rTd Γ k j) (hP : Γ.1 ≤ 10) : rPr k j := by
  unfold rTd at h
  unfold rPr
  omega
theorem rOk0.same (h : rOk0 Γ σ) (e : ∀ k j, rPr0 k j → τ k j = σ k j) : rOk0 Γ τ := by
  obtain ⟨h1, h2, h3, h4, h5, h6, h7, h0, h8, h9⟩ := h
  refine ⟨h1, h2, h3, by rw [e 1 2 (by unfold rPr0; omega)]; exact h4, by rw [e 2 2 (by unfold rPr0; omega)]; exact h5, by rw [e 3 2 (by unfold rPr0; omega)]; exact h6, by rw [e 0 1 (by unfold rPr0; omega)]; exact h7, fun s hs => by rw [e 9 s (by unfold rPr0; omega)]; exact h0 s hs, fun p hp => ?_, fun w hw => ?_⟩
  · rw [e (13 + p) 2 (by unfold rPr0; omega)]
    exact h8 p hp
  · rw [e (33 + w) 0 (by unfold rPr0; omega), e (33 + w) 1 (by unfold rPr0; omega), e (33 + w) 2 (by unfold rPr0; omega)]
    exact h9 w hw
theorem rOk.same (h : rOk T Γ σ) (e : ∀ k j, rPr k j → τ k j = σ k j) : rOk T Γ τ :=
  ⟨h.1.same (fun k j hk => e k j (by unfold rPr0 at hk; unfold rPr; omega)), fun k j hk => (e k j (hk.pr h.1.1)).trans (h.2 k j hk)⟩
theorem rOk.reT {T' : MS} (h : rOk T Γ σ) (e : ∀ k j, rTd Γ k j → T' k j = T k j) : rOk T' Γ σ := ⟨h.1, fun k j hk => (h.2 k j hk).trans (e k j hk).symm⟩
theorem up2_off {k j k' j' : Nat} {v : Int32} (h : ¬ (k' = k ∧ j' = j)) : up2 σ k j v k' j' = σ k' j' := up2_at (by omega)
theorem rOk.up {k j : Nat} {v : Int32} (h : rOk T Γ σ) (hk : ¬ rPr k j) : rOk T Γ (up2 σ k j v) := h.same (fun k' j' hp => up2_off (fun z => hk (by obtain ⟨rfl, rfl⟩ := z; exact hp)))
/-- told anew -/
theorem rOk.tel {k j : Nat} {v : Int32} (h : rOk T Γ σ) (hk : ¬ rPr0 k j) : rOk (up2 T k j v) Γ (up2 σ k j v) := by
  refine ⟨h.1.same (fun k' j' hp => up2_off (fun z => hk (by obtain ⟨rfl, rfl⟩ := z; exact hp))), fun k' j' hp => ?_⟩
  by_cases z : k' = k ∧ j' = j
  · obtain ⟨rfl, rfl⟩ := z
    rw [up2_same, up2_same]
  · rw [up2_off z, up2_off z]
    exact h.2 k' j' hp
theorem rOk.setMin {j m : Nat} {v : Int32} (h : rOk T Γ σ) (hm : 2 ≤ m) (hm2 : m ≤ 9) (e : v = nI m) : rOk (up2 T 9 j v) Γ (up2 σ 9 j v) := by
  have ne : ∀ k i, k ≠ 9 → up2 σ 9 j v k i = σ k i := fun k i hk => up2_at (Or.inl hk)
  obtain ⟨⟨h1, h2, h3, h4, h5, h6, h7, h0, h8, h9⟩, ht⟩ := h
  refine ⟨⟨h1, h2, h3, by rw [ne _ _ (by omega)]; exact h4, by rw [ne _ _ (by omega)]; exact h5, by rw [ne _ _ (by omega)]; exact h6, by rw [ne _ _ (by omega)]; exact h7, fun s hs => ?_, fun p hp => by rw [ne _ _ (by omega)]; exact h8 p hp, fun w hw => by rw [ne _ _ (by omega), ne _ _ (by omega), ne _ _ (by omega)]; exact h9 w hw⟩, fun k' j' hp => ?_⟩
  · by_cases z : s = j
    · subst z; rw [up2_same]; exact ⟨m, hm, hm2, e⟩
    · rw [up2_at (Or.inr z)]; exact h0 s hs
  · by_cases z : k' = 9 ∧ j' = j
    · obtain ⟨rfl, rfl⟩ := z
      rw [up2_same, up2_same]
    · rw [up2_off z, up2_off z]
      exact ht k' j' hp
/-- loops whose state goes on under an invariant -/
theorem inv_loop {S : Type} (U : Nat → S → Prop) (I : Nat → S → Prop) (n : Nat) (hz : ∀ s, I n s → U 1 s) (hs : ∀ i k s, i < n → I i s → (∀ s', I (i + 1) s' → U k s') → U (k + 1) s) (i : Nat) (hi : i ≤ n) (s : S) (h : I i s) : ∃ k, U k s := by
  have key : ∀ d i, i + d = n → ∀ s, I i s → U (d + 1) s := by
    intro d
    induction d with
    | zero => intro i hi s h; obtain rfl : i = n := by omega
              exact hz s h
    | succ d ih => intro i hi s h; exact hs i (d + 1) s (by omega) h (fun s' h' => ih (i + 1) (by omega) s' h')
  exact ⟨n - i + 1, key (n - i) i (by omega) s h⟩
theorem nI_prd {n : Nat} (h : 1 ≤ n) : nI n - 1 = nI (n - 1) := by
  have h1 := nI_add (n - 1) 1
  rw [Nat.sub_add_cancel h] at h1
  rw [← h1]
  show nI (n - 1) + nI 1 - 1 = nI (n - 1)
  rw [show nI 1 = 1 from rfl]
  grind
theorem rIs_idx {n : Nat} (hn : n ≤ 400) (h : ¬ rIsF a 0 (nI n - 1) = 0) : ∃ i, i < n ∧ a = nI i := by
  have h1 : ¬ a < 0 := fun c => h (rIsF_0.mpr (Or.inl c))
  have h2 : ¬ nI n - 1 < a := fun c => h (rIsF_0.mpr (Or.inr c))
  obtain ⟨i, hi, rfl⟩ := nI_of h1
  refine ⟨i, ?_, rfl⟩
  rcases Nat.eq_zero_or_pos n with c | c
  · subst c
    exfalso
    refine h2 ?_
    have : (nI 0 - 1 : Int32) = -1 := by decide
    rw [this, Int32.lt_iff_toInt_lt]
    have e1 : (-1 : Int32).toInt = -1 := by decide
    have e2 : 0 ≤ (nI i).toInt := by
      have := Int32.not_lt.mp (nI_pos hi)
      simpa using Int32.le_iff_toInt_le.mp this
    omega
  · rw [nI_prd c] at h2
    rcases Nat.lt_or_ge i n with d | d
    · exact d
    · exact absurd (nI_lt (show n - 1 < i by omega) hi) h2
theorem rIs_rg {lo hi : Nat} (hh : hi < 2 ^ 31) (h : ¬ rIsF a (nI lo) (nI hi) = 0) (hl : lo < 2 ^ 31) : ∃ i, lo ≤ i ∧ i ≤ hi ∧ a = nI i := by
  have h1 : ¬ a < nI lo := fun c => h (rIsF_0.mpr (Or.inl c))
  have h2 : ¬ nI hi < a := fun c => h (rIsF_0.mpr (Or.inr c))
  have h0 : ¬ a < 0 := fun c => h1 (by
    rw [Int32.lt_iff_toInt_lt] at c ⊢
    have e2 : 0 ≤ (nI lo).toInt := by
      have := Int32.not_lt.mp (nI_pos hl)
      simpa using Int32.le_iff_toInt_le.mp this
    have e1 : (0 : Int32).toInt = 0 := by decide
    omega)
  obtain ⟨i, hi', rfl⟩ := nI_of h0
  refine ⟨i, ?_, ?_, rfl⟩
  · rcases Nat.lt_or_ge i lo with c | c
    · exact absurd (nI_lt c hl) h1
    · exact c
  · rcases Nat.lt_or_ge hi i with c | c
    · exact absurd (nI_lt c hi') h2
    · exact c
theorem sf_isPlayer {post : Int32 → MS → Prop} (O : rOk T Γ σ) (h0 : post 0 σ) (h1 : ∀ p r, p < Γ.1 → a = nI p → ¬ r = 0 → post r σ) : w_X11_isPlayer Γ post σ a := by
  refine law_X11_isPlayer ?_
  rw [O.p]
  by_cases c : rIsF a 0 (nI Γ.1 - 1) = 0
  · rw [c]; exact h0
  · obtain ⟨p, hp, e⟩ := rIs_idx (by have := O.hP; omega) c
    exact h1 p _ hp e c
theorem sf_isWedding {post : Int32 → MS → Prop} (O : rOk T Γ σ) (h0 : post 0 σ) (h1 : ∀ w r, w < Γ.2.2.1 → a = nI w → ¬ r = 0 → post r σ) : w_X11_isWedding Γ post σ a := by
  refine law_X11_isWedding ?_
  rw [O.w]
  by_cases c : rIsF a 0 (nI Γ.2.2.1 - 1) = 0
  · rw [c]; exact h0
  · obtain ⟨p, hp, e⟩ := rIs_idx (by have := O.hW; omega) c
    exact h1 p _ hp e c
theorem sf_isBand {post : Int32 → MS → Prop} (O : rOk T Γ σ) (h0 : post 0 σ) (h1 : ∀ b r, b < Γ.2.1 → a = nI b → ¬ r = 0 → post r σ) : w_X11_isBand Γ post σ a := by
  refine law_X11_isBand ?_
  rw [O.b]
  by_cases c : rIsF a 0 (nI Γ.2.1 - 1) = 0
  · rw [c]; exact h0
  · obtain ⟨p, hp, e⟩ := rIs_idx (by have := O.hB; omega) c
    exact h1 p _ hp e c
theorem sf_isTown {post : Int32 → MS → Prop} (h0 : post 0 σ) (h1 : ∀ t r, t < 6 → a = nI t → ¬ r = 0 → post r σ) : w_X11_isTown Γ post σ a := by
  refine law_X11_isTown ?_
  by_cases c : rIsF a 0 5 = 0
  · rw [c]; exact h0
  · obtain ⟨p, -, hp, e⟩ := rIs_rg (lo := 0) (hi := 5) (by decide) c (by decide)
    exact h1 p _ (by omega) e c
theorem sf_isDay {post : Int32 → MS → Prop} (O : rOk T Γ σ) (h0 : post 0 σ) (h1 : ∀ d r, d ≤ 365 → a = nI d → ¬ r = 0 → post r σ) : w_X11_isDay Γ post σ a := by
  refine law_X11_isDay ?_
  obtain ⟨T, hT, eT⟩ := O.t
  rw [eT]
  by_cases c : rIsF a (nI T) 365 = 0
  · rw [c]; exact h0
  · obtain ⟨p, -, hp, e⟩ := rIs_rg (lo := T) (hi := 365) (by decide) c (by omega)
    exact h1 p _ hp e c
theorem sf_areSongs {post : Int32 → MS → Prop} (h : ∀ r, post r σ) : w_X11_areSongs Γ post σ a := law_X11_areSongs (h _)
theorem sf_is {post : Int32 → MS → Prop} (h : ∀ r, post r σ) : w_X11_is Γ post σ a0 a1 a2 := law_X11_is (h _)
theorem sf_isIn {post : Int32 → MS → Prop} (h : ∀ r, post r σ) : w_X11_isIn Γ post σ a0 a1 := ⟨fun _ => h 1, fun _ => h 0⟩
theorem sf_refuse {post : Int32 → MS → Prop} (O : rOk T Γ σ) (h : ∀ r τ, rOk T Γ τ → post r τ) : w_X11_refuse Γ post σ a := law_X11_refuse (h _ _ (O.up (by unfold rPr; omega)))
theorem sf_pget {post : Nat → MS → Prop} {i : Nat} (O : rOk T Γ σ) (hi : i < Γ.1) (e : a = nI i) (h : post i σ) : w_lp_Jx4a65c_get_915e3 Γ post σ a := by
  rw [e]
  exact law_lp_get hi O.hP O.p h
theorem sf_wget {post : Nat → MS → Prop} {i : Nat} (O : rOk T Γ σ) (hi : i < Γ.2.2.1) (e : a = nI i) (h : post i σ) : w_lw_Jx4a65c_get_915e3 Γ post σ a := by
  rw [e]
  exact law_lw_get hi O.hW O.w h
theorem sf_bc {post : Int32 → MS → Prop} (h : ∀ r, post r σ) : w_r_J6_bitCount_0f7a4 Γ post σ a := by
  unfold w_r_J6_bitCount_0f7a4
  intros
  exact h _
theorem nI_le0 {m n : Nat} (h : m ≤ n) (hn : n < 2 ^ 31) : nI m ≤ nI n := by
  rcases Nat.eq_or_lt_of_le h with e | e
  · rw [e]; exact le_self _
  · exact Int32.le_of_lt (nI_lt e hn)
theorem rIs_no {n : Nat} (hn : n ≤ 400) (h : rIsF a 0 (nI n - 1) = 0) : ∀ p, p < n → a ≠ nI p := fun p hp e => by
  rcases rIsF_0.mp h with c | c
  · rw [e] at c; exact nI_pos (by omega) c
  · rw [e, nI_prd (by omega)] at c
    exact Int32.not_lt.mpr (nI_le0 (show p ≤ n - 1 by omega) (by omega)) c
theorem rIs_nor {lo hi : Nat} (hh : hi < 2 ^ 31) (h : rIsF a (nI lo) (nI hi) = 0) : ∀ p, lo ≤ p → p ≤ hi → a ≠ nI p := fun p hp hp2 e => by
  rcases rIsF_0.mp h with c | c
  · rw [e] at c; exact Int32.not_lt.mpr (nI_le0 hp (by omega)) c
  · rw [e] at c; exact Int32.not_lt.mpr (nI_le0 hp2 hh) c
/-- who it is, or that there is none -/
theorem sx_isPlayer {post : Int32 → MS → Prop} (O : rOk T Γ σ) (h0 : (∀ p, p < Γ.1 → a ≠ nI p) → post 0 σ) (h1 : ∀ p r, p < Γ.1 → a = nI p → ¬ r = 0 → post r σ) : w_X11_isPlayer Γ post σ a := by
  refine law_X11_isPlayer ?_
  rw [O.p]
  by_cases c : rIsF a 0 (nI Γ.1 - 1) = 0
  · rw [c]; exact h0 (rIs_no (by have := O.hP; omega) c)
  · obtain ⟨p, hp, e⟩ := rIs_idx (by have := O.hP; omega) c
    exact h1 p _ hp e c
theorem sx_isTown {post : Int32 → MS → Prop} (h0 : (∀ t, t < 6 → a ≠ nI t) → post 0 σ) (h1 : ∀ t r, t < 6 → a = nI t → ¬ r = 0 → post r σ) : w_X11_isTown Γ post σ a := by
  refine law_X11_isTown ?_
  by_cases c : rIsF a 0 5 = 0
  · rw [c]; exact h0 (fun t ht => rIs_nor (lo := 0) (hi := 5) (by decide) c t (by omega) (by omega))
  · obtain ⟨p, -, hp, e⟩ := rIs_rg (lo := 0) (hi := 5) (by decide) c (by decide)
    exact h1 p _ (by omega) e c
theorem sg_iff : rIsF a 0 65535 = 0 ↔ ¬ (0 ≤ a ∧ a < 65536) := by
  rw [rIsF_0]
  simp only [Int32.lt_iff_toInt_lt, Int32.le_iff_toInt_le]
  have e0 : (0 : Int32).toInt = 0 := by decide
  have e4 : (65535 : Int32).toInt = 65535 := by decide
  have e5 : (65536 : Int32).toInt = 65536 := by decide
  omega
theorem sx_bc {post : Int32 → MS → Prop} (h : post (bcI a) σ) : w_r_J6_bitCount_0f7a4 Γ post σ a := by
  unfold w_r_J6_bitCount_0f7a4
  intro y1 h1 y2 h2 y3 h3 y4 h4
  subst h1
  subst h2
  subst h3
  subst h4
  exact h
theorem sx_refuse {post : Int32 → MS → Prop} (O : rOk T Γ σ) (h : ∀ τ, rOk T Γ τ → τ 0 0 = a → post 0 τ) : w_X11_refuse Γ post σ a := law_X11_refuse (h _ (O.up (by unfold rPr; omega)) up2_same)
/-- learn: what it answers, what is told then -/
theorem sf_learn {post : Int32 → MS → Prop} (O : rOk T Γ σ)
    (h1 : (∀ p, p < Γ.1 → a1 ≠ nI p) → ∀ τ, rOk T Γ τ → τ 0 0 = 1 → post 0 τ)
    (h2 : ∀ p, p < Γ.1 → a1 = nI p → ¬ (0 ≤ a2 ∧ a2 < 65536) → ∀ τ, rOk T Γ τ → τ 0 0 = 2 → post 0 τ)
    (h3 : ∀ p, p < Γ.1 → a1 = nI p → 0 ≤ a2 ∧ a2 < 65536 → ∀ τ, rOk (up2 T (13 + p) 1 (T (13 + p) 1 ||| a2)) Γ τ → τ 0 0 = 0 → post (bcI (T (13 + p) 1 ||| a2)) τ) : w_X11_learn Γ post σ a1 a2 := by
  unfold w_X11_learn
  have hP := O.hP
  have O := O.up (k := 0) (j := 0) (v := 0) (by unfold rPr; omega)
  refine sx_isPlayer O (fun no => ⟨fun _ => sx_refuse O (h1 no), fun c => absurd rfl c⟩) (fun p r hp e hr => ⟨fun c => absurd c hr, fun _ => law_X11_areSongs ⟨fun c => sx_refuse O (h2 p hp e (sg_iff.mp c)), fun c => ?_⟩⟩)
  have ok : 0 ≤ a2 ∧ a2 < 65536 := Decidable.byContradiction fun z => c (sg_iff.mpr z)
  refine sf_pget O hp e ⟨⟨by omega, hp⟩, ?_⟩
  have eT : (up2 σ 0 0 0) (13 + p) 1 = T (13 + p) 1 := O.tld (by unfold rTd; omega)
  have O2 := O.tel (k := 13 + p) (j := 1) (v := (up2 σ 0 0 0) (13 + p) 1 ||| a2) (by unfold rPr0; omega)
  refine sf_pget O2 hp e ⟨⟨by omega, hp⟩, sx_bc ?_⟩
  rw [eT] at O2 ⊢
  rw [up2_same]
  exact h3 p hp e ok _ O2 (by rw [up2_off (by omega), up2_same])
/-- a song told -/
def sgT (T : MS) (s : Nat) (k e m : Int32) : MS := up2 (up2 (up2 T 7 s k) 8 s e) 9 s m
def sgOkR (k e m : Int32) : Prop := ¬ rIsF k 0 11 = 0 ∧ ¬ rIsF e 0 9 = 0 ∧ ¬ rIsF m 2 9 = 0
theorem sf_song {post : Int32 → MS → Prop} (O : rOk T Γ σ)
    (h1 : (∀ s, s < 16 → a1 ≠ nI s) → ∀ τ, rOk T Γ τ → τ 0 0 = 1 → post 0 τ)
    (h2 : ∀ s, s < 16 → a1 = nI s → ¬ sgOkR a2 a3 a4 → ∀ τ, rOk T Γ τ → τ 0 0 = 2 → post 0 τ)
    (h3 : ∀ s, s < 16 → a1 = nI s → sgOkR a2 a3 a4 → ∀ τ, rOk (sgT T s a2 a3 a4) Γ τ → τ 0 0 = 0 → post (T 9 s) τ) : w_X11_song Γ post σ a1 a2 a3 a4 := by
  unfold w_X11_song u_X11_song_52
  have O := O.up (k := 0) (j := 0) (v := 0) (by unfold rPr; omega)
  refine law_X11_is ⟨fun c => sx_refuse O (h1 (fun s hs => rIs_nor (lo := 0) (hi := 15) (by decide) c s (by omega) (by omega))), fun c => ?_⟩
  obtain ⟨i, -, hi, e⟩ := rIs_rg (lo := 0) (hi := 15) (by decide) c (by decide)
  have hv : vp_in a1 16 := by rw [e]; exact vp_in_nI (by omega) (by decide)
  have hi : i < 16 := by omega
  refine law_X11_is ⟨fun c => sx_refuse O (h2 i hi e (fun z => z.1 c)), fun c3 => law_X11_is ⟨fun c => sx_refuse O (h2 i hi e (fun z => z.2.1 c)), fun c4 => law_X11_is ⟨fun c => sx_refuse O (h2 i hi e (fun z => z.2.2 c)), fun c2 => ⟨hv, hv, hv, hv, ?_⟩⟩⟩⟩
  obtain ⟨m, hm, hm2, e2⟩ := rIs_rg (lo := 2) (hi := 9) (by decide) c2 (by decide)
  have O2 := ((O.tel (k := 7) (j := i) (v := a2) (by unfold rPr0; omega)).tel (k := 8) (j := i) (v := a3) (by unfold rPr0; omega)).setMin (j := i) hm hm2 e2
  rw [show Int32.toNatClampNeg a1 = i by rw [e, nI_clamp (by omega)], O.tld (k := 9) (j := i) (by unfold rTd; omega)]
  exact h3 i hi e ⟨c3, c4, c2⟩ _ O2 (by rw [up2_off (by omega), up2_off (by omega), up2_off (by omega), up2_same])
end RSAFE
