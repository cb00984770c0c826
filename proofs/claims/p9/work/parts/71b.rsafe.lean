/-! THE REFERENCE IS SAFE: roads, feuds, who is free, what is known, costs -/
section RSAFE2
variable {T : MS} {Γ : RG} {σ τ : MS} {a a0 a1 a2 a3 a4 : Int32}
theorem ix36 {i j : Nat} (hi : i < 6) (hj : j < 6) : vp_in (nI i * 6 + nI j) 36 := by
  rw [show (nI i * 6 + nI j : Int32) = nI (i * 6 + j) from by rw [show (6 : Int32) = nI 6 from rfl, ← nI_add]; congr 1; exact (Int32.ofNat_mul i 6).symm]
  exact vp_in_nI (by omega) (by decide)
theorem sf_driveOf {post : Int32 → MS → Prop} (h1 : ∃ t, t < 6 ∧ a1 = nI t) (h2 : ∃ t, t < 6 ∧ a2 = nI t) (h : ∀ r, post r σ) : w_X11_driveOf Γ post σ a1 a2 := by
  obtain ⟨i, hi, rfl⟩ := h1
  obtain ⟨j, hj, rfl⟩ := h2
  exact ⟨ix36 hi hj, h _⟩
/-- what is told but for the drives, which are as they are -/
def w12 (T τ : MS) : MS := fun k j => if k = 12 then τ 12 j else T k j
def rO12 (T : MS) (z0 : Int32) (Γ : RG) (τ : MS) : Prop := rOk (w12 T τ) Γ τ ∧ τ 0 0 = z0
theorem rO12.of {z0 : Int32} (h : rOk T Γ σ) (hz : σ 0 0 = z0) : rO12 T z0 Γ σ := ⟨h.reT (fun k j hk => by
  unfold w12
  by_cases z : k = 12
  · rw [if_pos z]; subst z; exact h.2 12 j hk
  · rw [if_neg z]), hz⟩
theorem rO12.up {z0 : Int32} {j : Nat} {v : Int32} (h : rO12 T z0 Γ σ) : rO12 T z0 Γ (up2 σ 12 j v) := by
  have h2 := rOk.tel (k := 12) (j := j) (v := v) h.1 (by unfold rPr0; omega)
  refine ⟨h2.reT (fun k i hk => ?_), (up2_off (by omega)).trans h.2⟩
  unfold w12
  by_cases z : k = 12
  · rw [if_pos z]
    subst z
    by_cases y : i = j
    · subst y; rw [up2_same, up2_same]
    · rw [up2_off (by omega), up2_off (by omega), if_pos rfl]
  · rw [if_neg z, up2_off (by omega), if_neg z]
/-- the class's roads and ways, and the reference's -/
def Wy (y τ : MS) : Prop := ∀ a b, a < 6 → b < 6 → τ 12 (a * 6 + b) = y (23 + a) b ∧ τ 11 (a * 6 + b) = y (17 + a) b
theorem x6 {i j : Nat} (hi : i < 6) (hj : j < 6) : Int32.toNatClampNeg (nI i * 6 + nI j) = i * 6 + j := by
  rw [show (nI i * 6 + nI j : Int32) = nI (i * 6 + j) from by rw [show (6 : Int32) = nI 6 from rfl, ← nI_add]; congr 1; exact (Int32.ofNat_mul i 6).symm]
  exact nI_clamp (by omega)
theorem Wy.up {y : MS} {a b : Nat} {v : Int32} (h : Wy y τ) (ha : a < 6) (hb : b < 6) : Wy (up2 y (23 + a) b v) (up2 τ 12 (a * 6 + b) v) := fun c d hc hd => by
  constructor
  · by_cases z : c = a ∧ d = b
    · obtain ⟨rfl, rfl⟩ := z
      rw [up2_same, up2_same]
    · rw [up2_off (by omega), up2_off (by omega)]
      exact (h c d hc hd).1
  · rw [up2_off (by omega), up2_off (by omega)]
    exact (h c d hc hd).2
theorem sf_drive {post : MS → Prop} {x : MS} {z0 : Int32} (O : rO12 T z0 Γ σ) (hw : Wy x σ) (h : ∀ τ, rO12 T z0 Γ τ → Wy (ovS (lyA x 6) 6) τ → post τ) : w_X11_drive Γ post σ := by
  -- the relaxing
  have h95 : ∀ (K79 : MS → Int32 → Prop) (K87 : MS → Int32 → Int32 → Prop) (y : MS) (o i : Nat), o < 6 → i < 6 → (∀ τ, rO12 T z0 Γ τ → Wy (shA y o i 6) τ → K87 τ (nI o) (nI i + 1)) → ∀ τ, rO12 T z0 Γ τ → Wy y τ → ∃ k, u_X11_drive_95 Γ post K79 K87 k τ (nI o) (nI i) 0 := by
    intro K79 K87 y o i ho hi hK τ O hw
    refine inv_loop (fun k (q : MS × Int32) => u_X11_drive_95 Γ post K79 K87 k q.1 (nI o) (nI i) q.2) (fun j q => rO12 T z0 Γ q.1 ∧ Wy (shA y o i j) q.1 ∧ q.2 = nI j) 6 ?_ ?_ 0 (by omega) (τ, 0) ⟨O, hw, nI_0.symm⟩
    · rintro ⟨τ, v⟩ ⟨O, hw, rfl⟩
      show u_X11_drive_95 Γ post K79 K87 1 τ (nI o) (nI i) (nI 6)
      rw [u_X11_drive_95]
      exact ⟨fun _ => hK τ O hw, fun c => absurd (le_self (nI 6)) c⟩
    · rintro j k ⟨τ, v⟩ hj ⟨O, hw, rfl⟩ ih
      have nx : ∀ τ', rO12 T z0 Γ τ' → Wy (shB (shA y o i j) o i j) τ' → u_X11_drive_95 Γ post K79 K87 k τ' (nI o) (nI i) (nI j + 1) := fun τ' O' hw' => by rw [nI_1]; exact ih (τ', nI (j + 1)) ⟨O', hw', rfl⟩
      dsimp only at O hw
      generalize shA y o i j = z at hw nx
      show u_X11_drive_95 Γ post K79 K87 (k + 1) τ (nI o) (nI i) (nI j)
      rw [u_X11_drive_95]
      unfold u_X11_drive_168
      rw [x6 hi ho, x6 ho hj, x6 hi hj, (hw i o hi ho).1, (hw o j ho hj).1, (hw i j hi hj).1]
      unfold shB at nx
      have set : ∀ v : Int32, Wy (up2 z (23 + i) j v) (up2 τ 12 (i * 6 + j) v) := fun v => hw.up hi hj
      have keep : Wy (up2 z (23 + i) j (z (23 + i) j)) τ := fun c d hc hd => by
        constructor
        · by_cases q : c = i ∧ d = j
          · obtain ⟨rfl, rfl⟩ := q
            rw [up2_same]; exact (hw c d hc hd).1
          · rw [up2_off (by omega)]; exact (hw c d hc hd).1
        · rw [up2_off (by omega)]; exact (hw c d hc hd).2
      refine ⟨fun c => absurd (show nI 6 ≤ nI j from c) (nI_ge hj (by decide)), fun _ => ⟨ix36 hi ho, ix36 ho hj, ix36 hi hj, fun c1 => nx τ O (by rw [if_pos (Or.inl c1)]; exact hw), fun c1 => ⟨fun c2 => nx τ O (by rw [if_pos (Or.inr c2)]; exact hw), fun c2 => ⟨fun c3 => ⟨ix36 hi hj, nx _ O.up ?_⟩, fun c3 => ⟨fun c4 => nx τ O ?_, fun c4 => ⟨ix36 hi hj, nx _ O.up ?_⟩⟩⟩⟩⟩⟩
      · rw [if_neg (fun q => q.elim c1 c2), if_pos c3]; exact set _
      · rw [if_neg (fun q => q.elim c1 c2), if_neg c3, if_neg (fun q => absurd c4 (Int32.not_le.mpr q))]; exact keep
      · rw [if_neg (fun q => q.elim c1 c2), if_neg c3, if_pos (Int32.not_le.mp c4)]; exact set _
  have h87 : ∀ (K79 : MS → Int32 → Prop) (y : MS) (o : Nat), o < 6 → (∀ τ, rO12 T z0 Γ τ → Wy (shO y o 6) τ → K79 τ (nI o + 1)) → ∀ τ, rO12 T z0 Γ τ → Wy y τ → ∃ k, u_X11_drive_87 Γ post K79 k τ (nI o) 0 := by
    intro K79 y o ho hK τ O hw
    refine inv_loop (fun k (q : MS × Int32) => u_X11_drive_87 Γ post K79 k q.1 (nI o) q.2) (fun j q => rO12 T z0 Γ q.1 ∧ Wy (shO y o j) q.1 ∧ q.2 = nI j) 6 ?_ ?_ 0 (by omega) (τ, 0) ⟨O, hw, nI_0.symm⟩
    · rintro ⟨τ, v⟩ ⟨O, hw, rfl⟩
      show u_X11_drive_87 Γ post K79 1 τ (nI o) (nI 6)
      rw [u_X11_drive_87]
      exact ⟨fun _ => hK τ O hw, fun c => absurd (le_self (nI 6)) c⟩
    · rintro j k ⟨τ, v⟩ hj ⟨O, hw, rfl⟩ ih
      show u_X11_drive_87 Γ post K79 (k + 1) τ (nI o) (nI j)
      rw [u_X11_drive_87]
      refine ⟨fun c => absurd (show nI 6 ≤ nI j from c) (nI_ge hj (by decide)), fun _ => h95 _ _ _ o j ho hj (fun τ' O' hw' => ?_) τ O hw⟩
      rw [nI_1]
      exact ih (τ', nI (j + 1)) ⟨O', hw', rfl⟩
  have h79 : ∀ (y : MS), (∀ τ, rO12 T z0 Γ τ → Wy (ovS y 6) τ → post τ) → ∀ τ, rO12 T z0 Γ τ → Wy y τ → ∃ k, u_X11_drive_79 Γ post k τ 0 := by
    intro y h τ O hw
    refine inv_loop (fun k (q : MS × Int32) => u_X11_drive_79 Γ post k q.1 q.2) (fun j q => rO12 T z0 Γ q.1 ∧ Wy (ovS y j) q.1 ∧ q.2 = nI j) 6 ?_ ?_ 0 (by omega) (τ, 0) ⟨O, hw, nI_0.symm⟩
    · rintro ⟨τ, v⟩ ⟨O, hw, rfl⟩
      show u_X11_drive_79 Γ post 1 τ (nI 6)
      rw [u_X11_drive_79]
      exact ⟨fun _ => h τ O hw, fun c => absurd (le_self (nI 6)) c⟩
    · rintro j k ⟨τ, v⟩ hj ⟨O, hw, rfl⟩ ih
      show u_X11_drive_79 Γ post (k + 1) τ (nI j)
      rw [u_X11_drive_79]
      refine ⟨fun c => absurd (show nI 6 ≤ nI j from c) (nI_ge hj (by decide)), fun _ => h87 _ _ j hj (fun τ' O' hw' => ?_) τ O hw⟩
      rw [nI_1]
      exact ih (τ', nI (j + 1)) ⟨O', hw', rfl⟩
  have h10 : ∀ (K2 : MS → Int32 → Prop) (y : MS) (o : Nat), o < 6 → (∀ τ, rO12 T z0 Γ τ → Wy (lyB y o 6) τ → K2 τ (nI o + 1)) → ∀ τ, rO12 T z0 Γ τ → Wy y τ → ∃ k, u_X11_drive_10 Γ post K2 k τ (nI o) 0 := by
    intro K2 y o ho hK τ O hw
    refine inv_loop (fun k (q : MS × Int32) => u_X11_drive_10 Γ post K2 k q.1 (nI o) q.2) (fun j q => rO12 T z0 Γ q.1 ∧ Wy (lyB y o j) q.1 ∧ q.2 = nI j) 6 ?_ ?_ 0 (by omega) (τ, 0) ⟨O, hw, nI_0.symm⟩
    · rintro ⟨τ, v⟩ ⟨O, hw, rfl⟩
      show u_X11_drive_10 Γ post K2 1 τ (nI o) (nI 6)
      rw [u_X11_drive_10]
      exact ⟨fun _ => hK τ O hw, fun c => absurd (le_self (nI 6)) c⟩
    · rintro j k ⟨τ, v⟩ hj ⟨O, hw, rfl⟩ ih
      have nx : ∀ τ', rO12 T z0 Γ τ' → Wy (up2 (lyB y o j) (23 + o) j (lyV (lyB y o j) o j)) τ' → u_X11_drive_10 Γ post K2 k τ' (nI o) (nI j + 1) := fun τ' O' hw' => by rw [nI_1]; exact ih (τ', nI (j + 1)) ⟨O', hw', rfl⟩
      dsimp only at O hw
      generalize lyB y o j = z at hw nx
      have hx := ix36 ho hj
      show u_X11_drive_10 Γ post K2 (k + 1) τ (nI o) (nI j)
      rw [u_X11_drive_10, x6 ho hj, (hw o j ho hj).2]
      unfold lyV at nx
      have set : ∀ v : Int32, Wy (up2 z (23 + o) j v) (up2 τ 12 (o * 6 + j) v) := fun v => hw.up ho hj
      refine ⟨fun c => absurd (show nI 6 ≤ nI j from c) (nI_ge hj (by decide)), fun _ => ⟨fun c => ⟨hx, nx _ O.up ?_⟩, fun c => ⟨hx, fun d => ⟨hx, nx _ O.up ?_⟩, fun d => ⟨hx, hx, nx _ O.up ?_⟩⟩⟩⟩
      · rw [if_pos ((nI_eq (by omega) (by omega)).mp c)]; exact set _
      · rw [if_neg (fun q => c (by rw [q])), if_pos d]; exact set _
      · rw [if_neg (fun q => c (by rw [q])), if_neg d]; exact set _
  unfold w_X11_drive
  refine inv_loop (fun k (q : MS × Int32) => u_X11_drive_2 Γ post k q.1 q.2) (fun j q => rO12 T z0 Γ q.1 ∧ Wy (lyA x j) q.1 ∧ q.2 = nI j) 6 ?_ ?_ 0 (by omega) (σ, 0) ⟨O, hw, nI_0.symm⟩
  · rintro ⟨τ, v⟩ ⟨O, hw, rfl⟩
    show u_X11_drive_2 Γ post 1 τ (nI 6)
    rw [u_X11_drive_2]
    exact ⟨fun _ => h79 _ h τ O hw, fun c => absurd (le_self (nI 6)) c⟩
  · rintro j k ⟨τ, v⟩ hj ⟨O, hw, rfl⟩ ih
    show u_X11_drive_2 Γ post (k + 1) τ (nI j)
    rw [u_X11_drive_2]
    refine ⟨fun c => absurd (show nI 6 ≤ nI j from c) (nI_ge hj (by decide)), fun _ => h10 _ _ j hj (fun τ' O' hw' => ?_) τ O hw⟩
    rw [nI_1]
    exact ih (τ', nI (j + 1)) ⟨O', hw', rfl⟩
/-- road: the class's roads x say what it answers -/
def rdT (T : MS) (i j : Nat) (h : Int32) : MS := up2 (up2 T 11 (i * 6 + j) h) 11 (j * 6 + i) h
theorem sf_road {post : Int32 → MS → Prop} {x : MS} (O : rOk T Γ σ) (hw : Wy x σ)
    (h1 : ((∀ t, t < 6 → a1 ≠ nI t) ∨ (∀ t, t < 6 → a2 ≠ nI t)) → ∀ τ, rOk T Γ τ → τ 0 0 = 1 → post 0 τ)
    (h2 : ∀ i j, i < 6 → j < 6 → a1 = nI i → a2 = nI j → (i = j ∨ rIsF a3 0 9 = 0) → ∀ τ, rOk T Γ τ → τ 0 0 = 2 → post 0 τ)
    (h3 : ∀ i j, i < 6 → j < 6 → a1 = nI i → a2 = nI j → i ≠ j → ¬ rIsF a3 0 9 = 0 → ∀ τ, rO12 (rdT T i j a3) 0 Γ τ → Wy (layS x i j a3) τ → post (layS x i j a3 (23 + i) j) τ) : w_X11_road Γ post σ a1 a2 a3 := by
  unfold w_X11_road u_X11_road_19 u_X11_road_40
  have O := O.up (k := 0) (j := 0) (v := 0) (by unfold rPr; omega)
  refine sx_isTown (fun no => ⟨fun _ => sx_refuse O (h1 (Or.inl no)), fun c => absurd rfl c⟩) (fun i r hi e hr => ⟨fun c => absurd c hr, fun _ => sx_isTown (fun no => ⟨fun _ => sx_refuse O (h1 (Or.inr no)), fun c => absurd rfl c⟩) (fun j r2 hj e2 hr2 => ⟨fun c => absurd c hr2, fun _ => ⟨fun c => sx_refuse O (h2 i j hi hj e e2 (Or.inl ?_)), fun c => law_X11_is ⟨fun d => sx_refuse O (h2 i j hi hj e e2 (Or.inr d)), fun d => ?_⟩⟩⟩)⟩)
  · rw [e, e2] at c
    exact (nI_eq (by omega) (by omega)).mp c
  subst e
  subst e2
  have hij : i ≠ j := fun z => c (by rw [z])
  refine ⟨ix36 hi hj, ix36 hj hi, ?_⟩
  rw [x6 hi hj, x6 hj hi]
  have O2 := (O.tel (k := 11) (j := i * 6 + j) (v := a3) (by unfold rPr0; omega)).tel (k := 11) (j := j * 6 + i) (v := a3) (by unfold rPr0; omega)
  have hw2 : Wy (up2 (up2 x (17 + i) j a3) (17 + j) i a3) (up2 (up2 (up2 σ 0 0 0) 11 (i * 6 + j) a3) 11 (j * 6 + i) a3) := fun c d hc hd => by
    constructor
    · rw [up2_off (by omega), up2_off (by omega), up2_off (by omega), up2_off (by omega), up2_off (by omega)]
      exact (hw c d hc hd).1
    · by_cases q1 : c = j ∧ d = i
      · obtain ⟨rfl, rfl⟩ := q1
        rw [up2_same, up2_same]
      · rw [up2_off (by omega), up2_off (σ := up2 x (17 + i) j a3) (by omega)]
        by_cases q2 : c = i ∧ d = j
        · obtain ⟨rfl, rfl⟩ := q2
          rw [up2_same, up2_same]
        · rw [up2_off (by omega), up2_off (by omega), up2_off (by omega)]
          exact (hw c d hc hd).2
  refine sf_drive (z0 := 0) (rO12.of O2 (by rw [up2_off (by omega), up2_off (by omega), up2_same])) hw2 (fun τ O' hw' => ⟨ix36 hi hj, ?_⟩)
  rw [x6 hi hj, (hw' i j hi hj).1]
  exact h3 i j hi hj rfl rfl hij d τ O' hw'
theorem sf_isIn01 {post : Int32 → MS → Prop} (h0 : post 0 σ) (h1 : post 1 σ) : w_X11_isIn Γ post σ a0 a1 := ⟨fun _ => h1, fun _ => h0⟩
theorem b_one {p i : Nat} (hp : p < 32) (hi : i < 32) : bt (one p) i = decide (i = p) := by
  have h1 : ∀ i, bt 1 i = decide (i = 0) := fun i => by
    rcases Nat.lt_or_ge i 32 with h | h
    · exact (by decide +kernel : ∀ i, i < 32 → bt 1 i = decide (i = 0)) i h
    · rw [b_big h, decide_eq_false (by omega)]
  unfold one
  rw [b_shl p hp 1 hi, h1]
  by_cases c : i = p
  · subst c
    simp
  · rw [decide_eq_false c]
    by_cases d : p ≤ i
    · rw [decide_eq_false (show ¬ i - p = 0 by omega), Bool.and_false]
    · rw [decide_eq_false d, Bool.false_and]
theorem b_cmp {x : Int32} {i : Nat} (hi : i < 32) : bt (x ^^^ (-1)) i = !bt x i := by rw [b_xor, b_m1 i hi]; cases bt x i <;> rfl
/-- a feud told or ended in one's row -/
def fdV (f : Int32) (q : Nat) (c : Int32) : Int32 := if c = 0 then f &&& (one q ^^^ (-1)) else f ||| one q
theorem fdV_bt {f c : Int32} {q i : Nat} (hq : q < 32) (hi : i < 32) : bt (fdV f q c) i = if i = q then !decide (c = 0) else bt f i := by
  unfold fdV
  by_cases z : c = 0
  · rw [if_pos z, b_and, b_cmp hi, b_one hq hi]
    by_cases y : i = q
    · rw [if_pos y, decide_eq_true y, decide_eq_true z]; cases bt f i <;> rfl
    · rw [if_neg y, decide_eq_false y, Bool.not_false, Bool.and_true]
  · rw [if_neg z, b_or, b_one hq hi]
    by_cases y : i = q
    · rw [if_pos y, decide_eq_true y, decide_eq_false z]; cases bt f i <;> rfl
    · rw [if_neg y, decide_eq_false y, Bool.or_false]
theorem fdV_xor {f c : Int32} {q : Nat} (hq : q < 32) (h : bt f q = decide (c = 0)) : f ^^^ one q = fdV f q c := b_ext fun i hi => by
  rw [fdV_bt hq hi, b_xor, b_one hq hi]
  by_cases y : i = q
  · subst y
    rw [if_pos rfl, decide_eq_true rfl, h, Bool.xor_true]
  · rw [if_neg y, decide_eq_false y, Bool.xor_false]
theorem fdV_id {f c : Int32} {q : Nat} (hq : q < 32) (h : bt f q = !decide (c = 0)) : fdV f q c = f := b_ext fun i hi => by
  rw [fdV_bt hq hi]
  by_cases y : i = q
  · subst y
    rw [if_pos rfl, h]
  · rw [if_neg y]
theorem sx_isIn {post : Int32 → MS → Prop} {s : Int32} {p : Nat} (hp : p < 32) (h : post (b01 (bt s p)) σ) : w_X11_isIn Γ post σ s (nI p) := by
  have e : bt (s >>> (nI p &&& 31)) 0 = bt s p := by rw [b_sshr p hp s (by decide), Nat.add_zero, if_pos hp]
  have h1 : bt 1 0 = true := by decide +kernel
  unfold w_X11_isIn
  refine ⟨fun c => ?_, fun c => ?_⟩
  · have : bt s p = true := by
      have c2 := congrArg (fun y => bt y 0) c
      simp only [b_and, e, h1] at c2
      simpa using c2
    rw [this] at h; exact h
  · have : bt s p = false := by
      cases q : bt s p with
      | false => rfl
      | true =>
        exfalso
        refine c (b_ext fun i hi => ?_)
        rw [b_and]
        by_cases z : i = 0
        · subst z; rw [e, q, h1]; rfl
        · rw [(by decide +kernel : ∀ i, i < 32 → i ≠ 0 → bt 1 i = false) i hi z, Bool.and_false]
    rw [this] at h; exact h
def fedT (T : MS) (p q : Nat) (c : Int32) : MS := up2 (up2 T (13 + p) 4 (fdV (T (13 + p) 4) q c)) (13 + q) 4 (fdV (T (13 + q) 4) p c)
theorem sf_feud {post : Int32 → MS → Prop} (O : rOk T Γ σ)
    (h1 : ((∀ p, p < Γ.1 → a1 ≠ nI p) ∨ (∀ p, p < Γ.1 → a2 ≠ nI p)) → ∀ τ, rOk T Γ τ → τ 0 0 = 1 → post 0 τ)
    (h2 : ∀ p, p < Γ.1 → a1 = nI p → a2 = nI p → ∀ τ, rOk T Γ τ → τ 0 0 = 2 → post 0 τ)
    (h3 : ∀ p q, p < Γ.1 → q < Γ.1 → a1 = nI p → a2 = nI q → p ≠ q → ∀ τ, rOk (fedT T p q a3) Γ τ → τ 0 0 = 0 → post (b01 (bt (T (13 + p) 4) q)) τ) : w_X11_feud Γ post σ a1 a2 a3 := by
  have hP := O.hP
  have no : ∀ {t0 : Int32}, ¬ t0 ≤ 0 → (∀ τ, rOk T Γ τ → τ 0 0 = t0 → post 0 τ) → u_X11_feud_31 Γ post a1 a2 a3 σ t0 := fun {t0} ht h => by
    unfold u_X11_feud_31
    rw [up2_same]
    exact ⟨fun c => absurd c ht, fun _ => h _ (O.up (by unfold rPr; omega)) up2_same⟩
  have bad : ((∀ p, p < Γ.1 → a1 ≠ nI p) ∨ (∀ p, p < Γ.1 → a2 ≠ nI p)) → u_X11_feud_17 Γ post a1 a2 a3 σ := fun z => no (by decide) (h1 z)
  unfold w_X11_feud
  refine sx_isPlayer O (fun n1 => ⟨fun _ => bad (Or.inl n1), fun c => absurd rfl c⟩) (fun p r hp e hr => ⟨fun c => absurd c hr, fun _ => sx_isPlayer O (fun n2 => ⟨fun _ => bad (Or.inr n2), fun c => absurd rfl c⟩) (fun p2 r2 hp2 e2 hr2 => ⟨fun c => absurd c hr2, fun _ => ⟨fun c => ?_, fun c => ?_⟩⟩)⟩)
  · refine no (by decide) (h2 p hp e (c ▸ e))
  have hne : p ≠ p2 := fun z => c (by rw [e, e2, z])
  unfold u_X11_feud_31
  have O := O.up (k := 0) (j := 0) (v := 0) (by unfold rPr; omega)
  refine ⟨fun _ => sf_pget O hp e ⟨⟨by omega, hp⟩, sf_pget O hp2 e2 ⟨⟨by omega, hp2⟩, ?_⟩⟩, fun c => absurd (show (up2 σ 0 0 0) 0 0 ≤ 0 by rw [up2_same]; exact le_self _) c⟩
  have ep : (up2 σ 0 0 0) (13 + p) 4 = T (13 + p) 4 := O.tld (by unfold rTd; omega)
  have eq : (up2 σ 0 0 0) (13 + p2) 4 = T (13 + p2) 4 := O.tld (by unfold rTd; omega)
  have O2 := (O.tel (k := 13 + p) (j := 4) (v := fdV (T (13 + p) 4) p2 a3) (by unfold rPr0; omega)).tel (k := 13 + p2) (j := 4) (v := fdV (T (13 + p2) 4) p a3) (by unfold rPr0; omega)
  have nr : ∀ x : Bool, narrow .boolean (.int (b01 x)) = .int (b01 x) := fun x => by cases x <;> rfl
  rw [ep]
  subst e
  subst e2
  have fin := h3 p p2 hp hp2 rfl rfl hne _ O2 (by rw [up2_off (by omega), up2_off (by omega), up2_same])
  refine sx_isIn (by omega) ⟨fun d => ?_, fun d => ?_⟩
  · unfold u_X11_feud_109
    refine ⟨fun _ => ⟨nr _, ?_⟩, fun d2 => absurd d d2⟩
    rw [up2_off (σ := up2 σ 0 0 0) (by omega), eq, ep]
    unfold fdV at fin
    rw [if_pos d, if_pos d] at fin
    exact fin
  · unfold u_X11_feud_109
    refine ⟨fun d2 => absurd d2 d, fun _ => ⟨nr _, ?_⟩⟩
    rw [up2_off (σ := up2 σ 0 0 0) (by omega), eq, ep]
    unfold fdV at fin
    rw [if_neg d, if_neg d] at fin
    exact fin
/-- loops over players, weddings, where nothing changes: what the turn does with its own numbers -/
theorem pl_loop {S : Type} (O : rOk T Γ σ) (U : Nat → S → Int32 → Prop) (hz : ∀ s, U 1 s (nI Γ.1)) (hs : ∀ i k s, i < Γ.1 → (∀ s', U k s' (nI i + 1)) → U (k + 1) s (nI i)) (s : S) : ∃ k, U k s 0 := by
  have := inv_loop (fun k (q : S × Int32) => U k q.1 q.2) (fun j q => q.2 = nI j) Γ.1 (by rintro ⟨s, v⟩ rfl; exact hz s) (by rintro j k ⟨s, v⟩ hj rfl ih; exact hs j k s hj (fun s' => by rw [nI_1]; exact ih (s', nI (j + 1)) rfl)) 0 (by omega) (s, 0) nI_0.symm
  exact this
theorem wd_loop {S : Type} (O : rOk T Γ σ) (U : Nat → S → Int32 → Prop) (hz : ∀ s, U 1 s (nI Γ.2.2.1)) (hs : ∀ i k s, i < Γ.2.2.1 → (∀ s', U k s' (nI i + 1)) → U (k + 1) s (nI i)) (s : S) : ∃ k, U k s 0 := by
  have := inv_loop (fun k (q : S × Int32) => U k q.1 q.2) (fun j q => q.2 = nI j) Γ.2.2.1 (by rintro ⟨s, v⟩ rfl; exact hz s) (by rintro j k ⟨s, v⟩ hj rfl ih; exact hs j k s hj (fun s' => by rw [nI_1]; exact ih (s', nI (j + 1)) rfl)) 0 (by omega) (s, 0) nI_0.symm
  exact this
theorem sf_isPeaceful {post : Int32 → MS → Prop} (O : rOk T Γ σ) (h : ∀ r, post r σ) : w_X11_isPeaceful Γ post σ a1 := by
  have hP := O.hP
  unfold w_X11_isPeaceful
  refine pl_loop (S := Unit) O (fun k _ v => u_X11_isPeaceful_2 Γ post a1 k σ v) (fun _ => ?_) (fun i k _ hi ih => ?_) ()
  · unfold u_X11_isPeaceful_2 w_lp_Jx4a65c_size_8abf5
    rw [O.p]
    exact ⟨fun _ => h 1, fun c => absurd (le_self _) c⟩
  · unfold u_X11_isPeaceful_2 w_lp_Jx4a65c_size_8abf5
    rw [O.p]
    exact ⟨fun c => absurd c (nI_ge hi (by omega)), fun _ => sf_isIn (fun r => ⟨fun _ => ih (), fun _ => sf_pget O hi rfl ⟨⟨by omega, hi⟩, fun _ => ih (), fun _ => h 0⟩⟩)⟩
theorem sf_isKnown {post : Int32 → MS → Prop} (O : rOk T Γ σ) (h : ∀ r, post r σ) : w_X11_isKnown Γ post σ a1 a2 := by
  have hP := O.hP
  unfold w_X11_isKnown
  refine pl_loop (S := Int32) O (fun k s v => u_X11_isKnown_5 Γ post a1 a2 k σ s v) (fun s => ?_) (fun i k s hi ih => ?_) 0
  · unfold u_X11_isKnown_5 w_lp_Jx4a65c_size_8abf5
    rw [O.p]
    exact ⟨fun _ => ⟨fun _ => h 1, fun _ => ⟨fun _ => sf_bc (fun r => ⟨fun _ => h 1, fun _ => h 0⟩), fun _ => h 0⟩⟩, fun c => absurd (le_self _) c⟩
  · unfold u_X11_isKnown_5 w_lp_Jx4a65c_size_8abf5
    rw [O.p]
    exact ⟨fun c => absurd c (nI_ge hi (by omega)), fun _ => sf_isIn (fun r => ⟨fun _ => ih _, fun _ => sf_pget O hi rfl ⟨⟨by omega, hi⟩, sf_isIn (fun r2 => ⟨fun _ => ih _, fun _ => ih _⟩)⟩⟩)⟩
theorem sf_areKnown {post : Int32 → MS → Prop} (O : rOk T Γ σ) (h : ∀ r, post r σ) : w_X11_areKnown Γ post σ a1 a2 := by
  unfold w_X11_areKnown
  refine up_loop (fun k (v : Int32) => u_X11_areKnown_2 Γ post a1 a2 k σ v) (fun i => nI i) 16 ?_ (fun i k hi ih => ?_)
  · show u_X11_areKnown_2 Γ post a1 a2 1 σ (nI 16)
    unfold u_X11_areKnown_2
    exact ⟨fun _ => h 1, fun c => absurd (le_self (nI 16)) c⟩
  · have ih : u_X11_areKnown_2 Γ post a1 a2 k σ (nI (i + 1)) := ih
    rw [← nI_1 i] at ih
    show u_X11_areKnown_2 Γ post a1 a2 (k + 1) σ (nI i)
    unfold u_X11_areKnown_2
    exact ⟨fun c => absurd (show nI 16 ≤ nI i from c) (nI_ge hi (by decide)), fun _ => sf_isIn (fun r => ⟨fun _ => ih, fun _ => sf_isKnown O (fun r2 => ⟨fun _ => h 0, fun _ => ih⟩)⟩)⟩
theorem sf_cost {post : Int32 → MS → Prop} {p w : Nat} (O : rOk T Γ σ) (hp : p < Γ.1) (e : a1 = nI p) (hw : w < Γ.2.2.1) (h : ∀ r, post r σ) : w_X11_cost Γ post σ a1 w := by
  have hP := O.hP
  unfold w_X11_cost
  exact sf_pget O hp e ⟨⟨by omega, hp⟩, sf_driveOf (O.home hp) (O.town hw) (fun r => ⟨fun _ => h _, fun _ => h _⟩)⟩
theorem sf_costOf {post : Int32 → MS → Prop} {w : Nat} (O : rOk T Γ σ) (hw : w < Γ.2.2.1) (h : ∀ r, post r σ) : w_X11_costOf Γ post σ a1 w := by
  have hP := O.hP
  unfold w_X11_costOf
  refine pl_loop (S := Int32) O (fun k s v => u_X11_costOf_5 Γ post a1 w k σ s v) (fun s => ?_) (fun i k s hi ih => ?_) 0
  · unfold u_X11_costOf_5 w_lp_Jx4a65c_size_8abf5
    rw [O.p]
    exact ⟨fun _ => h _, fun c => absurd (le_self _) c⟩
  · unfold u_X11_costOf_5 w_lp_Jx4a65c_size_8abf5
    rw [O.p]
    exact ⟨fun c => absurd c (nI_ge hi (by omega)), fun _ => sf_isIn (fun r => ⟨fun _ => ih _, fun _ => sf_cost O hi rfl hw (fun r2 => ih _)⟩)⟩
theorem sf_quarters {post : Int32 → MS → Prop} {w : Nat} (h : ∀ r, post r σ) : w_X10_quarters Γ post σ w := fun _ _ => h _
theorem sf_owed {post : Int32 → MS → Prop} {w : Nat} (h : ∀ r, post r σ) : w_X11_owed Γ post σ w := ⟨fun _ => ⟨fun _ => ⟨fun _ => h _, fun _ => h _⟩, fun _ => h _⟩, fun _ => h _⟩
end RSAFE2
