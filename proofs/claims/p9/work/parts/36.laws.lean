/-! LAWS: fillings -/
theorem nI_bv (x : Int32) : x = nI x.toBitVec.toNat := Int32.toBitVec_inj.mp (by show _ = BitVec.ofNat 32 _; simp)
theorem and_small {i M : Nat} (hi : i < M) (hM : M < 2 ^ 31) (x : Int32) : ∃ j, j ≤ i ∧ nI i &&& x = nI j := by
  rw [nI_bv x, nx_and]
  exact ⟨_, Nat.and_le_left, rfl⟩
theorem vp_and {i M : Nat} (hi : i < M) (hM : M < 2 ^ 31) (x : Int32) : vp_in (nI i &&& x) M := by
  obtain ⟨j, hj, h⟩ := and_small hi hM x
  rw [h]
  exact vp_in_nI (by omega) hM
def pl (σ : MS) (b j : Nat) : Nat := (σ (67 + b) j).toNatClampNeg
theorem Ok.plc {σ : MS} {P B W T b j : Nat} (O : Ok σ P B W T) (hb : b < 6) (hj : j < 5) : σ (67 + b) j = nI (pl σ b j) ∧ pl σ b j < 6 := by
  obtain ⟨q, hq, h⟩ := O.place b j hb hj
  unfold pl
  rw [h, nI_clamp (by omega)]
  exact ⟨rfl, hq⟩
/-- the set without p, as a number -/
def clr (s : Int32) (p : Nat) : Nat := (s &&& ((1 <<< (nI p &&& 31)) ^^^ (-1))).toNatClampNeg
/-- one of the first n can take the place, and the others are seated -/
def seatB (σ : MS) (b last : Nat) (s : Int32) : Nat → Bool
  | 0 => false
  | n + 1 => seatB σ b last s n || decide (bt s n = true ∧ bt (σ (29 + n) 0) (pl σ b last) = true ∧ ¬ σ 8 (clr s n) = 0)
theorem seatB_le {σ : MS} {b last : Nat} {s : Int32} {i n : Nat} (h : i ≤ n) (ht : seatB σ b last s i = true) : seatB σ b last s n = true := by
  induction n with
  | zero => obtain rfl : i = 0 := by omega
            exact ht
  | succ n ih =>
    by_cases q : i = n + 1
    · subst q; exact ht
    · unfold seatB; rw [ih (by omega)]; rfl
def seatF (σ : MS) (b : Nat) (s : Int32) (P : Nat) : Bool := if bcI s - 1 < 0 then false else if bcI s - 1 < σ (55 + b) 2 then seatB σ b (bcI s - 1).toNatClampNeg s P else false
theorem law_canBeSeated {post : Int32 → MS → Prop} {σ : MS} {P B W T b i : Nat} (O : Ok σ P B W T) (hb : b < 6) (hi : i < 1024) (h : post (b01 (seatF σ b (nI i) P)) σ) : w_X7_canBeSeated post σ (nI i) b := by
  have hP := O.hP
  unfold w_X7_canBeSeated
  unfold seatF at h
  refine law_bitCount ⟨fun c => ?_, fun c => ⟨fun d => ?_, fun d => ?_⟩⟩
  · rw [if_pos c] at h; exact h
  · rw [if_neg c, if_pos d] at h
    obtain ⟨sz, hsz, hs⟩ := O.size b hb
    obtain ⟨last, hlt, hl⟩ := nI_of c
    have hl5 : last < 5 := by
      rw [hl, hs] at d
      have := (nI_ltI hlt (by omega)).mp d
      omega
    rw [hl, nI_clamp (by omega)] at h
    rw [hl]
    obtain ⟨hp1, hp2⟩ := O.plc hb hl5
    have key : ∀ d j, j + d = P → seatB σ b last (nI i) j = false → u_X7_canBeSeated_24 post (nI i) b (d + 1) σ (nI last) (nI j) := by
      intro d
      induction d with
      | zero =>
        intro j hj hf
        obtain rfl : j = P := by omega
        rw [u_X7_canBeSeated_24, O.h6]
        rw [hf] at h
        exact ⟨fun _ => h, fun c => absurd (le_self _) c⟩
      | succ d ih =>
        intro j hj hf
        have step : ¬ (bt (nI i) j = true ∧ bt (σ (29 + j) 0) (pl σ b last) = true ∧ ¬ σ 8 (clr (nI i) j) = 0) → u_X7_canBeSeated_24 post (nI i) b (d + 1) σ (nI last) (nI (j + 1)) := fun hx => ih (j + 1) (by omega) (by unfold seatB; rw [hf, decide_eq_false hx]; rfl)
        rw [u_X7_canBeSeated_24, O.h6, nI_1, nI_clamp (by omega), nI_clamp (by omega)]
        refine ⟨fun c => absurd c (nI_ge (by omega) (by omega)), fun _ => law_has (by omega) ⟨fun c => step fun q => ?_, fun c => ⟨vp_in_nI (by omega) (by decide), vp_in_nI hl5 (by decide), (congrArg (w_X7_has _ _ _) hp1).mpr (law_has (by omega) ⟨fun c2 => step fun q => ?_, fun c2 => ⟨vp_and hi (by decide) _, fun c3 => step fun q => q.2.2 c3, fun c3 => ?_⟩⟩)⟩⟩⟩
        · rw [b01_0.mp c] at q
          exact Bool.false_ne_true q.1
        · rw [b01_0.mp c2] at q
          exact Bool.false_ne_true q.2.1
        · have ht : seatB σ b last (nI i) (j + 1) = true := by unfold seatB; rw [decide_eq_true ⟨b01_1.mp c, b01_1.mp c2, c3⟩, Bool.or_true]
          rw [seatB_le (n := P) (by omega) ht] at h
          exact h
    exact ⟨P + 1, key P 0 (by omega) rfl⟩
  · rw [if_neg c, if_neg d] at h; exact h
/-- seated, as the first n sets are marked -/
def sat (σ : MS) (b P : Nat) : Nat → MS
  | 0 => up2 σ 8 0 1
  | n + 1 => up2 (sat σ b P n) 8 (n + 1) (b01 (seatF (sat σ b P n) b (nI (n + 1)) P))
theorem Scr.sat (σ : MS) (b P : Nat) : ∀ n, Scr σ (sat σ b P n)
  | 0 => Scr.up (by decide) (by decide)
  | n + 1 => (Scr.sat σ b P n).tr (Scr.up (by decide) (by decide))
theorem nar01 (b : Bool) : vp_nar .boolean (b01 b) = b01 b := by cases b <;> decide
theorem shl1 : ∀ P, P ≤ 10 → (1 : Int32) <<< (nI P &&& 31) = nI (2 ^ P) := by decide +kernel
theorem pw1024 {P : Nat} (h : P ≤ 10) : 1 ≤ 2 ^ P ∧ 2 ^ P ≤ 1024 := ⟨Nat.one_le_two_pow, Nat.pow_le_pow_right (by decide) h⟩
theorem law_seatAll {post : MS → Prop} {σ : MS} {P B W T b : Nat} (O : Ok σ P B W T) (hb : b < 6) (h : post (sat σ b P (2 ^ P - 1))) : w_X7_seatAll post σ b := by
  have hP := O.hP
  obtain ⟨hp1, hp2⟩ := pw1024 hP
  unfold w_X7_seatAll
  refine ⟨by show ¬ ((0 : Int32) < 0 ∨ 1024 ≤ (0 : Int32).toNatClampNeg); decide, ?_⟩
  have hl := up_loop (fun k (q : MS × Int32) => u_X7_seatAll_9 post b k q.1 q.2) (fun i => (sat σ b P i, nI (i + 1))) (2 ^ P - 1) ?_ (fun i k hi hk => ?_)
  · exact hl
  · show u_X7_seatAll_9 post b 1 (sat σ b P (2 ^ P - 1)) (nI (2 ^ P - 1 + 1))
    rw [u_X7_seatAll_9, (O.scr (Scr.sat σ b P _)).h6, shl1 P hP, Nat.sub_add_cancel hp1]
    exact ⟨fun _ => h, fun c => absurd (le_self _) c⟩
  · show u_X7_seatAll_9 post b (k + 1) (sat σ b P i) (nI (i + 1))
    have hk : u_X7_seatAll_9 post b k (up2 (sat σ b P i) 8 (i + 1) (b01 (seatF (sat σ b P i) b (nI (i + 1)) P))) (nI (i + 1 + 1)) := hk
    rw [u_X7_seatAll_9, (O.scr (Scr.sat σ b P i)).h6, shl1 P hP, nI_1, nI_clamp (by omega)]
    exact ⟨fun c => absurd c (nI_ge (by omega) (by omega)), fun _ => law_canBeSeated (O.scr (Scr.sat σ b P i)) hb (by omega) ⟨vp_in_nI (by omega) (by decide), by rw [nar01]; exact hk⟩⟩
