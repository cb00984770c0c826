/-! LAWS: roads, bands -/
def shB (x : MS) (o a b : Nat) : MS :=
  if x (23 + a) o = -1 ∨ x (23 + o) b = -1 then x else up2 x (23 + a) b (if x (23 + a) b = -1 then x (23 + a) o + x (23 + o) b else if x (23 + a) o + x (23 + o) b < x (23 + a) b then x (23 + a) o + x (23 + o) b else x (23 + a) b)
def shA (x : MS) (o a : Nat) : Nat → MS
  | 0 => x
  | n + 1 => shB (shA x o a n) o a n
def shO (x : MS) (o : Nat) : Nat → MS
  | 0 => x
  | n + 1 => shA (shO x o n) o n 6
theorem kp_shB (x : MS) (o : Nat) {a : Nat} (b : Nat) (ha : a < 6) : Kp x (shB x o a b) := by
  unfold shB
  split
  · exact Kp.rf _
  · exact Kp.up (by unfold okPl; omega)
theorem Kp.shA (x : MS) (o : Nat) {a : Nat} (ha : a < 6) : ∀ n, Kp x (shA x o a n)
  | 0 => Kp.rf x
  | n + 1 => (Kp.shA x o ha n).tr (kp_shB _ _ _ ha)
theorem Kp.shO (x : MS) (o : Nat) : ∀ n, n ≤ 6 → Kp x (shO x o n)
  | 0, _ => Kp.rf x
  | n + 1, h => (Kp.shO x o n (by omega)).tr (Kp.shA _ _ (by omega) 6)
theorem law_sh10 {post : MS → Prop} {K : MS → Int32 → Prop} {x : MS} {o a : Nat} (ho : o < 6) (ha : a < 6) (h : K (shA x o a 6) (nI (a + 1))) : ∃ k, u_X4_shortenOver_10 post (nI o) K k x (nI a) 0 := by
  obtain ⟨N, hN⟩ : ∃ N, 6 = N := ⟨6, rfl⟩
  have e6 : (6 : Int32) = nI N := by rw [← hN]; rfl
  rw [hN] at h
  refine up_loop (fun k (q : MS × Int32) => u_X4_shortenOver_10 post (nI o) K k q.1 (nI a) q.2) (fun i => (shA x o a i, nI i)) N ?_ (fun i k hi hk => ?_)
  · show u_X4_shortenOver_10 post (nI o) K 1 (shA x o a N) (nI a) (nI N)
    rw [u_X4_shortenOver_10, nI_1, e6]
    exact ⟨fun _ => h, fun c => absurd (le_self _) c⟩
  · show u_X4_shortenOver_10 post (nI o) K (k + 1) (shA x o a i) (nI a) (nI i)
    have hk : u_X4_shortenOver_10 post (nI o) K k (shB (shA x o a i) o a i) (nI a) (nI (i + 1)) := hk
    generalize shA x o a i = y at hk ⊢
    unfold shB at hk
    have va : vp_in (nI a) 6 := vp_in_nI ha (by decide)
    have vo : vp_in (nI o) 6 := vp_in_nI ho (by decide)
    have vi : vp_in (nI i) 6 := vp_in_nI (by omega) (by decide)
    rw [u_X4_shortenOver_10, nI_1, nI_1, nI_clamp (show a < 2 ^ 31 by omega), nI_clamp (show o < 2 ^ 31 by omega), nI_clamp (show i < 2 ^ 31 by omega), e6]
    refine ⟨fun c => absurd c (nI_ge hi (by omega)), fun _ => ⟨va, vo, fun c => ?_, fun c => ⟨vo, vi, fun d => ?_, fun d => ⟨va, vo, vo, vi, va, va, vi, fun e => ⟨vi, ?_⟩, fun e => ⟨va, vi, vi, ?_⟩⟩⟩⟩⟩
    · rw [if_pos (Or.inl c)] at hk; exact hk
    · rw [if_pos (Or.inr d)] at hk; exact hk
    · rw [if_neg (fun q => q.elim c d), if_pos e] at hk; exact hk
    · rw [if_neg (fun q => q.elim c d), if_neg e] at hk; exact hk
theorem law_shortenOver {post : MS → Prop} {x : MS} {o : Nat} (ho : o < 6) (h : post (shO x o 6)) : w_X4_shortenOver post x (nI o) := by
  unfold w_X4_shortenOver
  obtain ⟨N, hN⟩ : ∃ N, 6 = N := ⟨6, rfl⟩
  have e6 : (6 : Int32) = nI N := by rw [← hN]; rfl
  rw [hN] at h
  refine up_loop (fun k (q : MS × Int32) => u_X4_shortenOver_2 post (nI o) k q.1 q.2) (fun i => (shO x o i, nI i)) N ?_ (fun i k hi hk => ?_)
  · show u_X4_shortenOver_2 post (nI o) 1 (shO x o N) (nI N)
    rw [u_X4_shortenOver_2, e6]
    exact ⟨fun _ => h, fun c => absurd (le_self _) c⟩
  · show u_X4_shortenOver_2 post (nI o) (k + 1) (shO x o i) (nI i)
    dsimp only at hk
    unfold shO at hk
    generalize shO x o i = y at hk ⊢
    rw [u_X4_shortenOver_2, e6]
    exact ⟨fun c => absurd c (nI_ge hi (by omega)), fun _ => law_sh10 ho (by omega) hk⟩
def ovS (x : MS) : Nat → MS
  | 0 => x
  | n + 1 => shO (ovS x n) n 6
theorem Kp.ov (x : MS) : ∀ n, Kp x (ovS x n)
  | 0 => Kp.rf x
  | n + 1 => (Kp.ov x n).tr (Kp.shO _ _ 6 (by decide))
def lyV (x : MS) (a b : Nat) : Int32 := if a = b then 0 else if x (17 + a) b = 0 then -1 else x (17 + a) b
def lyB (x : MS) (a : Nat) : Nat → MS
  | 0 => x
  | n + 1 => up2 (lyB x a n) (23 + a) n (lyV (lyB x a n) a n)
def lyA (x : MS) : Nat → MS
  | 0 => x
  | n + 1 => lyB (lyA x n) n 6
theorem Kp.lyB (x : MS) {a : Nat} (ha : a < 6) : ∀ n, Kp x (lyB x a n)
  | 0 => Kp.rf x
  | n + 1 => (Kp.lyB x ha n).tr (Kp.up (by unfold okPl; omega))
theorem Kp.lyA (x : MS) : ∀ n, n ≤ 6 → Kp x (lyA x n)
  | 0, _ => Kp.rf x
  | n + 1, h => (Kp.lyA x n (by omega)).tr (Kp.lyB _ (by omega) 6)
def layS (x : MS) (i j : Nat) (h : Int32) : MS := ovS (lyA (up2 (up2 x (17 + i) j h) (17 + j) i h) 6) 6
theorem Kp.lay (x : MS) {i j : Nat} {h : Int32} (hi : i < 6) (hj : j < 6) : Kp x (layS x i j h) := ((((Kp.up (by unfold okPl; omega)).tr (Kp.up (by unfold okPl; omega))).tr (Kp.lyA _ 6 (by decide))).tr (Kp.ov _ 6))
theorem law_ly101 {post : MS → Prop} {a1 a2 a3 : Int32} {x : MS} (h : post (ovS x 6)) : ∃ k, u_X4_lay_101 post a1 a2 a3 k x 0 := by
  obtain ⟨N, hN⟩ : ∃ N, 6 = N := ⟨6, rfl⟩
  have e6 : (6 : Int32) = nI N := by rw [← hN]; rfl
  rw [hN] at h
  refine up_loop (fun k (q : MS × Int32) => u_X4_lay_101 post a1 a2 a3 k q.1 q.2) (fun i => (ovS x i, nI i)) N ?_ (fun i k hi hk => ?_)
  · show u_X4_lay_101 post a1 a2 a3 1 (ovS x N) (nI N)
    rw [u_X4_lay_101, e6]
    exact ⟨fun _ => h, fun c => absurd (le_self _) c⟩
  · show u_X4_lay_101 post a1 a2 a3 (k + 1) (ovS x i) (nI i)
    dsimp only at hk
    unfold ovS at hk
    generalize ovS x i = y at hk ⊢
    rw [u_X4_lay_101, nI_1, e6]
    exact ⟨fun c => absurd c (nI_ge hi (by omega)), fun _ => law_shortenOver (by omega) hk⟩
theorem law_ly31 {post : MS → Prop} {a1 a2 a3 : Int32} {K : MS → Int32 → Prop} {x : MS} {a : Nat} (ha : a < 6) (h : K (lyB x a 6) (nI (a + 1))) : ∃ k, u_X4_lay_31 post a1 a2 a3 K k x (nI a) 0 := by
  obtain ⟨N, hN⟩ : ∃ N, 6 = N := ⟨6, rfl⟩
  have e6 : (6 : Int32) = nI N := by rw [← hN]; rfl
  rw [hN] at h
  refine up_loop (fun k (q : MS × Int32) => u_X4_lay_31 post a1 a2 a3 K k q.1 (nI a) q.2) (fun i => (lyB x a i, nI i)) N ?_ (fun i k hi hk => ?_)
  · show u_X4_lay_31 post a1 a2 a3 K 1 (lyB x a N) (nI a) (nI N)
    rw [u_X4_lay_31, nI_1, e6]
    exact ⟨fun _ => h, fun c => absurd (le_self _) c⟩
  · show u_X4_lay_31 post a1 a2 a3 K (k + 1) (lyB x a i) (nI a) (nI i)
    have hk : u_X4_lay_31 post a1 a2 a3 K k (lyB x a (i + 1)) (nI a) (nI (i + 1)) := hk
    unfold lyB at hk
    generalize lyB x a i = y at hk ⊢
    unfold lyV at hk
    have va : vp_in (nI a) 6 := vp_in_nI ha (by decide)
    have vi : vp_in (nI i) 6 := vp_in_nI (by omega) (by decide)
    rw [u_X4_lay_31, nI_1, nI_1, nI_clamp (show a < 2 ^ 31 by omega), nI_clamp (show i < 2 ^ 31 by omega), e6]
    have hne : a ≠ i → ¬ nI a = nI i := fun q z => by
      have := congrArg Int32.toNatClampNeg z
      rw [nI_clamp (by omega), nI_clamp (by omega)] at this
      exact q this
    refine ⟨fun c => absurd c (nI_ge hi (by omega)), fun _ => ⟨va, fun c => ⟨vi, ?_⟩, fun c => ⟨va, vi, fun d => ⟨vi, ?_⟩, fun d => ⟨va, vi, vi, ?_⟩⟩⟩⟩
    · have e : a = i := Decidable.byContradiction fun q => hne q c
      rw [if_pos e] at hk; exact hk
    · rw [if_neg (fun q => c (by rw [q])), if_pos d] at hk; exact hk
    · rw [if_neg (fun q => c (by rw [q])), if_neg d] at hk; exact hk
theorem law_lay {post : MS → Prop} {x : MS} {i j : Nat} {v : Int32} (hi : i < 6) (hj : j < 6) (h : post (layS x i j v)) : w_X4_lay post x (nI i) (nI j) v := by
  have vi : vp_in (nI i) 6 := vp_in_nI hi (by decide)
  have vj : vp_in (nI j) 6 := vp_in_nI hj (by decide)
  unfold w_X4_lay
  unfold layS at h
  rw [nI_clamp (show i < 2 ^ 31 by omega), nI_clamp (show j < 2 ^ 31 by omega)]
  refine ⟨vi, vj, vj, vi, ?_⟩
  generalize up2 (up2 x (17 + i) j v) (17 + j) i v = y at h ⊢
  obtain ⟨N, hN⟩ : ∃ N, 6 = N := ⟨6, rfl⟩
  have e6 : (6 : Int32) = nI N := by rw [← hN]; rfl
  have h : post (ovS (lyA y N) 6) := by rw [← hN]; exact h
  refine up_loop (fun k (q : MS × Int32) => u_X4_lay_21 post (nI i) (nI j) v k q.1 q.2) (fun i => (lyA y i, nI i)) N ?_ (fun i' k hi' hk => ?_)
  · show u_X4_lay_21 post (nI i) (nI j) v 1 (lyA y N) (nI N)
    rw [u_X4_lay_21, e6]
    exact ⟨fun _ => law_ly101 h, fun c => absurd (le_self _) c⟩
  · show u_X4_lay_21 post (nI i) (nI j) v (k + 1) (lyA y i') (nI i')
    have hk : u_X4_lay_21 post (nI i) (nI j) v k (lyA y (i' + 1)) (nI (i' + 1)) := hk
    unfold lyA at hk
    generalize lyA y i' = z at hk ⊢
    rw [u_X4_lay_21, e6]
    exact ⟨fun c => absurd c (nI_ge hi' (by omega)), fun _ => law_ly31 (by omega) hk⟩
def rdOk (a b h : Int32) : Prop := ¬ a = b ∧ ¬ h < 0 ∧ h ≤ 9
theorem law_T_road {post : Int32 → MS → Prop} {pex : String → MS → Prop} {σ : MS} {a b h : Int32}
    (hx : ((∀ p, p < 6 → a ≠ nI p) ∨ (∀ p, p < 6 → b ≠ nI p)) → pex xIO σ)
    (hq : ∀ i j, i < 6 → j < 6 → a = nI i → b = nI j → ¬ rdOk a b h → pex xIA σ)
    (hp : ∀ i j, i < 6 → j < 6 → a = nI i → b = nI j → rdOk a b h → post (layS σ i j h (23 + i) j) (layS σ i j h)) : w_T_X7_road post pex σ a b h := by
  unfold w_T_X7_road u_T_X7_road_23
  refine law_T_checkTown (fun i hi e => law_T_checkTown (fun j hj e2 => ?_) (fun z => hx (Or.inr z))) (fun z => hx (Or.inl z))
  have hq := hq i j hi hj e e2
  have hp := hp i j hi hj e e2
  refine ⟨fun c => hq fun z => z.1 c, fun c => ⟨fun d => hq fun z => z.2.1 d, fun d => ⟨fun f => ?_, fun f => hq fun z => f z.2.2⟩⟩⟩
  have hp2 := hp ⟨c, d, f⟩
  subst e
  subst e2
  refine law_lay hi hj (law_between (vp_in_nI hi (by decide)) (vp_in_nI hj (by decide)) ?_)
  unfold wayF
  rw [nI_clamp (show i < 2 ^ 31 by omega), nI_clamp (show j < 2 ^ 31 by omega)]
  exact hp2
/-! bands -/
def szI (a : Int32) : Nat → Int32 × Int32
  | 0 => (0, a)
  | n + 1 => ((szI a n).1 + ((szI a n).2 - (szI a n).2 / 3 * 3), (szI a n).2 / 3)
theorem law_sizeOf {post : Int32 → MS → Prop} {σ : MS} {a : Int32} (h : post (szI a 6).1 σ) : w_X7_sizeOf post σ a := by
  unfold w_X7_sizeOf
  obtain ⟨N, hN⟩ : ∃ N, 6 = N := ⟨6, rfl⟩
  have e6 : (6 : Int32) = nI N := by rw [← hN]; rfl
  rw [hN] at h
  refine up_loop (fun k (q : Int32 × Int32 × Int32) => u_X7_sizeOf_6 post a k σ q.1 q.2.1 q.2.2) (fun i => ((szI a i).1, (szI a i).2, nI i)) N ?_ (fun i k hi hk => ?_)
  · show u_X7_sizeOf_6 post a 1 σ (szI a N).1 (szI a N).2 (nI N)
    rw [u_X7_sizeOf_6, e6]
    exact ⟨fun _ => h, fun c => absurd (le_self _) c⟩
  · show u_X7_sizeOf_6 post a (k + 1) σ (szI a i).1 (szI a i).2 (nI i)
    rw [u_X7_sizeOf_6, nI_1, e6]
    exact ⟨fun c => absurd c (nI_ge hi (by omega)), fun _ => hk⟩
def tkI (x : MS) (b k : Nat) : Nat → MS
  | 0 => x
  | n + 1 => if 5 ≤ tkI x b k n (55 + b) 2 then tkI x b k n else up2 (up2 (tkI x b k n) (67 + b) (tkI x b k n (55 + b) 2).toNatClampNeg (nI k)) (55 + b) 2 (tkI x b k n (55 + b) 2 + 1)
theorem tkI_n {x : MS} {b k : Nat} (hb : b < 6) : ∀ n, tkI x b k n (61 + b) = x (61 + b)
  | 0 => rfl
  | n + 1 => by
    have ih := tkI_n (x := x) (k := k) hb n
    unfold tkI
    split
    · exact ih
    · rw [up2_ne (by omega), up2_ne (by omega)]
      exact ih
theorem tkI_s {x : MS} {b k s : Nat} (hs : s ≤ 5) (h : x (55 + b) 2 = nI s) : ∀ n, ∃ t, s ≤ t ∧ t ≤ 5 ∧ tkI x b k n (55 + b) 2 = nI t
  | 0 => ⟨s, Nat.le_refl s, hs, h⟩
  | n + 1 => by
    obtain ⟨t, h1, h2, h3⟩ := tkI_s (k := k) hs h n
    unfold tkI
    split
    · exact ⟨t, h1, h2, h3⟩
    · rename_i c
      rw [h3] at c ⊢
      have : t < 5 := Nat.lt_of_not_le fun z => c (show nI 5 ≤ nI t from nI_le z (by omega))
      exact ⟨t + 1, by omega, by omega, by rw [up2_same, nI_1]⟩
theorem tkI_stop {x : MS} {b k i n : Nat} (hi : i ≤ n) (h : 5 ≤ tkI x b k i (55 + b) 2) : tkI x b k n = tkI x b k i := by
  induction n with
  | zero => obtain rfl : i = 0 := by omega
            rfl
  | succ n ih =>
    by_cases q : i = n + 1
    · subst q; rfl
    · have e := ih (by omega)
      rw [← e]
      conv => lhs; unfold tkI
      rw [if_pos (by rw [e]; exact h)]
theorem law_tk26 {post : MS → Prop} {a1 v : Int32} {K : MS → Int32 → Int32 → Prop} {x : MS} {b k s r : Nat} (hb : b < 6) (hk6 : k < 6) (hs : s ≤ 5) (h : x (55 + b) 2 = nI s) (hr : r < 2 ^ 31) (hn : x (61 + b) k = nI r) (hK : K (tkI x b k r) v (nI (k + 1))) : ∃ n, u_X0_take_26 post b a1 K n x v (nI k) 0 := by
  refine up_loop (fun n (q : MS × Int32) => u_X0_take_26 post b a1 K n q.1 v (nI k) q.2) (fun i => (tkI x b k i, nI i)) r ?_ (fun i n hi hk => ?_)
  · show u_X0_take_26 post b a1 K 1 (tkI x b k r) v (nI k) (nI r)
    rw [u_X0_take_26, nI_1, nI_clamp (show k < 2 ^ 31 by omega), tkI_n hb, hn]
    exact ⟨vp_in_nI hk6 (by decide), fun _ => hK, fun c => absurd (le_self _) c⟩
  · show u_X0_take_26 post b a1 K (n + 1) (tkI x b k i) v (nI k) (nI i)
    have hk : u_X0_take_26 post b a1 K n (tkI x b k (i + 1)) v (nI k) (nI (i + 1)) := hk
    obtain ⟨t, t1, t2, t3⟩ := tkI_s (k := k) hs h i
    have hst := tkI_stop (x := x) (b := b) (k := k) (i := i) (n := r) (by omega)
    have e61 := tkI_n (x := x) (k := k) hb i
    unfold tkI at hk
    generalize tkI x b k i = y at hk t3 hst e61 ⊢
    rw [u_X0_take_26, nI_1, nI_1, nI_clamp (show k < 2 ^ 31 by omega), e61, hn, t3, nI_clamp (show t < 2 ^ 31 by omega)]
    rw [t3] at hk hst
    refine ⟨vp_in_nI hk6 (by decide), fun c => absurd c (nI_ge hi hr), fun _ => ⟨fun c => ?_, fun c => ?_⟩⟩
    · rw [hst c] at hK
      exact hK
    · rw [if_neg c, nI_clamp (show t < 2 ^ 31 by omega)] at hk
      have : t < 5 := Nat.lt_of_not_le fun z => c (show nI 5 ≤ nI t from nI_le z (by omega))
      refine ⟨vp_in_nI this (by decide), ?_⟩
      rw [up2_at (k' := 55 + b) (by omega), t3]
      exact hk
theorem dv3 : ∀ m, m ≤ 728 → nI m / 3 = nI (m / 3) ∧ nI m - nI m / 3 * 3 = nI (m % 3) := by decide +kernel
def tkO (x : MS) (b : Nat) (a : Int32) : Nat → MS × Int32
  | 0 => (x, a)
  | n + 1 => (tkI (up2 (tkO x b a n).1 (61 + b) n ((tkO x b a n).2 - (tkO x b a n).2 / 3 * 3)) b n ((tkO x b a n).2 - (tkO x b a n).2 / 3 * 3).toNatClampNeg, (tkO x b a n).2 / 3)
theorem tkO_2 {x : MS} {b m : Nat} (hm : m ≤ 728) : ∀ n, (tkO x b (nI m) n).2 = nI (m / 3 ^ n)
  | 0 => by rw [Nat.pow_zero, Nat.div_one]; rfl
  | n + 1 => by
    show (tkO x b (nI m) n).2 / 3 = _
    rw [tkO_2 hm n, (dv3 _ (Nat.le_trans (Nat.div_le_self _ _) hm)).1, Nat.pow_succ, Nat.div_div_eq_div_mul]
theorem tkO_s {x : MS} {b : Nat} {a : Int32} {s : Nat} (hs : s ≤ 5) (h : x (55 + b) 2 = nI s) (hb : b < 6) : ∀ n, ∃ t, s ≤ t ∧ t ≤ 5 ∧ (tkO x b a n).1 (55 + b) 2 = nI t
  | 0 => ⟨s, Nat.le_refl s, hs, h⟩
  | n + 1 => by
    obtain ⟨t, h1, h2, h3⟩ := tkO_s (a := a) hs h hb n
    obtain ⟨u, g1, g2, g3⟩ := tkI_s (x := up2 (tkO x b a n).1 (61 + b) n ((tkO x b a n).2 - (tkO x b a n).2 / 3 * 3)) (b := b) (k := n) (s := t) h2 (by rw [up2_ne (by omega)]; exact h3) ((tkO x b a n).2 - (tkO x b a n).2 / 3 * 3).toNatClampNeg
    exact ⟨u, by omega, g2, g3⟩
theorem law_take {post : MS → Prop} {x : MS} {b m s : Nat} (hb : b < 6) (hm : m ≤ 728) (hs : s ≤ 5) (hx : x (55 + b) 2 = nI s) (h : post (tkO x b (nI m) 6).1) : w_X0_take post x b (nI m) := by
  unfold w_X0_take
  obtain ⟨N, hN⟩ : ∃ N, 6 = N := ⟨6, rfl⟩
  have e6 : (6 : Int32) = nI N := by rw [← hN]; rfl
  rw [hN] at h
  refine up_loop (fun k (q : MS × Int32 × Int32) => u_X0_take_4 post b (nI m) k q.1 q.2.1 q.2.2) (fun i => ((tkO x b (nI m) i).1, (tkO x b (nI m) i).2, nI i)) N ?_ (fun i k hi hk => ?_)
  · show u_X0_take_4 post b (nI m) 1 (tkO x b (nI m) N).1 (tkO x b (nI m) N).2 (nI N)
    rw [u_X0_take_4, e6]
    exact ⟨fun _ => h, fun c => absurd (le_self _) c⟩
  · show u_X0_take_4 post b (nI m) (k + 1) (tkO x b (nI m) i).1 (tkO x b (nI m) i).2 (nI i)
    have hk : u_X0_take_4 post b (nI m) k (tkO x b (nI m) (i + 1)).1 (tkO x b (nI m) (i + 1)).2 (nI (i + 1)) := hk
    obtain ⟨t, h1, h2, h3⟩ := tkO_s (a := nI m) hs hx hb i
    have e2 := tkO_2 (x := x) (b := b) hm i
    unfold tkO at hk
    have hle : m / 3 ^ i ≤ 728 := Nat.le_trans (Nat.div_le_self _ _) hm
    have d := dv3 _ hle
    generalize tkO x b (nI m) i = y at hk h3 e2 ⊢
    rw [e2, d.2, nI_clamp (show m / 3 ^ i % 3 < 2 ^ 31 by omega)] at hk
    rw [u_X0_take_4, e2, d.2, nI_clamp (show i < 2 ^ 31 by omega), e6]
    refine ⟨fun c => absurd c (nI_ge hi (by omega)), fun _ => ⟨vp_in_nI (by omega) (by decide), law_tk26 (s := t) (r := m / 3 ^ i % 3) hb (by omega) h2 (by rw [up2_ne (by omega)]; exact h3) (by omega) up2_same hk⟩⟩
/-! what a new band changes -/
def bdPl (b k j : Nat) : Prop := (k = 55 + b ∧ j = 2) ∨ k = 61 + b ∨ k = 67 + b
theorem tkI_k {x : MS} {b k : Nat} {k' j' : Nat} (h : ¬ bdPl b k' j') : ∀ n, tkI x b k n k' j' = x k' j'
  | 0 => rfl
  | n + 1 => by
    have ih := tkI_k (x := x) (k := k) h n
    unfold bdPl at h
    unfold tkI
    split
    · exact ih
    · rw [up2_at (by omega), up2_at (by omega)]
      exact ih
theorem tkO_k {x : MS} {b : Nat} {a : Int32} {k' j' : Nat} (h : ¬ bdPl b k' j') : ∀ n, (tkO x b a n).1 k' j' = x k' j'
  | 0 => rfl
  | n + 1 => by
    have ih := tkO_k (x := x) (a := a) h n
    show tkI (up2 (tkO x b a n).1 (61 + b) n ((tkO x b a n).2 - (tkO x b a n).2 / 3 * 3)) b n ((tkO x b a n).2 - (tkO x b a n).2 / 3 * 3).toNatClampNeg k' j' = _
    rw [tkI_k h]
    unfold bdPl at h
    rw [up2_at (by omega)]
    exact ih
theorem tkI_p {x : MS} {b k j : Nat} {Q : Nat → Prop} (hQ : Q k) (h : ∃ q, Q q ∧ x (67 + b) j = nI q) : ∀ n, ∃ q, Q q ∧ tkI x b k n (67 + b) j = nI q
  | 0 => h
  | n + 1 => by
    have ih := tkI_p (k := k) hQ h n
    unfold tkI
    split
    · exact ih
    · by_cases e : j = (tkI x b k n (55 + b) 2).toNatClampNeg
      · refine ⟨k, hQ, ?_⟩
        rw [up2_at (by omega), e, up2_same]
      · rw [up2_at (by omega), up2_at (by omega)]
        exact ih
theorem tkO_p {x : MS} {b j : Nat} {a : Int32} (h : ∃ q, q < 6 ∧ x (67 + b) j = nI q) : ∀ n, n ≤ 6 → ∃ q, q < 6 ∧ (tkO x b a n).1 (67 + b) j = nI q
  | 0, _ => h
  | n + 1, hn => by
    have ih := tkO_p (a := a) h n (by omega)
    refine tkI_p (Q := fun q => q < 6) (show n < 6 by omega) ?_ _
    rw [up2_at (by omega)]
    exact ih
def bandS (σ : MS) (B m : Nat) : MS := up2 (tkO σ B (nI m) 6).1 0 7 (nI (B + 1))
theorem Ok.band1 {σ : MS} {P B W T m : Nat} (O : Ok σ P B W T) (hB : B < 6) : Ok (bandS σ B m) P (B + 1) W T := by
  unfold bandS
  obtain ⟨s0, hs0, es0⟩ := O.size B hB
  refine ⟨?_, O.hP, ?_, by omega, ?_, O.hW, ?_, O.hT, fun p hp => ?_, fun w hw => ?_, fun w hw => ?_, fun w hw => ?_, fun b hb => ?_, fun b j hb hj => ?_⟩
  · rw [up2_at (by omega), tkO_k (by unfold bdPl; omega)]; exact O.h6
  · rw [up2_same]
  · rw [up2_at (by omega), tkO_k (by unfold bdPl; omega)]; exact O.h8
  · rw [up2_at (by omega), tkO_k (by unfold bdPl; omega)]; exact O.h9
  · rw [up2_ne (by omega), tkO_k (by unfold bdPl; omega)]; exact O.home p hp
  · rw [up2_ne (by omega), tkO_k (by unfold bdPl; omega)]; exact O.band w hw
  · rw [up2_ne (by omega), tkO_k (by unfold bdPl; omega)]; exact O.day w hw
  · rw [up2_ne (by omega), tkO_k (by unfold bdPl; omega)]; exact O.town w hw
  · rw [up2_ne (by omega)]
    by_cases e : b = B
    · subst e
      obtain ⟨t, _, h2, h3⟩ := tkO_s (a := nI m) hs0 es0 hB 6
      exact ⟨t, h2, h3⟩
    · rw [tkO_k (by unfold bdPl; omega)]; exact O.size b hb
  · rw [up2_ne (by omega)]
    by_cases e : b = B
    · subst e
      exact tkO_p (O.place b j hb hj) 6 (by decide)
    · rw [tkO_k (by unfold bdPl; omega)]; exact O.place b j hb hj
theorem law_T_band {post : Int32 → MS → Prop} {pex : String → MS → Prop} {σ : MS} {P B W T : Nat} {a : Int32} (O : Ok σ P B W T)
    (hx : (∀ m, 1 ≤ m → m ≤ 728 → a = nI m → ¬ (szI (nI m) 6).1 ≤ 5) → pex xIA σ)
    (hs : ∀ m, 1 ≤ m → m ≤ 728 → a = nI m → (szI (nI m) 6).1 ≤ 5 → 6 ≤ B → pex xIS σ)
    (h : ∀ m, 1 ≤ m → m ≤ 728 → a = nI m → (szI (nI m) 6).1 ≤ 5 → B < 6 → post (nI B) (bandS σ B m)) : w_T_X7_band post pex σ a := by
  have hB := O.hB
  unfold w_T_X7_band u_T_X7_band_20
  refine ⟨fun c => hx fun m m1 m2 e => ?_, fun c => ⟨fun d => hx fun m m1 m2 e => ?_, fun d => law_sizeOf ⟨fun e => ?_, fun e => hx fun m m1 m2 f => ?_⟩⟩⟩
  · subst e
    have : nI m < nI 1 := c
    rw [nI_ltI (by omega) (by decide)] at this
    omega
  · subst e
    have : nI 728 < nI m := d
    rw [nI_ltI (by omega) (by omega)] at this
    omega
  · have h0 : ¬ a < 0 := fun z => c (by
      have h1 : (0 : Int32) < 1 := by decide
      exact Int32.lt_trans z h1)
    obtain ⟨m, hm, rfl⟩ := nI_of h0
    have d1 : 1 ≤ m := Nat.le_of_not_lt fun z => c (show nI m < nI 1 from (nI_ltI hm (by decide)).mpr z)
    have d2 : m ≤ 728 := Nat.le_of_not_lt fun z => d (show nI 728 < nI m from (nI_ltI (by decide) hm).mpr z)
    have h := h m d1 d2 rfl e
    have hs := hs m d1 d2 rfl e
    rw [O.h7]
    refine ⟨fun f => ?_, fun f => hs (Nat.le_of_not_lt fun z => f (show nI B < nI 6 from nI_lt z (by decide)))⟩
    have f2 : B < 6 := (nI_ltI (by omega) (by decide)).mp (show nI B < nI 6 from f)
    have h := h f2
    obtain ⟨s0, hs0, es0⟩ := O.size B f2
    rw [nI_clamp (show B < 2 ^ 31 by omega)]
    refine ⟨vp_in_nI f2 (by decide), law_take (s := s0) f2 d2 hs0 es0 ?_⟩
    rw [up2_same, tkO_k (by unfold bdPl; omega), O.h7, nI_1, nI_pred]
    exact h
  · subst f
    exact e
