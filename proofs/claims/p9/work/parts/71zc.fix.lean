/-! FIXING, CANCELLING, RUNNING LATE, ON BOTH SIDES -/
/-- fixed with the players s -/
def fxN (x : MS) (w P : Nat) (s : Int32) : MS := up2 (up2 (up2 (up2 (up2 x (73 + w) 7 1) (73 + w) 8 s) (73 + w) 9 (priceI (costsF x s w P))) (73 + w) 11 (priceI (costsF x s w P) / 5)) 0 10 (x 0 10 + priceI (costsF x s w P) / 5)
/-- the queue of w lost, of the first n -/
def lsF (y : MS) (w : Nat) : Nat → MS
  | 0 => y
  | i + 1 => if lsF y w i (73 + i) 7 = 0 ∧ lsF y w i (73 + i) 0 = lsF y w i (73 + w) 0 ∧ lsF y w i (73 + i) 1 = lsF y w i (73 + w) 1 then up2 (lsF y w i) (73 + i) 7 3 else lsF y w i
/-- what stays of the reference's own: what is thrown, the lists, what a method made -/
def kq (σ τ : MS) : Prop := τ 0 0 = σ 0 0 ∧ τ 3 = σ 3 ∧ ∀ k, 47 ≤ k → τ k = σ k
section FIXB
variable {x y : MS} {Γ : RG} {σ τ ρ : MS} {a a0 a1 a2 a3 a4 b : Int32} {w : Nat}
theorem kq.rf : kq σ σ := ⟨rfl, rfl, fun _ _ => rfl⟩
theorem kq.up {k j : Nat} {v : Int32} (h : kq σ τ) (hk : (7 ≤ k ∧ k < 47) ∨ (k = 0 ∧ j ≠ 0)) : kq σ (up2 τ k j v) :=
  ⟨(up2_off (by omega)).trans h.1, (up2_ne (by omega)).trans h.2.1, fun k' hk' => (up2_ne (by omega)).trans (h.2.2 k' hk')⟩
theorem kq.tr (h : kq σ τ) (g : kq τ ρ) : kq σ ρ := ⟨g.1.trans h.1, g.2.1.trans h.2.1, fun k hk => (g.2.2 k hk).trans (h.2.2 k hk)⟩
theorem sx_isWedding {post : Int32 → MS → Prop} {Tm : MS} (O : rOk Tm Γ σ) (h0 : (∀ p, p < Γ.2.2.1 → a ≠ nI p) → post 0 σ) (h1 : ∀ p r, p < Γ.2.2.1 → a = nI p → ¬ r = 0 → post r σ) : w_X11_isWedding Γ post σ a := by
  refine law_X11_isWedding ?_
  rw [O.w]
  by_cases c : rIsF a 0 (nI Γ.2.2.1 - 1) = 0
  · rw [c]; exact h0 (rIs_no (by have := O.hW; omega) c)
  · obtain ⟨p, hp, e⟩ := rIs_idx (by have := O.hW; omega) c
    exact h1 p _ hp e c
theorem sx_isBand {post : Int32 → MS → Prop} {Tm : MS} (O : rOk Tm Γ σ) (h0 : (∀ p, p < Γ.2.1 → a ≠ nI p) → post 0 σ) (h1 : ∀ p r, p < Γ.2.1 → a = nI p → ¬ r = 0 → post r σ) : w_X11_isBand Γ post σ a := by
  refine law_X11_isBand ?_
  rw [O.b]
  by_cases c : rIsF a 0 (nI Γ.2.1 - 1) = 0
  · rw [c]; exact h0 (rIs_no (by have := O.hB; omega) c)
  · obtain ⟨p, hp, e⟩ := rIs_idx (by have := O.hB; omega) c
    exact h1 p _ hp e c
theorem sx_isDay {post : Int32 → MS → Prop} {T : Nat} (e : σ 0 1 = nI T) (hT : T ≤ 365) (h0 : (∀ d, T ≤ d → d ≤ 365 → a ≠ nI d) → post 0 σ) (h1 : ∀ d r, T ≤ d → d ≤ 365 → a = nI d → ¬ r = 0 → post r σ) : w_X11_isDay Γ post σ a := by
  refine law_X11_isDay ?_
  rw [e]
  by_cases c : rIsF a (nI T) 365 = 0
  · rw [c]; exact h0 (rIs_nor (lo := T) (hi := 365) (by decide) c)
  · obtain ⟨p, h2, h3, e⟩ := rIs_rg (lo := T) (hi := 365) (by decide) c (by omega)
    exact h1 p _ h2 h3 e c
theorem costF_cg {p : Nat} (hp : p < 10) (hh : ∃ t, t < 6 ∧ x (29 + p) 2 = nI t) (h1 : ∀ k j, 15 ≤ k → k < 73 → y k j = x k j) (h2 : ∀ j, j < 7 → y (73 + w) j = x (73 + w) j) : costF y p w = costF x p w := by
  obtain ⟨t, ht, e⟩ := hh
  unfold costF wayF
  rw [h1 (29 + p) 2 (by omega) (by omega), h1 (29 + p) 3 (by omega) (by omega), h2 2 (by decide), h2 4 (by decide), e, nI_clamp (by omega), h1 (23 + t) _ (by omega) (by omega)]
theorem costsF_cg {n : Nat} {s : Int32} (hn : n ≤ 10) (hh : ∀ p, p < n → ∃ t, t < 6 ∧ x (29 + p) 2 = nI t) (h1 : ∀ k j, 15 ≤ k → k < 73 → y k j = x k j) (h2 : ∀ j, j < 7 → y (73 + w) j = x (73 + w) j) : costsF y s w n = costsF x s w n := by
  unfold costsF
  exact sumI_congr (fun p hp => by
    show (if bt s p = true then costF y p w else 0) = (if bt s p = true then costF x p w else 0)
    rw [costF_cg (by omega) (hh p hp) h1 h2])
theorem sy_fixNow {post : MS → Prop} (O : rOk (tR x) Γ σ) (Y : Sy x) (hw : w < Γ.2.2.1) (e : a1 = nI w) (h : ∀ τ, rOk (tR (fxN x w Γ.1 a2)) Γ τ → kq σ τ → post τ) : w_X11_fixNow Γ post σ a1 a2 := by
  have hW := O.hW
  have hP := O.hP
  unfold w_X11_fixNow
  refine sf_wget O hw e ⟨⟨by omega, hw⟩, ?_⟩
  have O2 := RX.wd (v := a2) (RX.wd (v := 1) O hw (by decide) (show 7 < 12 by decide)) hw (by decide) (show 8 < 12 by decide)
  have ec : costsF (up2 (up2 x (73 + w) 7 1) (73 + w) 8 a2) a2 w Γ.1 = costsF x a2 w Γ.1 := costsF_cg hP (fun p hp => O.xhome hp) (fun k j h1 h2 => by rw [up2_off (by omega), up2_off (by omega)]) (fun j hj => by rw [up2_off (by omega), up2_off (by omega)])
  have Y2 : Sy (up2 (up2 x (73 + w) 7 1) (73 + w) 8 a2) := fun a b ha hb => by
    rw [up2_off (by omega), up2_off (by omega), up2_off (by omega), up2_off (by omega)]
    exact Y a b ha hb
  refine sy_costOf O2 Y2 hw ?_
  rw [ec]
  unfold w_X11_priceOf
  intro y8 h8
  have e5 : (costsF x a2 w Γ.1 * 6 / 5 + 50 : Int32) = priceI (costsF x a2 w Γ.1) := rfl
  rw [e5] at h8 ⊢
  rw [up2_same] at h8 ⊢
  rw [up2_off (by omega), up2_off (by omega), up2_off (by omega), up2_off (by omega), up2_same, O.csh] at h8
  rw [h8]
  have O3 := RX.csh (v := x 0 10 + priceI (costsF x a2 w Γ.1) / 5) (RX.wd (v := priceI (costsF x a2 w Γ.1) / 5) (RX.wd (v := priceI (costsF x a2 w Γ.1)) O2 hw (by decide) (show 9 < 12 by decide)) hw (by decide) (show 11 < 12 by decide))
  exact h _ O3 (((((kq.rf.up (by omega)).up (by omega)).up (by omega)).up (by omega)).up (by omega))
theorem lsF_at {y : MS} {w : Nat} : ∀ n k j, lsF y w n k j = if 73 ≤ k ∧ k < 73 + n ∧ j = 7 ∧ y k 7 = 0 ∧ y k 0 = y (73 + w) 0 ∧ y k 1 = y (73 + w) 1 then 3 else y k j
  | 0, k, j => by rw [if_neg (by omega)]; rfl
  | n + 1, k, j => by
    have ih := fun k j => lsF_at (y := y) (w := w) n k j
    have e7 : lsF y w n (73 + n) 7 = y (73 + n) 7 := by rw [ih, if_neg (by omega)]
    have e0 : lsF y w n (73 + n) 0 = y (73 + n) 0 := by rw [ih, if_neg (by omega)]
    have e1 : lsF y w n (73 + n) 1 = y (73 + n) 1 := by rw [ih, if_neg (by omega)]
    have f0 : lsF y w n (73 + w) 0 = y (73 + w) 0 := by rw [ih, if_neg (by omega)]
    have f1 : lsF y w n (73 + w) 1 = y (73 + w) 1 := by rw [ih, if_neg (by omega)]
    unfold lsF
    rw [e7, e0, e1, f0, f1]
    by_cases c : y (73 + n) 7 = 0 ∧ y (73 + n) 0 = y (73 + w) 0 ∧ y (73 + n) 1 = y (73 + w) 1
    · rw [if_pos c]
      by_cases z : k = 73 + n ∧ j = 7
      · obtain ⟨rfl, rfl⟩ := z
        rw [up2_same, if_pos ⟨by omega, by omega, rfl, c⟩]
      · rw [up2_off z, ih]
        by_cases g : 73 ≤ k ∧ k < 73 + n ∧ j = 7 ∧ y k 7 = 0 ∧ y k 0 = y (73 + w) 0 ∧ y k 1 = y (73 + w) 1
        · rw [if_pos g, if_pos ⟨g.1, by omega, g.2.2⟩]
        · rw [if_neg g, if_neg (fun q => g ⟨q.1, by omega, q.2.2⟩)]
    · rw [if_neg c, ih]
      by_cases g : 73 ≤ k ∧ k < 73 + n ∧ j = 7 ∧ y k 7 = 0 ∧ y k 0 = y (73 + w) 0 ∧ y k 1 = y (73 + w) 1
      · rw [if_pos g, if_pos ⟨g.1, by omega, g.2.2⟩]
      · rw [if_neg g, if_neg (fun q => by
          by_cases z : k = 73 + n
          · subst z; exact c q.2.2.2
          · exact g ⟨q.1, by omega, q.2.2⟩)]
theorem sy_fix77 {post : Int32 → MS → Prop} (O : rOk (tR y) Γ τ) (hw : w < Γ.2.2.1) (hz : τ 0 0 = 0) (h : ∀ τ', rOk (tR (lsF y w Γ.2.2.1)) Γ τ' → τ' 0 0 = 0 → post (y (73 + w) 9) τ') : ∃ k, u_X11_fix_77 Γ post a1 k (rw0 τ 64 (itR (τ 3 0))) w := by
  have hW := O.hW
  refine inv_loop (fun k (q : MS) => u_X11_fix_77 Γ post a1 k q w) (fun j q => itI (tR (lsF y w j)) Γ j q ∧ q 0 0 = 0) Γ.2.2.1 (fun τ I => ?_) (fun j k τ hj I ih => ?_) 0 (by omega) _ ⟨itI.start O, by rw [rw0_ne (by decide)]; exact hz⟩
  · show u_X11_fix_77 Γ post a1 1 τ w
    unfold u_X11_fix_77
    refine ⟨fun _ => ?_, fun c => absurd I.1.fin c⟩
    rw [I.1.1.wd (j := 9) hw (by decide), lsF_at, if_neg (by omega)]
    exact h _ I.1.1 I.2
  · have In := I.1.next
    have z0 : up2 (up2 τ 64 0 (nI (j + 1))) 64 1 (nI j) 0 0 = 0 := by rw [up2_off (by omega), up2_off (by omega)]; exact I.2
    have nx : ∀ {τ'}, itI (tR (lsF y w (j + 1))) Γ (j + 1) τ' → τ' 0 0 = 0 → u_X11_fix_77 Γ post a1 k τ' w := fun I' z => ih _ ⟨I', z⟩
    have keep : ¬ (lsF y w j (73 + j) 7 = 0 ∧ lsF y w j (73 + j) 0 = lsF y w j (73 + w) 0 ∧ lsF y w j (73 + j) 1 = lsF y w j (73 + w) 1) → u_X11_fix_77 Γ post a1 k (up2 (up2 τ 64 0 (nI (j + 1))) 64 1 (nI j)) w := fun c => nx (by
      have : lsF y w (j + 1) = lsF y w j := if_neg c
      rw [this]
      exact In) z0
    show u_X11_fix_77 Γ post a1 (k + 1) τ w
    unfold u_X11_fix_77
    refine ⟨fun c => absurd c (I.1.go hj), fun _ => ⟨j, ⟨I.1.2.1, hj⟩, I.1.2.2, I.1.1.w, ?_⟩⟩
    rw [In.1.wd (j := 7) hj (by decide), In.1.wd (j := 0) hj (by decide), In.1.wd (j := 1) hj (by decide), In.1.wd (j := 0) hw (by decide), In.1.wd (j := 1) hw (by decide)]
    refine ⟨fun c1 => ⟨fun c2 => ⟨fun c3 => nx ?_ ((up2_off (by omega)).trans z0), fun c3 => keep (fun q => c3 q.2.2)⟩, fun c2 => keep (fun q => c2 q.2.1)⟩, fun c1 => keep (fun q => c1 q.1)⟩
    have : lsF y w (j + 1) = up2 (lsF y w j) (73 + j) 7 3 := if_pos ⟨c1, c2, c3⟩
    rw [this]
    exact ⟨RX.wd In.1 hj (by decide) (by decide), (up2_off (by omega)).trans In.2.1, (up2_off (by omega)).trans (In.2.2.trans (up2_off (by omega)).symm)⟩
theorem pq_0 (hw : w < 14) : pq x w = 0 ↔ isFst x w = true := by
  have hle := ahead_le x w
  unfold pq isFst
  rw [decide_eq_true_iff]
  by_cases c1 : x (73 + w) 7 = 0
  · rw [if_pos c1]
    constructor
    · intro h
      refine ⟨c1, ?_⟩
      exact (nI_eq (by omega) (by decide)).mp (h.trans nI_0.symm)
    · rintro ⟨_, h⟩
      rw [h]
      exact nI_0
  · rw [if_neg c1]
    exact ⟨fun h => absurd h (by decide), fun h => absurd h.1 c1⟩
/-- the survey's finds in a wedding as things are -/
theorem sn_9 {P W : Nat} (hP : P ≤ 10) : svOk x w P (freeF (stg x W) w W P) 0 (2 ^ P - 1) (survF x w P (freeF (stg x W) w W P) 0, (svAll x w P (freeF (stg x W) w W P) 0).2) ∧ ∀ j, j < 6 → snF x w P W 9 j = survF x w P (freeF (stg x W) w W P) 0 9 j :=
  ⟨surv_is hP, fun j hj => by unfold snF; exact survF_sc (Scr.stg x W) hP j hj⟩
theorem sn_0 {P W : Nat} (hP : P ≤ 10) : snF x w P W 9 0 = bR x w P (freeF (stg x W) w W P) 0 (2 ^ P - 1) := by
  obtain ⟨h, e⟩ := sn_9 (x := x) (w := w) (W := W) hP
  rw [e 0 (by decide)]
  exact h.1
theorem sn_3 {P W : Nat} (hP : P ≤ 10) : snF x w P W 9 3 = nI (cR x w P (freeF (stg x W) w W P) (2 ^ P - 1)) := by
  obtain ⟨h, e⟩ := sn_9 (x := x) (w := w) (W := W) hP
  rw [e 3 (by decide)]
  exact h.2.1
theorem sn_no {P W : Nat} (hP : P ≤ 10) : snF x w P W 9 3 = 0 ↔ bR x w P (freeF (stg x W) w W P) 0 (2 ^ P - 1) = -1 := by
  obtain ⟨p1, p2⟩ := pw1024 hP
  rw [sn_3 hP, bR_none _ (by omega), ← cR_none]
  have := cR_le (x := x) (w := w) (P := P) (free := freeF (stg x W) w W P) (2 ^ P - 1)
  constructor
  · intro h; exact (nI_eq (by omega) (by decide)).mp (h.trans nI_0.symm)
  · intro h; rw [h]; exact nI_0
theorem sn_1 {P W : Nat} (hP : P ≤ 10) : snF x w P W 9 1 = if bR x w P (freeF (stg x W) w W P) 0 (2 ^ P - 1) = -1 then -1 else costsF x (bR x w P (freeF (stg x W) w W P) 0 (2 ^ P - 1)) w P := by
  obtain ⟨h, e⟩ := sn_9 (x := x) (w := w) (W := W) hP
  rw [e 1 (by decide)]
  split
  · rename_i c; exact h.2.2.2.1 c
  · rename_i c; exact (h.2.2.1 c).1
theorem fix_one {P W : Nat} (hP : P ≤ 10) (hW : W ≤ 14) (hw : w < W) (h7 : x (73 + w) 7 = 0) (h11 : x (73 + w) 11 = 0) (hb : ¬ bR x w P (freeF (stg x W) w W P) 0 (2 ^ P - 1) = -1) : ∀ a b, seen a b → fixS x w P W a b = lsF (fxN x w P (bR x w P (freeF (stg x W) w W P) 0 (2 ^ P - 1))) w W a b := by
  have e0 := sn_0 (x := x) (w := w) (W := W) hP
  have e1 := sn_1 (x := x) (w := w) (W := W) hP
  rw [if_neg hb] at e1
  have hsc := Scr.sn x w P W
  unfold fixS
  (try dsimp only)
  rw [show loseQ (snF x w P W) w W 9 = snF x w P W 9 from loseQ_k (by decide), e0, e1]
  generalize bR x w P (freeF (stg x W) w W P) 0 (2 ^ P - 1) = bb
  have hz : ∀ a b, seen a b → loseQ (snF x w P W) w W a b = if 73 ≤ a ∧ a < 73 + W ∧ a ≠ 73 + w ∧ (x a 7 = 0 ∧ x a 0 = x (73 + w) 0 ∧ x a 1 = x (73 + w) 1) ∧ b = 7 then 3 else x a b := fun a b hs => by
    have hc : snF x w P W a b = x a b := by rw [hsc a (by unfold seen at hs; omega)]
    unfold loseQ
    rw [hc]
    by_cases g : 73 ≤ a
    · obtain ⟨v, rfl⟩ : ∃ v, a = 73 + v := ⟨a - 73, by omega⟩
      rw [show 73 + v - 73 = v by omega, inQ_sc hsc]
      have hq : inQ x v w = true ↔ (x (73 + v) 7 = 0 ∧ x (73 + v) 0 = x (73 + w) 0 ∧ x (73 + v) 1 = x (73 + w) 1) := by
        unfold inQ
        rw [decide_eq_true_iff]
        exact ⟨fun q => ⟨q.1, q.2.2.1, q.2.2.2⟩, fun q => ⟨q.1, h7, q.2.1, q.2.2⟩⟩
      by_cases c : 73 ≤ 73 + v ∧ 73 + v < 73 + W ∧ 73 + v ≠ 73 + w ∧ inQ x v w = true ∧ b = 7
      · rw [if_pos c, if_pos ⟨c.1, c.2.1, c.2.2.1, hq.mp c.2.2.2.1, c.2.2.2.2⟩]
      · rw [if_neg c, if_neg (fun q => c ⟨q.1, q.2.1, q.2.2.1, hq.mpr q.2.2.2.1, q.2.2.2.2⟩)]
    · rw [if_neg (fun q => g q.1), if_neg (fun q => g q.1)]
  intro a b hs
  have hy : ∀ k j, fxN x w P bb k j = if k = 0 ∧ j = 10 then x 0 10 + priceI (costsF x bb w P) / 5 else if k = 73 + w ∧ j = 11 then priceI (costsF x bb w P) / 5 else if k = 73 + w ∧ j = 9 then priceI (costsF x bb w P) else if k = 73 + w ∧ j = 8 then bb else if k = 73 + w ∧ j = 7 then 1 else x k j := fun k j => by
    unfold fxN
    by_cases q1 : k = 0 ∧ j = 10
    · obtain ⟨rfl, rfl⟩ := q1; rw [up2_same, if_pos ⟨rfl, rfl⟩]
    rw [up2_off q1, if_neg q1]
    by_cases q2 : k = 73 + w ∧ j = 11
    · obtain ⟨rfl, rfl⟩ := q2; rw [up2_same, if_pos ⟨rfl, rfl⟩]
    rw [up2_off q2, if_neg q2]
    by_cases q3 : k = 73 + w ∧ j = 9
    · obtain ⟨rfl, rfl⟩ := q3; rw [up2_same, if_pos ⟨rfl, rfl⟩]
    rw [up2_off q3, if_neg q3]
    by_cases q4 : k = 73 + w ∧ j = 8
    · obtain ⟨rfl, rfl⟩ := q4; rw [up2_same, if_pos ⟨rfl, rfl⟩]
    rw [up2_off q4, if_neg q4]
    by_cases q5 : k = 73 + w ∧ j = 7
    · obtain ⟨rfl, rfl⟩ := q5; rw [up2_same, if_pos ⟨rfl, rfl⟩]
    rw [up2_off q5, if_neg q5]
  rw [lsF_at]
  have y7 : ∀ v, v ≠ w → fxN x w P bb (73 + v) 7 = x (73 + v) 7 := fun v hv => by rw [hy, if_neg (by omega), if_neg (by omega), if_neg (by omega), if_neg (by omega), if_neg (by omega)]
  have y01 : ∀ v j, j < 7 → fxN x w P bb (73 + v) j = x (73 + v) j := fun v j hj => by rw [hy, if_neg (by omega), if_neg (by omega), if_neg (by omega), if_neg (by omega), if_neg (by omega)]
  have yw : fxN x w P bb (73 + w) 7 = 1 := by rw [hy, if_neg (by omega), if_neg (by omega), if_neg (by omega), if_neg (by omega), if_pos ⟨rfl, rfl⟩]
  have hcond : (73 ≤ a ∧ a < 73 + W ∧ b = 7 ∧ fxN x w P bb a 7 = 0 ∧ fxN x w P bb a 0 = fxN x w P bb (73 + w) 0 ∧ fxN x w P bb a 1 = fxN x w P bb (73 + w) 1) ↔ (73 ≤ a ∧ a < 73 + W ∧ a ≠ 73 + w ∧ (x a 7 = 0 ∧ x a 0 = x (73 + w) 0 ∧ x a 1 = x (73 + w) 1) ∧ b = 7) := by
    by_cases g : 73 ≤ a
    · obtain ⟨v, rfl⟩ : ∃ v, a = 73 + v := ⟨a - 73, by omega⟩
      rw [y01 v 0 (by decide), y01 v 1 (by decide), y01 w 0 (by decide), y01 w 1 (by decide)]
      by_cases e : v = w
      · subst e
        rw [yw]
        exact ⟨fun q => absurd q.2.2.2.1 (by decide), fun q => absurd rfl q.2.2.1⟩
      · rw [y7 v e]
        exact ⟨fun q => ⟨q.1, q.2.1, by omega, q.2.2.2, q.2.2.1⟩, fun q => ⟨q.1, q.2.1, q.2.2.2.2, q.2.2.2.1⟩⟩
    · exact ⟨fun q => absurd q.1 g, fun q => absurd q.1 g⟩
  have k10 : loseQ (snF x w P W) w W 0 10 = x 0 10 := by rw [hz 0 10 (by unfold seen; omega), if_neg (by omega)]
  have k11 : loseQ (snF x w P W) w W (73 + w) 11 = x (73 + w) 11 := by rw [hz (73 + w) 11 (by unfold seen; omega), if_neg (by omega)]
  have hab := hz a b hs
  generalize loseQ (snF x w P W) w W = z at k10 k11 hab
  unfold paidF
  rw [up2_off (σ := up2 (up2 z (73 + w) 7 1) (73 + w) 8 bb) (k' := 73 + w) (j' := 11) (by omega), up2_off (σ := up2 z (73 + w) 7 1) (k' := 73 + w) (j' := 11) (by omega), up2_off (σ := z) (k' := 73 + w) (j' := 11) (by omega), k11, h11, up2_off (σ := up2 (up2 z (73 + w) 7 1) (73 + w) 8 bb) (k' := 0) (j' := 10) (by omega), up2_off (σ := up2 z (73 + w) 7 1) (k' := 0) (j' := 10) (by omega), up2_off (σ := z) (k' := 0) (j' := 10) (by omega), k10, Int32.zero_add]
  by_cases q1 : a = 0 ∧ b = 10
  · obtain ⟨rfl, rfl⟩ := q1
    rw [up2_same, if_neg (by omega), hy, if_pos ⟨rfl, rfl⟩]
  rw [up2_off q1]
  by_cases q2 : a = 73 + w ∧ b = 11
  · obtain ⟨rfl, rfl⟩ := q2
    rw [up2_same, if_neg (by omega), hy, if_neg (by omega), if_pos ⟨rfl, rfl⟩]
  rw [up2_off q2]
  by_cases q3 : a = 73 + w ∧ b = 9
  · obtain ⟨rfl, rfl⟩ := q3
    rw [up2_same, if_neg (by omega), hy, if_neg (by omega), if_neg (by omega), if_pos ⟨rfl, rfl⟩]
  rw [up2_off q3]
  by_cases q4 : a = 73 + w ∧ b = 8
  · obtain ⟨rfl, rfl⟩ := q4
    rw [up2_same, if_neg (by omega), hy, if_neg (by omega), if_neg (by omega), if_neg (by omega), if_pos ⟨rfl, rfl⟩]
  rw [up2_off q4]
  by_cases q5 : a = 73 + w ∧ b = 7
  · obtain ⟨rfl, rfl⟩ := q5
    rw [up2_same, if_neg (fun q => (hcond.mp q).2.2.1 rfl), yw]
  have hfin : fxN x w P bb a b = x a b := by rw [hy, if_neg q1, if_neg q2, if_neg q3, if_neg q4, if_neg q5]
  rw [up2_off q5, hab]
  by_cases g : 73 ≤ a ∧ a < 73 + W ∧ a ≠ 73 + w ∧ (x a 7 = 0 ∧ x a 0 = x (73 + w) 0 ∧ x a 1 = x (73 + w) 1) ∧ b = 7
  · rw [if_pos g, if_pos (hcond.mpr g)]
  · rw [if_neg g, if_neg (fun q => g (hcond.mp q)), hfin]
theorem sy_fix {post : Int32 → MS → Prop} (O : rOk (tR x) Γ σ) (Y : Sy x) (S : Sh x Γ) (G : Gs x) (PA : ∀ w, w < 14 → x (73 + w) 7 = 0 → x (73 + w) 11 = 0)
    (h1 : (∀ w, w < Γ.2.2.1 → a1 ≠ nI w) → ∀ τ, rOk (tR x) Γ τ → τ 0 0 = 1 → post 0 τ)
    (h2 : ∀ w, w < Γ.2.2.1 → a1 = nI w → (isFst x w = false ∨ snF x w Γ.1 Γ.2.2.1 9 3 = 0) → ∀ τ, rOk (tR x) Γ τ → τ 0 0 = 2 → post 0 τ)
    (h3 : ∀ w, w < Γ.2.2.1 → a1 = nI w → isFst x w = true → ¬ snF x w Γ.1 Γ.2.2.1 9 3 = 0 → ∀ τ, rOk (tR (fixS x w Γ.1 Γ.2.2.1)) Γ τ → τ 0 0 = 0 → post (fixS x w Γ.1 Γ.2.2.1 (73 + w) 9) τ) : w_X11_fix Γ post σ a1 := by
  have hW := O.hW
  have hP := O.hP
  have O0 := O.up (k := 0) (j := 0) (v := 0) (by unfold rPr; omega)
  unfold w_X11_fix
  refine sx_isWedding O0 (fun no => ⟨fun _ => sx_refuse O0 (h1 no), fun c => absurd rfl c⟩) (fun w r hw e hr => ⟨fun c => absurd c hr, fun _ => ?_⟩)
  have h2 := h2 w hw e
  have h3 := h3 w hw e
  have hno := sn_no (x := x) (w := w) (W := Γ.2.2.1) hP
  refine sy_place O0 hw e ⟨fun c => sy_best O0 Y S G hw e ?_, fun c => ?_⟩
  · rw [and_all]
    have hf := (pq_0 (by omega)).mp c
    have f0 := (of_decide_eq_true hf).1
    unfold u_X11_fix_38
    refine ⟨fun d => sx_refuse O0 (h2 (Or.inr (hno.mpr d))), fun d => sy_fixNow O0 Y hw e (fun τ O1 k1 => sf_wget O1 hw e ⟨⟨by omega, hw⟩, sy_fix77 O1 hw (k1.1.trans up2_same) (fun τ' O2 z => ?_)⟩)⟩
    have hc := fix_one hP hW hw f0 (PA w (by omega) f0) d
    have e9 := hc (73 + w) 9 (by unfold seen; omega)
    rw [lsF_at, if_neg (by omega)] at e9
    have := h3 hf (fun z => d (hno.mp z)) τ' (RX.cg O2 hc) z
    rw [e9] at this
    exact this
  · have hf : isFst x w = false := Bool.eq_false_iff.mpr (fun z => c ((pq_0 (by omega)).mpr z))
    unfold u_X11_fix_38
    exact ⟨fun _ => sx_refuse O0 (h2 (Or.inl hf)), fun d => absurd rfl d⟩
theorem sy_cancel {post : Int32 → MS → Prop} (O : rOk (tR x) Γ σ) (PA : ∀ w, w < 14 → x (73 + w) 7 = 0 → x (73 + w) 11 = 0) (St : ∀ w, w < Γ.2.2.1 → ∃ n, n ≤ 3 ∧ x (73 + w) 7 = nI n)
    (h1 : (∀ w, w < Γ.2.2.1 → a1 ≠ nI w) → ∀ τ, rOk (tR x) Γ τ → τ 0 0 = 1 → post 0 τ)
    (h2 : ∀ w, w < Γ.2.2.1 → a1 = nI w → ¬ (x (73 + w) 7 = 0 ∨ x (73 + w) 7 = 1) → ∀ τ, rOk (tR x) Γ τ → τ 0 0 = 2 → post 0 τ)
    (h3 : ∀ w, w < Γ.2.2.1 → a1 = nI w → (x (73 + w) 7 = 0 ∨ x (73 + w) 7 = 1) → ∀ τ, rOk (tR (canS x w)) Γ τ → τ 0 0 = 0 → post (if x (73 + w) 7 = 1 then owedF x w else 0) τ) : w_X11_cancel Γ post σ a1 := by
  have hW := O.hW
  have O0 := O.up (k := 0) (j := 0) (v := 0) (by unfold rPr; omega)
  unfold w_X11_cancel
  refine sx_isWedding O0 (fun no => ⟨fun _ => sx_refuse O0 (h1 no), fun c => absurd rfl c⟩) (fun w r hw e hr => ⟨fun c => absurd c hr, fun _ => sf_wget O0 hw e ⟨⟨by omega, hw⟩, ?_⟩⟩)
  have h2 := h2 w hw e
  have h3 := h3 w hw e
  obtain ⟨n, hn, en⟩ := St w hw
  rw [O0.wd (j := 7) hw (by decide)]
  have hle : x (73 + w) 7 ≤ 1 ↔ (x (73 + w) 7 = 0 ∨ x (73 + w) 7 = 1) := by
    rw [en]
    have : ∀ n, n < 4 → (nI n ≤ 1 ↔ (nI n = 0 ∨ nI n = 1)) := by decide
    exact this n (by omega)
  refine ⟨fun c => ⟨fun c1 => sy_owed O0 hw ?_, fun c1 => ?_⟩, fun c => sx_refuse O0 (h2 (fun z => c (hle.mpr z)))⟩
  · have h3 := h3 (Or.inr c1)
    rw [if_pos c1] at h3
    unfold u_X11_cancel_62
    intro y9 h9
    rw [up2_off (by omega)] at h9
    rw [h9]
    refine h3 _ ?_ (by rw [up2_off (by omega), up2_off (by omega), up2_off (by omega), up2_same])
    rw [O0.wd (j := 11) hw (by decide), O0.csh]
    unfold canS paidF
    rw [if_pos c1]
    exact RX.wd (RX.csh (RX.wd O0 hw (by decide) (by decide))) hw (by decide) (by decide)
  · have c0 := ((hle.mp c).resolve_right c1)
    have h3 := h3 (Or.inl c0)
    rw [if_neg c1] at h3
    unfold u_X11_cancel_62
    intro y9 h9
    rw [up2_off (by omega)] at h9
    rw [h9]
    refine h3 _ ?_ (by rw [up2_off (by omega), up2_off (by omega), up2_off (by omega), up2_same])
    have p0 := PA w (by omega) c0
    rw [O0.wd (j := 11) hw (by decide), O0.csh, p0, show (if (0 : Int32) < 0 - 0 then (0 - 0 : Int32) else 0) = 0 by decide, Int32.add_zero, Int32.add_zero]
    refine RX.cg (RX.wd (v := 3) (RX.csh (v := x 0 10) (RX.wd (v := 0) O0 hw (by decide) (show 11 < 12 by decide))) hw (by decide) (show 7 < 12 by decide)) (fun a b hs => ?_)
    unfold canS
    rw [if_neg c1]
    by_cases q : a = 73 + w ∧ b = 7
    · obtain ⟨rfl, rfl⟩ := q; rw [up2_same, up2_same]
    rw [up2_off q, up2_off q]
    by_cases q1 : a = 0 ∧ b = 10
    · obtain ⟨rfl, rfl⟩ := q1; rw [up2_same]
    rw [up2_off q1]
    by_cases q2 : a = 73 + w ∧ b = 11
    · obtain ⟨rfl, rfl⟩ := q2; rw [up2_same, p0]
    rw [up2_off q2]
theorem sy_late {post : Int32 → MS → Prop} (O : rOk (tR x) Γ σ)
    (h1 : (∀ w, w < Γ.2.2.1 → a1 ≠ nI w) → ∀ τ, rOk (tR x) Γ τ → τ 0 0 = 1 → post 0 τ)
    (h2 : ∀ w, w < Γ.2.2.1 → a1 = nI w → ¬ (¬ a2 < 0 ∧ a2 ≤ 240) → ∀ τ, rOk (tR x) Γ τ → τ 0 0 = 2 → post 0 τ)
    (h4 : ∀ w, w < Γ.2.2.1 → a1 = nI w → (¬ a2 < 0 ∧ a2 ≤ 240) → ¬ x (73 + w) 7 = 1 → ∀ τ, rOk (tR x) Γ τ → τ 0 0 = 3 → post 0 τ)
    (h3 : ∀ w, w < Γ.2.2.1 → a1 = nI w → (¬ a2 < 0 ∧ a2 ≤ 240) → x (73 + w) 7 = 1 → ∀ τ, rOk (tR (up2 x (73 + w) 10 a2)) Γ τ → τ 0 0 = 0 → post (quF (up2 x (73 + w) 10 a2) w) τ) : w_X11_late Γ post σ a1 a2 := by
  have hW := O.hW
  have O0 := O.up (k := 0) (j := 0) (v := 0) (by unfold rPr; omega)
  unfold w_X11_late
  refine sx_isWedding O0 (fun no => ⟨fun _ => sx_refuse O0 (h1 no), fun c => absurd rfl c⟩) (fun w r hw e hr => ⟨fun c => absurd c hr, fun _ => law_X11_is ⟨fun c => sx_refuse O0 (h2 w hw e (fun z => ?_)), fun c => ?_⟩⟩)
  · rcases rIsF_0.mp c with q | q
    · exact z.1 q
    · exact absurd z.2 (Int32.not_le.mpr q)
  · have ok : ¬ a2 < 0 ∧ a2 ≤ 240 := ⟨fun q => c (rIsF_0.mpr (Or.inl q)), Int32.not_lt.mp (fun q => c (rIsF_0.mpr (Or.inr q)))⟩
    refine sf_wget O0 hw e ⟨⟨by omega, hw⟩, ?_⟩
    rw [O0.wd (j := 7) hw (by decide)]
    refine ⟨fun c1 => ?_, fun c1 => sx_refuse O0 (h4 w hw e ok c1)⟩
    have O1 := RX.wd (v := a2) O0 hw (by decide) (show 10 < 12 by decide)
    exact sy_quarters O1 hw (h3 w hw e ok c1 _ O1 (by rw [up2_off (by omega), up2_same]))
theorem sy_wouldCancel {post : Int32 → MS → Prop} (O : rOk (tR x) Γ σ) (Y : Sy x)
    (h1 : (∀ w, w < Γ.2.2.1 → a1 ≠ nI w) → ∀ τ, rOk (tR x) Γ τ → τ 0 0 = 1 → post 0 τ)
    (h2 : ∀ w, w < Γ.2.2.1 → a1 = nI w → ¬ x (73 + w) 7 = 1 → ∀ τ, rOk (tR x) Γ τ → τ 0 0 = 2 → post 0 τ)
    (h3 : ∀ w, w < Γ.2.2.1 → a1 = nI w → x (73 + w) 7 = 1 → ∀ τ, rOk (tR x) Γ τ → τ 0 0 = 0 → post (wcF x w Γ.1) τ) : w_X11_wouldCancel Γ post σ a1 := by
  have hW := O.hW
  have O0 := O.up (k := 0) (j := 0) (v := 0) (by unfold rPr; omega)
  unfold w_X11_wouldCancel
  refine sx_isWedding O0 (fun no => ⟨fun _ => sx_refuse O0 (h1 no), fun c => absurd rfl c⟩) (fun w r hw e hr => ⟨fun c => absurd c hr, fun _ => sf_wget O0 hw e ⟨⟨by omega, hw⟩, ?_⟩⟩)
  rw [O0.wd (j := 7) hw (by decide)]
  refine ⟨fun c1 => sy_owed O0 hw (sy_gain O0 Y hw ?_), fun c1 => sx_refuse O0 (h2 w hw e c1)⟩
  rw [O0.wd (j := 11) hw (by decide)]
  exact h3 w hw e c1 _ O0 up2_same
end FIXB
