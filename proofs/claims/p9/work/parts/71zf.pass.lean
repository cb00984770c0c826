/-! DAYS GO BY, ON BOTH SIDES -/
/-- a walk over the weddings, what may still be played is no less than what is fixed -/
def psJ (Tm : MS) (Γ : RG) (j : Nat) (τ : MS) : Prop := itI Tm Γ j τ ∧ cntF Γ τ ≤ gh τ ∧ gh τ ≤ 14 ∧ τ 0 0 = 0
/-- on what day weddings were asked for -/
def Td (x : MS) : Prop := ∀ w, w < 14 → ∃ t, t ≤ 365 ∧ x (73 + w) 6 = nI t
/-- what playing and losing leave -/
def pkc (k j : Nat) : Prop := ¬ (k = 0 ∧ (j = 9 ∨ j = 10)) ∧ ¬ (7 ≤ k ∧ k < 15) ∧ ¬ (29 ≤ k ∧ k < 39 ∧ 5 ≤ j ∧ j ≤ 7) ∧ ¬ (39 ≤ k ∧ k < 55 ∧ j = 3) ∧ ¬ (73 ≤ k ∧ (j = 7 ∨ j = 11))
def Pq (x y : MS) : Prop := ∀ k j, pkc k j → y k j = x k j
section PASSB
variable {x y z : MS} {Tm : MS} {Γ : RG} {σ τ ρ : MS} {a a0 a1 a2 a3 a4 b : Int32} {w P B W T : Nat}
theorem Pq.rf : Pq x x := fun _ _ _ => rfl
theorem Pq.tr (h : Pq x y) (g : Pq y z) : Pq x z := fun k j hk => (g k j hk).trans (h k j hk)
theorem Pq.up {k j : Nat} {v : Int32} (h : ¬ pkc k j) : Pq x (up2 x k j v) := fun k' j' hk => up2_off (fun z => h (by obtain ⟨rfl, rfl⟩ := z; exact hk))
theorem Pq.scr (h : Scr x y) : Pq x y := fun k j hk => by rw [h k (by unfold pkc at hk; omega)]
theorem Pq.py (w : Nat) : ∀ n, n ≤ 10 → Pq x (pyS x w n)
  | 0, _ => Pq.rf
  | n + 1, hn => by
    have ih := Pq.py w n (by omega)
    unfold pyS
    split
    · exact ih.tr ((((Pq.up (by unfold pkc; omega)).tr (Pq.up (by unfold pkc; omega))).tr (Pq.up (by unfold pkc; omega))).tr (Pq.up (by unfold pkc; omega)))
    · exact ih
theorem Pq.ply (hy : ∀ k, k < w → (y 11 k).toNatClampNeg < 16) : ∀ n, n ≤ w → Pq y (plyS y n)
  | 0, _ => Pq.rf
  | n + 1, hn => by
    have hr := hy n (by omega)
    exact (Pq.ply hy n (by omega)).tr (Pq.up (by unfold pkc; omega))
theorem Pq.out (hP : P ≤ 10) (hw : w < 14) : Pq x (outS x w P) := by
  obtain ⟨l, hl, e1, e2⟩ := cho_row (outX x w P) (playF (outX x w P) (outX x w P (73 + w) 8) P)
  have e1 : outY x w P 10 1 = nI l := e1
  have e2 : ∀ k, k < l → vp_in (outY x w P 11 k) 16 := e2
  unfold outS
  rw [e1, nI_clamp (by omega)]
  have h1 : Pq x (outX x w P) := by
    unfold outX
    exact ((Pq.up (by unfold pkc; omega)).tr (Pq.up (by unfold pkc; omega))).tr (Pq.py w P hP)
  have h2 : Pq (outX x w P) (outY x w P) := Pq.scr (Scr.set _ _ _)
  exact ((h1.tr h2).tr (Pq.ply (fun k hk => vlt (e2 k hk)) l (Nat.le_refl l))).tr (Pq.up (by unfold pkc; omega))
theorem pq_edA (hP : P ≤ 10) : ∀ n, n ≤ 14 → Pq x (edA x P n)
  | 0, _ => Pq.rf
  | n + 1, hn => by
    have ih := pq_edA hP n (by omega)
    unfold edA
    split
    · exact ih.tr (Pq.out hP (by omega))
    · exact ih
theorem pq_edB : ∀ n, Pq x (edB x n)
  | 0 => Pq.rf
  | n + 1 => by
    have ih := pq_edB n
    unfold edB
    split
    · exact ih.tr (Pq.up (by unfold pkc; omega))
    · exact ih
theorem pq_wait (n : Nat) : Pq x (waitL x n) := fun k j hk => if_neg (by unfold pkc at hk; omega)
theorem pq_day (hP : P ≤ 10) (hW : W ≤ 14) : Pq x (dayS x P W) := (((pq_edA hP W hW).tr (pq_edB W)).tr (Pq.up (by unfold pkc; omega))).tr (pq_wait W)
theorem Sy.pq (h : Pq x y) (Y : Sy x) : Sy y := fun a b ha hb => by
  rw [h (23 + a) b (by unfold pkc; omega), h (23 + b) a (by unfold pkc; omega)]
  exact Y a b ha hb
theorem enV.pq (h : Pq x y) (F : enV x) : enV y := fun s hs => by
  rw [h (39 + s) 1 (by unfold pkc; omega)]
  exact F s hs
theorem Td.pq (h : Pq x y) (D : Td x) : Td y := fun w hw => by
  rw [h (73 + w) 6 (by unfold pkc; omega)]
  exact D w hw
theorem hom_pq (h : Pq x y) (H : ∀ p, p < 10 → ∃ t, t < 6 ∧ x (29 + p) 2 = nI t) : ∀ p, p < 10 → ∃ t, t < 6 ∧ y (29 + p) 2 = nI t := fun p hp => by
  rw [h (29 + p) 2 (by unfold pkc; omega)]
  exact H p hp
theorem edA_9 (hP : P ≤ 10) : ∀ n, n ≤ 14 → edA x P n 0 9 = x 0 9
  | 0, _ => rfl
  | n + 1, hn => by
    have ih := edA_9 hP n (by omega)
    unfold edA
    split
    · rw [← ih]
      generalize edA x P n = u
      obtain ⟨l, hl, e1, e2⟩ := cho_row (outX u n P) (playF (outX u n P) (outX u n P (73 + n) 8) P)
      have e1 : outY u n P 10 1 = nI l := e1
      have hsc : outY u n P 0 = outX u n P 0 := Scr.set _ _ _ 0 (by omega)
      unfold outS
      rw [up2_off (by omega), plyS_k (by decide), hsc]
      have key : ∀ v m, m ≤ 10 → pyS v n m 0 9 = v 0 9 := by
        intro v m
        induction m with
        | zero => intro _; rfl
        | succ m ihm =>
          intro hm
          unfold pyS
          split
          · unfold wgS
            rw [up2_off (by omega), up2_off (by omega), up2_off (by omega), up2_off (by omega)]
            exact ihm (by omega)
          · exact ihm (by omega)
      unfold outX
      rw [key _ P hP]
      unfold paidF
      rw [up2_off (by omega), up2_off (by omega)]
    · exact ih
theorem edB_9 : ∀ n, edB x n 0 9 = x 0 9
  | 0 => rfl
  | n + 1 => by
    have ih := edB_9 n
    unfold edB
    split
    · rw [up2_off (by omega)]; exact ih
    · exact ih
theorem psJ.start (O : rOk Tm Γ τ) (h1 : cntF Γ τ ≤ gh τ) (h2 : gh τ ≤ 14) (hz : τ 0 0 = 0) : psJ Tm Γ 0 (rw0 τ 64 (itR (τ 3 0))) := by
  have hW := O.hW
  have eg : gh (rw0 τ 64 (itR (τ 3 0))) = gh τ := gh_rw0 (by decide)
  refine ⟨itI.start O, ?_, by rw [eg]; exact h2, by rw [rw0_ne (by decide)]; exact hz⟩
  rw [eg]
  exact Nat.le_trans (cntF_le (fun w hw c => by rw [rw0_ne (by omega)] at c; exact c)) h1
theorem psJ.next {j : Nat} (h : psJ Tm Γ j τ) : psJ Tm Γ (j + 1) (up2 (up2 τ 64 0 (nI (j + 1))) 64 1 (nI j)) := by
  have hW := h.1.1.hW
  have eg : gh (up2 (up2 τ 64 0 (nI (j + 1))) 64 1 (nI j)) = gh τ := (gh_up (by decide)).trans (gh_up (by decide))
  refine ⟨h.1.next, ?_, by rw [eg]; exact h.2.2.1, by rw [up2_off (by omega), up2_off (by omega)]; exact h.2.2.2⟩
  rw [eg]
  exact Nat.le_trans (cntF_le (fun w hw c => by rw [up2_off (by omega), up2_off (by omega)] at c; exact c)) h.2.1
theorem psJ.end3 {j : Nat} (h : psJ (tR y) Γ j τ) (hw : w < Γ.2.2.1) : psJ (tR (up2 y (73 + w) 7 3)) Γ j (up2 τ (33 + w) 7 3) := by
  have hW := h.1.1.hW
  have eg : gh (up2 τ (33 + w) 7 3) = gh τ := gh_up (by omega)
  refine ⟨⟨RX.wd h.1.1 hw (by decide) (by decide), (up2_off (by omega)).trans h.1.2.1, by rw [up2_off (by omega), up2_off (by omega)]; exact h.1.2.2⟩, ?_, by rw [eg]; exact h.2.2.1, (up2_off (by omega)).trans h.2.2.2⟩
  rw [eg]
  refine Nat.le_trans (cntF_le (fun w' hw' c => ?_)) h.2.1
  by_cases z : w' = w
  · rw [z, up2_same] at c; exact absurd c (by decide)
  · rw [up2_off (by omega)] at c; exact c
theorem psJ.played {j : Nat} {σ' : MS} (h : psJ Tm Γ j τ) (hw : w < Γ.2.2.1) (e1 : τ (33 + w) 7 = 1) (O : rOk (tR z) Γ (up2 σ' (33 + w) 7 2)) (K : kp τ σ') : ∃ b, gh τ = b + 1 ∧ b < 1000 ∧ psJ (tR z) Γ j (up2 (mrg (up2 σ' (33 + w) 7 2) τ) 62 0 (nI b)) := by
  have hW := h.1.1.hW
  have hg := h.2.2.1
  have lo : ∀ k i, k < 62 → up2 (mrg (up2 σ' (33 + w) 7 2) τ) 62 0 (nI (gh τ - 1)) k i = up2 σ' (33 + w) 7 2 k i := fun k i hk => by rw [up2_off (by omega), mrg_lo (by omega)]
  have hi : ∀ i, up2 (mrg (up2 σ' (33 + w) 7 2) τ) 62 0 (nI (gh τ - 1)) 64 i = τ 64 i := fun i => by rw [up2_off (by omega), mrg_hi (by omega)]
  have c1 : cntF Γ (up2 (mrg (up2 σ' (33 + w) 7 2) τ) 62 0 (nI (gh τ - 1))) + 1 ≤ cntF Γ τ := by
    refine cnt_lt _ (fun w' hw' c => ?_) ⟨w, hw, ?_, e1⟩
    · rw [lo _ _ (by omega)] at c
      by_cases z : w' = w
      · rw [z, up2_same] at c; exact absurd c (by decide)
      · rw [up2_off (by omega), K _ _ (by unfold kPr; omega)] at c; exact c
    · rw [lo _ _ (by omega), up2_same]; decide
  have c2 := h.2.1
  have eg : gh (up2 (mrg (up2 σ' (33 + w) 7 2) τ) 62 0 (nI (gh τ - 1))) = gh τ - 1 := gh_set (by omega)
  refine ⟨gh τ - 1, by omega, by omega, ⟨⟨(O.mrg).up (by unfold rPr; omega), by rw [hi]; exact h.1.2.1, ?_⟩, by rw [eg]; omega, by rw [eg]; omega, ?_⟩⟩
  · rw [hi, lo _ _ (by omega), up2_off (by omega), K _ _ (by unfold kPr; omega)]; exact h.1.2.2
  · rw [lo _ _ (by omega), up2_off (by omega), K _ _ (by unfold kPr; omega)]; exact h.2.2.2
theorem told_c {t S : Nat} (ht : t ≤ 365) (hS : S ≤ 366) : (nI S - nI t < 5) ↔ (nI S < nI t + 5) := by
  have e1 : (nI S).toInt = S := nI_toInt (by omega)
  have e2 : (nI t).toInt = t := nI_toInt (n := t) (by omega)
  have e5 : (5 : Int32).toInt = 5 := by decide
  rw [Int32.lt_iff_toInt_lt, Int32.lt_iff_toInt_lt, Int32.toInt_sub, Int32.toInt_add, e1, e2, e5, bmod32, bmod32]
  omega
/-- pass: what it answers, what it leaves -/
theorem sy_pass {post : Int32 → MS → Prop} (Oc : Ok x Γ.1 B Γ.2.2.1 T) (O : rOk (tR x) Γ σ) (Y : Sy x) (F : enV x) (D : Td x)
    (hx1 : (∀ d, 1 ≤ d → d ≤ 60 → a1 ≠ nI d) → ∀ τ, rOk (tR x) Γ τ → τ 0 0 = 1 → post 0 τ)
    (hx2 : ∀ d, 1 ≤ d → d ≤ 60 → a1 = nI d → 365 < T + d → ∀ τ, rOk (tR x) Γ τ → τ 0 0 = 2 → post 0 τ)
    (h : ∀ d, 1 ≤ d → d ≤ 60 → a1 = nI d → T + d ≤ 365 → ∀ τ, rOk (tR (psS x Γ.1 Γ.2.2.1 d)) Γ τ → τ 0 0 = 0 → post (nI (T + d)) τ) : w_X11_pass Γ post σ a1 := by
  have hW := O.hW
  have hP := O.hP
  have hh : ∀ p, p < 10 → ∃ t, t < 6 ∧ x (29 + p) 2 = nI t := fun p hp => Oc.hom hp
  have d179 : ∀ (K41 : MS → Int32 → Prop) v2 (g : MS) S, S ≤ 365 → g 0 9 = nI S → Td g → (∀ τ, rOk (tR (waitL g Γ.2.2.1)) Γ τ → cntF Γ τ ≤ gh τ → gh τ ≤ 14 → τ 0 0 = 0 → K41 τ (v2 + 1)) → ∀ τ, psJ (tR g) Γ 0 τ → ∃ k, u_X11_pass_179 Γ post a1 K41 k τ v2 := by
    intro K41 v2 g S hS eS Dg hK τ I
    refine inv_loop (fun k (q : MS) => u_X11_pass_179 Γ post a1 K41 k q v2) (fun j q => psJ (tR (waitL g j)) Γ j q) Γ.2.2.1 (fun τ I => ?_) (fun j k τ hj I ih => ?_) 0 (by omega) _ (by rw [waitL_0]; exact I)
    · show u_X11_pass_179 Γ post a1 K41 1 τ v2
      unfold u_X11_pass_179
      exact ⟨fun _ => hK _ I.1.1 I.2.1 I.2.2.1 I.2.2.2, fun c => absurd I.1.fin c⟩
    · have nx : ∀ {τ'}, psJ (tR (waitL g (j + 1))) Γ (j + 1) τ' → u_X11_pass_179 Γ post a1 K41 k τ' v2 := fun I' => ih _ I'
      rw [waitL_s] at nx
      have In := I.next
      have f7 : waitL g j (73 + j) 7 = g (73 + j) 7 := if_neg (by omega)
      have f6 : waitL g j (73 + j) 6 = g (73 + j) 6 := if_neg (by omega)
      have f9 : waitL g j 0 9 = g 0 9 := if_neg (by omega)
      obtain ⟨t, ht, et⟩ := Dg j (by omega)
      show u_X11_pass_179 Γ post a1 K41 (k + 1) τ v2
      unfold u_X11_pass_179
      refine ⟨fun c => absurd c (I.1.go hj), fun _ => ⟨j, ⟨I.1.2.1, hj⟩, I.1.2.2, I.1.1.w, ?_⟩⟩
      rw [In.1.1.wd (j := 7) hj (by decide), In.1.1.wd (j := 6) hj (by decide), In.1.1.tdy, f7, f6, f9, eS, et, told_c ht (by omega)]
      rw [eS, et] at nx
      refine ⟨fun c1 => ⟨fun c2 => nx ?_, fun c2 => nx ?_⟩, fun c1 => nx ?_⟩
      · rw [if_neg (fun q => q.2 c2)]; exact In
      · rw [if_pos ⟨c1, c2⟩]; exact In.end3 hj
      · rw [if_neg (fun q => c1 q.1)]; exact In
  have d112 : ∀ (K41 : MS → Int32 → Prop) v2 (g : MS) S, S + 1 ≤ 365 → g 0 9 = nI S → Td g → (∀ τ, rOk (tR (waitL (up2 (edB g Γ.2.2.1) 0 9 (edB g Γ.2.2.1 0 9 + 1)) Γ.2.2.1)) Γ τ → cntF Γ τ ≤ gh τ → gh τ ≤ 14 → τ 0 0 = 0 → K41 τ (v2 + 1)) → ∀ τ, psJ (tR g) Γ 0 τ → ∃ k, u_X11_pass_112 Γ post a1 K41 k τ v2 := by
    intro K41 v2 g S hS eS Dg hK τ I
    refine inv_loop (fun k (q : MS) => u_X11_pass_112 Γ post a1 K41 k q v2) (fun j q => psJ (tR (edB g j)) Γ j q) Γ.2.2.1 (fun τ I => ?_) (fun j k τ hj I ih => ?_) 0 (by omega) _ I
    · have e9 : edB g Γ.2.2.1 0 9 = nI S := (edB_9 _).trans eS
      have ec : τ 0 1 = nI S := I.1.1.tdy.trans e9
      rw [e9, nI_1] at hK
      show u_X11_pass_112 Γ post a1 K41 1 τ v2
      unfold u_X11_pass_112
      rw [ec, nI_1]
      refine ⟨fun _ => d179 K41 v2 (up2 (edB g Γ.2.2.1) 0 9 (nI (S + 1))) (S + 1) hS up2_same (fun w hw => by rw [up2_off (by omega), pq_edB Γ.2.2.1 (73 + w) 6 (by unfold pkc; omega)]; exact Dg w hw) hK _ (psJ.start (RX.tdy I.1.1 hS) ?_ ?_ (by rw [up2_off (by omega)]; exact I.2.2.2)), fun c => absurd I.1.fin c⟩
      · rw [gh_up (by decide)]
        exact Nat.le_trans (cntF_le (fun w hw c => by rw [up2_off (by omega)] at c; exact c)) I.2.1
      · rw [gh_up (by decide)]; exact I.2.2.1
    · have nx : ∀ {τ'}, psJ (tR (edB g (j + 1))) Γ (j + 1) τ' → u_X11_pass_112 Γ post a1 K41 k τ' v2 := fun I' => ih _ I'
      unfold edB at nx
      have In := I.next
      show u_X11_pass_112 Γ post a1 K41 (k + 1) τ v2
      unfold u_X11_pass_112
      refine ⟨fun c => absurd c (I.1.go hj), fun _ => ⟨j, ⟨I.1.2.1, hj⟩, I.1.2.2, I.1.1.w, ?_⟩⟩
      rw [In.1.1.wd (j := 7) hj (by decide), In.1.1.wd (j := 1) hj (by decide), In.1.1.tdy]
      refine ⟨fun c1 => ⟨fun c2 => nx ?_, fun c2 => nx ?_⟩, fun c1 => nx ?_⟩
      · rw [if_pos ⟨c2, c1⟩]; exact In.end3 hj
      · rw [if_neg (fun q => c2 q.1)]; exact In
      · rw [if_neg (fun q => c1 q.2)]; exact In
  have d54 : ∀ (K41 : MS → Int32 → Prop) v2 (g : MS) S, S + 1 ≤ 365 → g 0 9 = nI S → Td g → Sy g → enV g → (∀ p, p < 10 → ∃ t, t < 6 ∧ g (29 + p) 2 = nI t) → (∀ τ, rOk (tR (dayS g Γ.1 Γ.2.2.1)) Γ τ → cntF Γ τ ≤ gh τ → gh τ ≤ 14 → τ 0 0 = 0 → K41 τ (v2 + 1)) → ∀ τ, psJ (tR g) Γ 0 τ → ∃ k, u_X11_pass_54 Γ post a1 K41 k τ v2 := by
    intro K41 v2 g S hS eS Dg Yg Fg Hg hK τ I
    refine inv_loop (fun k (q : MS) => u_X11_pass_54 Γ post a1 K41 k q v2) (fun j q => psJ (tR (edA g Γ.1 j)) Γ j q) Γ.2.2.1 (fun τ I => ?_) (fun j k τ hj I ih => ?_) 0 (by omega) _ I
    · show u_X11_pass_54 Γ post a1 K41 1 τ v2
      unfold u_X11_pass_54
      have pA := pq_edA (x := g) hP Γ.2.2.1 hW
      exact ⟨fun _ => d112 K41 v2 (edA g Γ.1 Γ.2.2.1) S hS ((edA_9 hP Γ.2.2.1 hW).trans eS) (Dg.pq pA) hK _ (psJ.start I.1.1 I.2.1 I.2.2.1 I.2.2.2), fun c => absurd I.1.fin c⟩
    · have nx : ∀ {τ'}, psJ (tR (edA g Γ.1 (j + 1))) Γ (j + 1) τ' → u_X11_pass_54 Γ post a1 K41 k τ' v2 := fun I' => ih _ I'
      have pA := pq_edA (x := g) hP j (by omega)
      unfold edA at nx
      have In := I.next
      show u_X11_pass_54 Γ post a1 K41 (k + 1) τ v2
      unfold u_X11_pass_54
      refine ⟨fun c => absurd c (I.1.go hj), fun _ => ⟨j, ⟨I.1.2.1, hj⟩, I.1.2.2, I.1.1.w, ?_⟩⟩
      have e7 := In.1.1.wd (j := 7) hj (by decide)
      have e1 := In.1.1.wd (j := 1) hj (by decide)
      rw [e7, e1, In.1.1.tdy]
      refine ⟨fun c1 => ⟨fun c2 => ?_, fun c2 => nx ?_⟩, fun c1 => nx ?_⟩
      · rw [if_pos ⟨c2, c1⟩] at nx
        have c7 := e7.trans c1
        have O2 := RX.wd (v := 2) In.1.1 hj (by decide) (show 7 < 12 by decide)
        obtain ⟨b, hb, hb2, _⟩ := In.played hj c7 O2 kp.rfl'
        refine ⟨b, hb, hb2, sy_playNow In.1.1 (Yg.pq pA) (Fg.pq pA) (hom_pq pA Hg) hj (fun σ' O' K' => ?_)⟩
        obtain ⟨b', hb', -, I3⟩ := In.played hj c7 O' K'
        obtain rfl : b = b' := by omega
        exact nx I3
      · rw [if_neg (fun q => c2 q.1)]; exact In
      · rw [if_neg (fun q => c1 q.2)]; exact In
  unfold w_X11_pass
  have O := O.up (k := 0) (j := 0) (v := 0) (by unfold rPr; omega)
  have eT : up2 σ 0 0 0 0 1 = nI T := O.tdy.trans Oc.h9
  refine law_X11_is ⟨fun c => sx_refuse O (hx1 (fun d h1 h2 => rIs_nor (lo := 1) (hi := 60) (by decide) c d h1 h2)), fun c => ?_⟩
  obtain ⟨n, h1, h60, rfl⟩ := rIs_rg (lo := 1) (hi := 60) (by decide) c (by decide)
  have hT := Oc.hT
  rw [eT, nI_add]
  refine ⟨fun hd => ?_, fun hd => sx_refuse O (hx2 n h1 h60 rfl (by
    rcases Nat.lt_or_ge 365 (T + n) with d | d
    · exact d
    · exact absurd (nI_le0 d (by decide)) hd))⟩
  have hTn : T + n ≤ 365 := by
    rcases Nat.lt_or_ge 365 (T + n) with d | d
    · exact absurd hd (nI_ge d (by omega))
    · exact d
  have g0 : gh (up2 (up2 σ 0 0 0) 62 0 (nI 14)) = 14 := gh_set (by decide)
  have pD : ∀ j, Pq x (psS x Γ.1 Γ.2.2.1 j) := fun j => by
    induction j with
    | zero => exact Pq.rf
    | succ j ih => exact ih.tr (pq_day hP hW)
  have e9 : ∀ j, T + j ≤ 365 → psS x Γ.1 Γ.2.2.1 j 0 9 = nI (T + j) := fun j hj => by
    induction j with
    | zero => exact Oc.h9
    | succ j ih =>
      show dayS (psS x Γ.1 Γ.2.2.1 j) Γ.1 Γ.2.2.1 0 9 = _
      unfold dayS
      rw [show waitL (up2 (endS (psS x Γ.1 Γ.2.2.1 j) Γ.1 Γ.2.2.1) 0 9 (endS (psS x Γ.1 Γ.2.2.1 j) Γ.1 Γ.2.2.1 0 9 + 1)) Γ.2.2.1 0 9 = up2 (endS (psS x Γ.1 Γ.2.2.1 j) Γ.1 Γ.2.2.1) 0 9 (endS (psS x Γ.1 Γ.2.2.1 j) Γ.1 Γ.2.2.1 0 9 + 1) 0 9 from if_neg (by omega), up2_same]
      unfold endS
      rw [edB_9, edA_9 hP _ hW, ih (by omega), nI_1]
      rfl
  have := inv_loop_b (fun k (q : MS × Int32) => u_X11_pass_41 Γ post (nI n) k q.1 q.2) (fun j q => (rOk (tR (psS x Γ.1 Γ.2.2.1 j)) Γ q.1 ∧ cntF Γ q.1 ≤ gh q.1 ∧ gh q.1 ≤ 14 ∧ q.1 0 0 = 0) ∧ q.2 = nI j) n 61 (by omega) (by
    rintro ⟨τ, v⟩ ⟨⟨O, _, _, z⟩, rfl⟩
    have O : rOk (tR (psS x Γ.1 Γ.2.2.1 n)) Γ τ := O
    show u_X11_pass_41 Γ post (nI n) 1 τ (nI n)
    unfold u_X11_pass_41
    rw [O.tdy, e9 n hTn]
    exact ⟨fun _ => h n h1 h60 rfl hTn _ O z, fun c => absurd (le_self _) c⟩) (by
    rintro j k ⟨τ, v⟩ hj ⟨⟨O, g1, g2, z⟩, rfl⟩ ih
    have O : rOk (tR (psS x Γ.1 Γ.2.2.1 j)) Γ τ := O
    show u_X11_pass_41 Γ post (nI n) (k + 1) τ (nI j)
    unfold u_X11_pass_41
    refine ⟨fun c => absurd c (nI_ge hj (by omega)), fun _ => d54 _ (nI j) (psS x Γ.1 Γ.2.2.1 j) (T + j) (by omega) (e9 j (by omega)) (D.pq (pD j)) (Y.pq (pD j)) (F.pq (pD j)) (hom_pq (pD j) hh) (fun τ' O' h1 h2 z' => ?_) _ (psJ.start O g1 g2 z)⟩
    rw [nI_1]
    exact ih (τ', nI (j + 1)) ⟨⟨O', h1, h2, z'⟩, rfl⟩) (up2 (up2 σ 0 0 0) 62 0 (nI 14), 0) ⟨⟨O.up (k := 62) (j := 0) (v := nI 14) (by unfold rPr; omega), by show cntF Γ _ ≤ gh (up2 (up2 σ 0 0 0) 62 0 (nI 14)); rw [g0]; exact Nat.le_trans (cnt_le _) hW, by show gh (up2 (up2 σ 0 0 0) 62 0 (nI 14)) ≤ 14; rw [g0]; exact Nat.le_refl _, by show up2 (up2 σ 0 0 0) 62 0 (nI 14) 0 0 = 0; rw [up2_off (by omega), up2_same]⟩, nI_0.symm⟩
  exact this
end PASSB
