/-! WHAT STAYS OF BANDS AND OF DAYS ON WHICH WEDDINGS WERE ASKED FOR; THE REST OF WHAT ALWAYS HOLDS, AS DAYS GO BY -/
def sbC (k j : Nat) : Prop := (55 ≤ k ∧ k < 73) ∨ (73 ≤ k ∧ k < 87 ∧ j = 6)
def Sb (σ τ : MS) : Prop := ∀ k j, sbC k j → τ k j = σ k j
theorem Sb.rf (σ : MS) : Sb σ σ := fun _ _ _ => rfl
theorem Sb.tr {a b c : MS} (h : Sb a b) (g : Sb b c) : Sb a c := fun k j hk => (g k j hk).trans (h k j hk)
theorem Sb.up {σ : MS} {k j : Nat} {v : Int32} (h : ¬ sbC k j) : Sb σ (up2 σ k j v) := fun k' j' hk => up2_at (by
  by_cases e : k' = k
  · by_cases e2 : j' = j
    · subst e; subst e2; exact absurd hk h
    · exact Or.inr e2
  · exact Or.inl e)
theorem Sb.scr {σ τ : MS} (h : Scr σ τ) : Sb σ τ := fun k j hk => by rw [h k (by unfold sbC at hk; omega)]
theorem Sb.paid (σ : MS) (w : Nat) (a : Int32) : Sb σ (paidF σ w a) := (Sb.up (by unfold sbC; omega)).tr (Sb.up (by unfold sbC; omega))
theorem Sb.lose (σ : MS) (a n : Nat) : Sb σ (loseQ σ a n) := fun k j hk => if_neg (by unfold sbC at hk; omega)
theorem Sb.wait (σ : MS) (n : Nat) : Sb σ (waitL σ n) := fun k j hk => if_neg (by unfold sbC at hk; omega)
theorem Sb.fix (σ : MS) (w P W : Nat) : Sb σ (fixS σ w P W) := by
  unfold fixS
  (try dsimp only)
  exact (((((Sb.scr (Scr.sn σ w P W)).tr (Sb.lose _ w W)).tr (Sb.up (by unfold sbC; omega))).tr (Sb.up (by unfold sbC; omega))).tr (Sb.up (by unfold sbC; omega))).tr (Sb.paid _ _ _)
theorem Sb.can (σ : MS) (w : Nat) : Sb σ (canS σ w) := by
  unfold canS
  split
  · exact (Sb.paid _ _ _).tr (Sb.up (by unfold sbC; omega))
  · exact Sb.up (by unfold sbC; omega)
theorem Sb.put (σ : MS) (w : Nat) (s : Int32) : Sb σ (putF σ w s) := by
  unfold putF
  split
  · exact (Sb.up (by unfold sbC; omega)).tr (Sb.paid _ _ _)
  · exact Sb.up (by unfold sbC; omega)
theorem Sb.ill (σ : MS) (p : Nat) (day : Int32) : ∀ n, Sb σ (illS σ p day n)
  | 0 => Sb.rf σ
  | n + 1 => by
    have ih := Sb.ill σ p day n
    unfold illS
    split
    · exact ih.tr (Sb.put _ _ _)
    · exact ih
theorem Sb.off (σ : MS) (P W p d : Nat) : Sb σ (offS σ P W p d) := (Sb.scr (Scr.sw σ P W p (nI d) W)).tr (Sb.up (by unfold sbC; omega))
section KEEPB
variable {x y z σ τ : MS} {Γ : RG} {w P B W T : Nat}
theorem Sb.lay (x : MS) {i j : Nat} {h : Int32} (hi : i < 6) (hj : j < 6) : Sb x (layS x i j h) := fun k j' hk => congrFun (lay_k hi hj (by unfold sbC at hk; omega)) j'
theorem Sb.pq (h : Pq x y) : Sb x y := fun k j hk => h k j (by unfold sbC at hk; unfold pkc; omega)
theorem pq_psS (hP : P ≤ 10) (hW : W ≤ 14) : ∀ n, Pq x (psS x P W n)
  | 0 => Pq.rf
  | n + 1 => (pq_psS hP hW n).tr (pq_day hP hW)
theorem Sh.sb (h : Sb x y) (hB : Γ.2.1 ≤ 6) (S : Sh x Γ) : Sh y Γ := fun b hb => by
  obtain ⟨m, sz, h1, h2, h3, h4, h5, h6, h7, h8⟩ := S b hb
  refine ⟨m, sz, h1, h2, h3, h4, h5, by rw [h (55 + b) 2 (by unfold sbC; omega)]; exact h6, ?_, fun k hk => by rw [h (61 + b) k (by unfold sbC; omega)]; exact h8 k hk⟩
  rw [← h7]
  unfold plcs
  rw [show pl y b = pl x b from funext fun j => by unfold pl; rw [h (67 + b) j (by unfold sbC; omega)]]
theorem Td.sb (h : Sb x y) (D : Td x) : Td y := fun w hw => by
  rw [h (73 + w) 6 (by unfold sbC; omega)]
  exact D w hw
/-- what a wedding played leaves as the pay has it -/
theorem out_at {k j : Nat} (h1 : ¬ (7 ≤ k ∧ k < 15)) (h2 : ¬ (39 ≤ k ∧ k < 55 ∧ j = 3)) (h3 : ¬ (k = 73 + w ∧ j = 7)) : outS x w P k j = pyS (paidF x w ((x (73 + w) 9 - x (73 + w) 11) + extraF x w P)) w P k j := by
  obtain ⟨l, hl, e1, e2⟩ := cho_row (outX x w P) (playF (outX x w P) (outX x w P (73 + w) 8) P)
  have e1 : outY x w P 10 1 = nI l := e1
  have e2 : ∀ k, k < l → vp_in (outY x w P 11 k) 16 := e2
  have hsc : Scr (outX x w P) (outY x w P) := Scr.set _ _ _
  unfold outS
  rw [e1, nI_clamp (by omega), up2_off h3, (ply_facts e2 l (Nat.le_refl l)).1 k j h2, hsc k (by omega)]
  rfl
theorem EI.out (hP : P ≤ 10) (hW : W ≤ 14) (hw : w < W) (h7 : x (73 + w) 7 = 1) (hh : ∀ p, p < 10 → ∃ t, t < 6 ∧ x (29 + p) 2 = nI t) (pk : ∀ p, P ≤ p → bt (x (73 + w) 8) p = false) (H : EI x P B W) : EI (outS x w P) P B W := by
  obtain ⟨⟨s1, s2⟩, g, pd, pl, fp, ft, fo, fb⟩ := H
  have pq := Pq.out (x := x) (w := w) hP (by omega : w < 14)
  have o7 : outS x w P (73 + w) 7 = 2 := by
    unfold outS
    exact up2_same
  have hx : ∀ p, p < 10 → ∃ t, t < 6 ∧ paidF x w ((x (73 + w) 9 - x (73 + w) 11) + extraF x w P) (29 + p) 2 = nI t := fun p hp => by
    unfold paidF
    rw [up2_off (by omega), up2_off (by omega)]
    exact hh p hp
  obtain ⟨a1, -, a3⟩ := py_ex (x := paidF x w ((x (73 + w) 9 - x (73 + w) 11) + extraF x w P)) (w := w) hx P hP
  have ne : ∀ k j, ¬ (k = 0 ∧ j = 10) → ¬ (k = 73 + w ∧ j = 11) → paidF x w ((x (73 + w) 9 - x (73 + w) 11) + extraF x w P) k j = x k j := fun k j g1 g2 => by
    unfold paidF
    rw [up2_off g1, up2_off g2]
  -- weddings but w, and what isn't state or paid
  have v7 : ∀ v, v < 14 → v ≠ w → outS x w P (73 + v) 7 = x (73 + v) 7 := fun v hv hne => by
    rw [out_at (by omega) (by omega) (by omega), a1 _ _ (by omega) (by omega), ne _ _ (by omega) (by omega)]
  have v11 : ∀ v, v < 14 → v ≠ w → outS x w P (73 + v) 11 = x (73 + v) 11 := fun v hv hne => by
    rw [out_at (by omega) (by omega) (by omega), a1 _ _ (by omega) (by omega), ne _ _ (by omega) (by omega)]
  have pj : ∀ p j, P ≤ p → p < 10 → outS x w P (29 + p) j = x (29 + p) j := fun p j g1 g2 => by
    rw [out_at (by omega) (by omega) (by omega), a1 _ _ (by omega) (by omega), ne _ _ (by omega) (by omega)]
  have p67 : ∀ p, p < P → outS x w P (29 + p) 6 = x (29 + p) 6 + (if bt (x (73 + w) 8) p = true then 1 else 0) ∧ outS x w P (29 + p) 7 = x (29 + p) 7 + (if bt (x (73 + w) 8) p = true then x (73 + w) 4 else 0) := fun p hp => by
    obtain ⟨-, q6, q7⟩ := a3 p hp
    rw [out_at (by omega) (by omega) (by omega), out_at (by omega) (by omega) (by omega), q6, q7, ne (73 + w) 8 (by omega) (by omega), ne (73 + w) 4 (by omega) (by omega), ne (29 + p) 6 (by omega) (by omega), ne (29 + p) 7 (by omega) (by omega)]
    exact ⟨rfl, rfl⟩
  have o8 : ∀ v, outS x w P (73 + v) 8 = x (73 + v) 8 := fun v => pq _ _ (by unfold pkc; omega)
  have o4 : ∀ v, outS x w P (73 + v) 4 = x (73 + v) 4 := fun v => pq _ _ (by unfold pkc; omega)
  have k0 : ∀ p, plw x p w = false := fun p => by
    unfold plw
    rw [h7]
    rfl
  have k1 : ∀ p, plw (outS x w P) p w = bt (x (73 + w) 8) p := fun p => by
    unfold plw
    rw [o7, o8, decide_eq_true rfl, Bool.true_and]
  have kv : ∀ p v, v < 14 → v ≠ w → plw (outS x w P) p v = plw x p v := fun p v hv hne => by
    unfold plw
    rw [v7 v hv hne, o8]
  have cnt : ∀ p, fb_ct (plw (outS x w P) p) W = fb_ct (plw x p) W + (if bt (x (73 + w) 8) p = true then 1 else 0) := fun p => by
    have h := fb_ct_upd (plw x p) (bt (x (73 + w) 8) p) (i := w) (n := W) hw
    have e2 : fb_ct (plw (outS x w P) p) W = fb_ct (fun v => if v = w then bt (x (73 + w) 8) p else plw x p v) W := by
      refine fb_ct_cong (fun v hv => ?_)
      by_cases e : v = w
      · subst e
        rw [if_pos rfl]
        exact k1 p
      · rw [if_neg e]
        exact kv p v (by omega) e
    rw [e2]
    rw [k0 p] at h
    cases q : bt (x (73 + w) 8) p with
    | true => rw [q] at h; simpa using h
    | false => rw [q] at h; simpa using h
  have hrs : ∀ p, sumI (fun v => if plw (outS x w P) p v = true then outS x w P (73 + v) 4 else 0) W = sumI (fun v => if plw x p v = true then x (73 + v) 4 else 0) W + (if bt (x (73 + w) 8) p = true then x (73 + w) 4 else 0) := fun p => by
    have h := sumI_set (f := fun v => if plw x p v = true then x (73 + v) 4 else 0) (g := fun v => if plw (outS x w P) p v = true then outS x w P (73 + v) 4 else 0) (i := w) (n := W) (fun v hv hne => by
      show (if plw (outS x w P) p v = true then outS x w P (73 + v) 4 else 0) = (if plw x p v = true then x (73 + v) 4 else 0)
      rw [kv p v (by omega) hne, o4]) hw
    rw [h]
    show _ + ((if plw (outS x w P) p w = true then outS x w P (73 + w) 4 else 0) - (if plw x p w = true then x (73 + w) 4 else 0)) = _
    rw [k1, k0, o4, if_neg Bool.false_ne_true, Int32.sub_zero]
  refine ⟨⟨fun a b ha hb => ?_, fun a b ha hb => ?_⟩, fun v hv i hi => ?_, fun v hv => ?_, fun p hp => ?_, fun p g1 g2 => ?_, fun v g1 g2 => ?_, fun d hd p hp => ?_, fun b g1 g2 => ?_⟩
  · rw [pq (17 + a) b (by unfold pkc; omega), pq (17 + b) a (by unfold pkc; omega)]; exact s1 a b ha hb
  · rw [pq (23 + a) b (by unfold pkc; omega), pq (23 + b) a (by unfold pkc; omega)]; exact s2 a b ha hb
  · rw [pq (73 + v) 5 (by unfold pkc; omega)]; exact g v hv i hi
  · unfold PdA
    by_cases e : v = w
    · subst e
      rw [o7]
      exact ⟨fun z => absurd z (by decide), fun z => absurd z (by decide)⟩
    · rw [v7 v hv e, v11 v hv e, pq (73 + v) 9 (by unfold pkc; omega)]
      exact pd v hv
  · obtain ⟨l6, l7⟩ := pl p hp
    rw [cnt p, hrs p]
    by_cases c : p < P
    · obtain ⟨q6, q7⟩ := p67 p c
      rw [q6, q7, l6, l7]
      refine ⟨?_, rfl⟩
      cases q : bt (x (73 + w) 8) p with
      | true => rw [if_pos rfl, if_pos rfl, nI_1]
      | false => rw [if_neg Bool.false_ne_true, if_neg Bool.false_ne_true, Int32.add_zero]; rfl
    · rw [pj p 6 (by omega) hp, pj p 7 (by omega) hp, pk p (by omega), if_neg Bool.false_ne_true, if_neg Bool.false_ne_true, Int32.add_zero, Nat.add_zero]
      exact ⟨l6, l7⟩
  · rw [pj p 4 g1 g2, pj p 5 g1 g2, pj p 6 g1 g2, pj p 7 g1 g2]
    exact fp p g1 g2
  · rw [pq (73 + v) 10 (by unfold pkc; omega)]; exact ft v g1 g2
  · rw [pq 6 d (by unfold pkc; omega)]; exact fo d hd p hp
  · rw [pq (55 + b) 2 (by unfold pkc; omega)]; exact fb b g1 g2
theorem pk_bits {s : Nat} {v : Int32} (hs : s < 2 ^ P) (e : v = nI s) : ∀ p, P ≤ p → bt v p = false := fun p hp => by
  rw [e, bt_nI, Nat.testBit_lt_two_pow (Nat.lt_of_lt_of_le hs (Nat.pow_le_pow_right (by decide) hp)), Bool.and_false]
theorem Pk.bits (K : Pk x P) (hw : w < 14) : ∀ p, P ≤ p → bt (x (73 + w) 8) p = false := by
  obtain ⟨s, hs, e⟩ := nI_of (Int32.not_lt.mpr (K w hw).1)
  refine pk_bits (s := s) ?_ e
  rcases Nat.lt_or_ge s (2 ^ P) with d | d
  · exact d
  · exact absurd (nI_le0 d hs) (Int32.not_le.mpr (by rw [← e]; exact (K w hw).2))
theorem EI.dayA {T : Nat} (I : In0 x P B W T T (T + 1)) (H : EI x P B W) : ∀ n, n ≤ W → EI (edA x P n) P B W
  | 0, _ => H
  | n + 1, hn => by
    have ih := EI.dayA I H n (by omega)
    have I1 := (ed_A I n (by omega)).1
    have hP := I1.1.hP
    have hW := I1.1.hW
    unfold edA
    split
    · rename_i c
      exact ih.out hP hW (by omega) c.2 (fun p hp => I1.1.hom hp) (I1.2.1.bits (by omega))
    · exact ih
theorem EI.day {T : Nat} (I : Inv x P B W T) (H : EI x P B W) : EI (dayS x P W) P B W := by
  have H1 : In0 x P B W T T (T + 1) := ⟨I.2.2.1, I.2.2.2.1, I.2.2.2.2.1, I.2.2.2.2.2.1, fun w hw => (I.2.2.2.2.2.2.1 w hw).tp (by omega), I.2.2.2.2.2.2.2⟩
  have hW := I.2.2.1.hW
  have hA := EI.dayA H1 H W (Nat.le_refl W)
  have oA := (ed_A H1 W (Nat.le_refl W)).1.1
  unfold dayS endS
  generalize edA x P W = y at hA oA
  have hB := hA.lo hW (ed_B oA W (Nat.le_refl W)).1
  generalize edB y W = z at hB
  exact (hB.up hW (k := 0) (j := 9) (v := z 0 9 + 1) (by unfold eic; omega)).lo hW (waitL_lo (σ := up2 z 0 9 (z 0 9 + 1)) (W := W))
theorem EI.pass {T : Nat} (I : Inv x P B W T) (H : EI x P B W) : ∀ n, T + n ≤ 365 → EI (psS x P W n) P B W
  | 0, _ => H
  | n + 1, hn => (EI.pass I H n (by omega)).day (inv_pass I n (by omega)).1
end KEEPB
