/-! FILLINGS ON BOTH SIDES: what the class's survey finds is the best of all sets, their number, and why there is none -/
def svOk (x : MS) (w P : Nat) (free had : Int32) (n : Nat) (z : MS × Int32 × Int32) : Prop := z.1 9 0 = bR x w P free had n ∧ z.1 9 3 = nI (cR x w P free n) ∧ (¬ bR x w P free had n = -1 → z.1 9 1 = costsF x (bR x w P free had n) w P ∧ z.1 9 2 = bcI (bR x w P free had n &&& had)) ∧ (bR x w P free had n = -1 → z.1 9 1 = -1) ∧ z.1 9 4 = alR x w P free n ∧ z.2.1 = b01 (anS x w P free n) ∧ z.2.2 = b01 (anK x w P free n)
section SURV
variable {x : MS} {free had : Int32} {w P : Nat}
theorem addF_c {σ : MS} {s c k : Int32} : (addF σ s c k 9 0 = if σ 9 3 = 0 ∨ σ 9 2 < k ∨ (k = σ 9 2 ∧ ¬ σ 9 1 ≤ c) then s else σ 9 0) ∧ (addF σ s c k 9 1 = if σ 9 3 = 0 ∨ σ 9 2 < k ∨ (k = σ 9 2 ∧ ¬ σ 9 1 ≤ c) then c else σ 9 1) ∧ (addF σ s c k 9 2 = if σ 9 3 = 0 ∨ σ 9 2 < k ∨ (k = σ 9 2 ∧ ¬ σ 9 1 ≤ c) then k else σ 9 2) ∧ addF σ s c k 9 3 = σ 9 3 + 1 ∧ addF σ s c k 9 4 = σ 9 4 &&& s := by
  unfold addF
  (try dsimp only)
  by_cases h : σ 9 3 = 0 ∨ σ 9 2 < k ∨ (k = σ 9 2 ∧ ¬ σ 9 1 ≤ c)
  · simp only [if_pos h]
    refine ⟨?_, ?_, ?_, ?_, ?_⟩
    · rw [up2_at (by omega), up2_at (by omega), up2_at (by omega), up2_at (by omega), up2_same]
    · rw [up2_at (by omega), up2_at (by omega), up2_at (by omega), up2_same]
    · rw [up2_at (by omega), up2_at (by omega), up2_same]
    · rw [up2_at (by omega), up2_same, up2_at (by omega), up2_at (by omega), up2_at (by omega)]
    · rw [up2_same, up2_at (by omega), up2_at (by omega), up2_at (by omega), up2_at (by omega)]
  · simp only [if_neg h]
    refine ⟨?_, ?_, ?_, ?_, ?_⟩
    · rw [up2_at (by omega), up2_at (by omega)]
    · rw [up2_at (by omega), up2_at (by omega)]
    · rw [up2_at (by omega), up2_at (by omega)]
    · rw [up2_at (by omega), up2_same]
    · rw [up2_same, up2_at (by omega)]
theorem cmp10 : ∀ a, a < 11 → ∀ b, b < 11 → ((nI b < nI a ↔ 0 < nI a - nI b) ∧ (nI a = nI b ↔ nI a - nI b = 0)) := by decide +kernel
theorem bc_and {s : Nat} (hs : s < 1024) (had : Int32) : ∃ m, m < 11 ∧ bcI (nI s &&& had) = nI m := by
  obtain ⟨j, hj, e⟩ := and_small hs (by decide) had
  obtain ⟨m, hm, em⟩ := bc_tab j (by omega)
  exact ⟨m, by omega, by rw [e]; exact em⟩
theorem cR_le : ∀ n, cR x w P free n ≤ n
  | 0 => Nat.le_refl _
  | n + 1 => by
    have := cR_le n
    unfold cR
    split <;> omega
theorem sv_bR (hP : P ≤ 10) : ∀ n, n < 2 ^ P → svOk x w P free had n (sv (svIn x w P) P w (x (55 + bdOf x w) 2) free had n)
  | 0, _ => by
    have e9 : svIn x w P 9 = clearF x 9 := sat_9 _ _ _ _
    show svOk x w P free had 0 (svIn x w P, 0, 0)
    unfold svOk
    dsimp only
    rw [e9]
    unfold clearF
    refine ⟨?_, ?_, fun h => absurd rfl h, fun _ => ?_, ?_, rfl, rfl⟩
    · rw [up2_at (by omega), up2_at (by omega), up2_at (by omega), up2_at (by omega), up2_at (by omega), up2_same]; rfl
    · rw [up2_at (by omega), up2_at (by omega), up2_same]; rfl
    · rw [up2_at (by omega), up2_at (by omega), up2_at (by omega), up2_at (by omega), up2_same]
    · rw [up2_at (by omega), up2_same]; rfl
  | n + 1, hn => by
    have hp := (pw1024 hP).2
    have ih := sv_bR hP n (by omega)
    have h8 := sv_8 (svIn x w P) P w (x (55 + bdOf x w) 2) free had n
    have hs := (Scr.svIn x w P).tr (Scr.sv (svIn x w P) P w (x (55 + bdOf x w) 2) free had n)
    show svOk x w P free had (n + 1) (svS P w (x (55 + bdOf x w) 2) free had (n + 1) (sv (svIn x w P) P w (x (55 + bdOf x w) 2) free had n))
    generalize sv (svIn x w P) P w (x (55 + bdOf x w) 2) free had n = Z at ih h8 hs ⊢
    obtain ⟨i0, i3, i12, i1, i4, i5, i6⟩ := ih
    have nofil : ¬ (subB free (n + 1) = true ∧ filB x w P (n + 1) = true) → bR x w P free had (n + 1) = bR x w P free had n ∧ cR x w P free (n + 1) = cR x w P free n ∧ alR x w P free (n + 1) = alR x w P free n := fun z => ⟨if_neg (fun q => z ⟨q.1, q.2.1⟩), by show _ + (if _ then 1 else 0) = _; rw [if_neg z]; rfl, if_neg z⟩
    have same : ¬ (subB free (n + 1) = true ∧ filB x w P (n + 1) = true) → ∀ u v, u = b01 (anS x w P free (n + 1)) → v = b01 (anK x w P free (n + 1)) → svOk x w P free had (n + 1) (Z.1, u, v) := fun z u v hu hv => by
      obtain ⟨e1, e2, e3⟩ := nofil z
      unfold svOk
      rw [e1, e2, e3]
      exact ⟨i0, i3, i12, i1, i4, hu, hv⟩
    unfold svS
    rw [h8, hs.c73, playF_sc hs, feudB_sc hs, costsF_sc hs]
    have eS : anS x w P free (n + 1) = (anS x w P free n || (subB free (n + 1) && stB x w P (n + 1))) := rfl
    have eK : anK x w P free (n + 1) = (anK x w P free n || (subB free (n + 1) && (stB x w P (n + 1) && knB x w P (n + 1)))) := rfl
    have hC : (nI (n + 1) &&& (free ^^^ (-1)) = 0 ∧ ¬ svIn x w P 8 (n + 1) = 0 ∧ bcI (nI (n + 1)) = x (55 + bdOf x w) 2) ↔ (subB free (n + 1) = true ∧ stB x w P (n + 1) = true) := by
      unfold subB stB
      rw [decide_eq_true_iff, decide_eq_true_iff]
    by_cases c : subB free (n + 1) = true ∧ stB x w P (n + 1) = true
    · rw [if_pos (hC.mpr c)]
      have aS : anS x w P free (n + 1) = true := by
        unfold anS
        rw [c.1, c.2]
        exact Bool.or_true _
      by_cases d : knB x w P (n + 1) = true
      · rw [if_pos (of_decide_eq_true (show decide _ = true from d))]
        have aK : anK x w P free (n + 1) = true := by
          unfold anK
          rw [c.1, c.2, d]
          exact Bool.or_true _
        by_cases f : feudB x (nI (n + 1)) P = true
        · rw [if_pos f]
          exact same (fun z => by have := z.2; unfold filB at this; rw [f, Bool.not_true, Bool.and_false, Bool.and_false] at this; cases this) 1 1 (by rw [aS]; rfl) (by rw [aK]; rfl)
        · rw [if_neg f]
          have hf : filB x w P (n + 1) = true := by
            unfold filB
            rw [c.2, d, Bool.eq_false_iff.mpr f]
            rfl
          have hcond : (Z.1 9 3 = 0 ∨ Z.1 9 2 < bcI (nI (n + 1) &&& had) ∨ (bcI (nI (n + 1) &&& had) = Z.1 9 2 ∧ ¬ Z.1 9 1 ≤ costsF x (nI (n + 1)) w P)) ↔ (bR x w P free had n = -1 ∨ btr x w P had (nI (n + 1)) (bR x w P free had n) = true) := by
            by_cases e : bR x w P free had n = -1
            · have e0 := (cR_none (x := x) (w := w) (P := P) (free := free) n).mpr ((bR_none n (by omega)).mp e)
              exact ⟨fun _ => Or.inl e, fun _ => Or.inl (by rw [i3, e0]; rfl)⟩
            · obtain ⟨j1, j2⟩ := i12 e
              have hne : ¬ Z.1 9 3 = 0 := fun z => by
                rw [i3] at z
                have hl := cR_le (x := x) (w := w) (P := P) (free := free) n
                have : cR x w P free n = 0 := (nI_eq (by omega) (by decide)).mp (z.trans nI_0.symm)
                exact e ((bR_none n (by omega)).mpr ((cR_none n).mp this))
              obtain ⟨s', q1, q2, q3, -⟩ := (bR_rg (x := x) (w := w) (P := P) (free := free) (had := had) n (by omega)).resolve_left e
              obtain ⟨ka, ha, ea⟩ := bc_and (s := n + 1) (by omega) had
              obtain ⟨kb, hb, eb⟩ := bc_and (s := s') (by omega) had
              have cm := cmp10 ka ha kb hb
              unfold btr
              rw [decide_eq_true_iff, j1, j2, q3, ea, eb]
              constructor
              · rintro (h | h | ⟨h1, h2⟩)
                · exact absurd h hne
                · exact Or.inr (Or.inl (cm.1.mp h))
                · exact Or.inr (Or.inr ⟨cm.2.mp h1, h2⟩)
              · rintro (h | h | ⟨h1, h2⟩)
                · rw [q3] at e; exact absurd h e
                · exact Or.inr (Or.inl (cm.1.mpr h))
                · exact Or.inr (Or.inr ⟨cm.2.mpr h1, h2⟩)
          obtain ⟨a0, a1, a2, a3, a4⟩ := addF_c (σ := Z.1) (s := nI (n + 1)) (c := costsF x (nI (n + 1)) w P) (k := bcI (nI (n + 1) &&& had))
          have ec : cR x w P free (n + 1) = cR x w P free n + 1 := by
            show _ + (if _ then 1 else 0) = _
            rw [if_pos ⟨c.1, hf⟩]
          have ea : alR x w P free (n + 1) = alR x w P free n &&& nI (n + 1) := if_pos ⟨c.1, hf⟩
          have b3 : addF Z.1 (nI (n + 1)) (costsF x (nI (n + 1)) w P) (bcI (nI (n + 1) &&& had)) 9 3 = nI (cR x w P free (n + 1)) := by rw [a3, i3, ec, nI_1]
          have b4 : addF Z.1 (nI (n + 1)) (costsF x (nI (n + 1)) w P) (bcI (nI (n + 1) &&& had)) 9 4 = alR x w P free (n + 1) := by rw [a4, i4, ea]
          unfold svOk
          by_cases g : bR x w P free had n = -1 ∨ btr x w P had (nI (n + 1)) (bR x w P free had n) = true
          · have e1 : bR x w P free had (n + 1) = nI (n + 1) := if_pos ⟨c.1, hf, g⟩
            rw [if_pos (hcond.mpr g)] at a0 a1 a2
            exact ⟨a0.trans e1.symm, b3, fun _ => ⟨by rw [e1]; exact a1, by rw [e1]; exact a2⟩, fun z => absurd (e1.symm.trans z) (nI_nm1 (by omega)), b4, by rw [aS]; rfl, by rw [aK]; rfl⟩
          · have e1 : bR x w P free had (n + 1) = bR x w P free had n := if_neg (fun q => g q.2.2)
            rw [if_neg (fun q => g (hcond.mp q))] at a0 a1 a2
            exact ⟨a0.trans (i0.trans e1.symm), b3, fun z => by rw [e1] at z ⊢; exact ⟨a1.trans (i12 z).1, a2.trans (i12 z).2⟩, fun z => absurd (Or.inl (e1.symm.trans z)) g, b4, by rw [aS]; rfl, by rw [aK]; rfl⟩
      · rw [if_neg (fun z => d (decide_eq_true z))]
        refine same (fun z => by have := z.2; unfold filB at this; rw [Bool.eq_false_iff.mpr d, Bool.false_and, Bool.and_false] at this; cases this) 1 Z.2.2 (by rw [aS]; rfl) ?_
        rw [i6, eK, Bool.eq_false_iff.mpr d, Bool.and_false, Bool.and_false, Bool.or_false]
    · rw [if_neg (fun z => c (hC.mp z))]
      have hno : (subB free (n + 1) && stB x w P (n + 1)) = false := Bool.eq_false_iff.mpr (fun z => c (by rw [Bool.and_eq_true] at z; exact z))
      refine same (fun z => ?_) Z.2.1 Z.2.2 ?_ ?_
      · have := z.2
        unfold filB at this
        rw [Bool.and_eq_true] at this
        exact c ⟨z.1, this.1⟩
      · rw [i5, eS, hno, Bool.or_false]
      · rw [i6, eK, ← Bool.and_assoc, hno, Bool.false_and, Bool.or_false]
theorem anK_anS : ∀ n, anK x w P free n = true → anS x w P free n = true
  | 0, h => by cases h
  | n + 1, h => by
    unfold anK at h
    unfold anS
    rw [Bool.or_eq_true] at h ⊢
    rcases h with h | h
    · exact Or.inl (anK_anS n h)
    · refine Or.inr ?_
      rw [← Bool.and_assoc, Bool.and_eq_true] at h
      exact h.1
/-- what the survey finds -/
theorem surv_is (hP : P ≤ 10) : svOk x w P free had (2 ^ P - 1) (survF x w P free had, (svAll x w P free had).2) := by
  obtain ⟨p1, p2⟩ := pw1024 hP
  have h := sv_bR (x := x) (w := w) (free := free) (had := had) hP (2 ^ P - 1) (by omega)
  unfold survF svAll
  generalize sv (svIn x w P) P w (x (55 + bdOf x w) 2) free had (2 ^ P - 1) = Z at h ⊢
  unfold svOk at h ⊢
  dsimp only at h ⊢
  rw [up2_at (by omega), up2_at (by omega), up2_at (by omega), up2_at (by omega), up2_at (by omega)]
  exact h
theorem surv_why {F : Nat} (hP : P ≤ 10) (hF : F < 2 ^ P) : survF x w P (nI F) had 9 5 = whyR x w P (nI F) := by
  obtain ⟨p1, p2⟩ := pw1024 hP
  obtain ⟨-, h3, -, -, -, h5, h6⟩ := sv_bR (x := x) (w := w) (free := nI F) (had := had) hP (2 ^ P - 1) (by omega)
  have hl := cR_le (x := x) (w := w) (P := P) (free := nI F) (2 ^ P - 1)
  have hno := cR_none (x := x) (w := w) (P := P) (free := nI F) (2 ^ P - 1)
  have hKS := anK_anS (x := x) (w := w) (P := P) (free := nI F) (2 ^ P - 1)
  unfold survF svAll
  generalize sv (svIn x w P) P w (x (55 + bdOf x w) 2) (nI F) had (2 ^ P - 1) = Z at h3 h5 h6 ⊢
  rw [up2_same]
  unfold whyF whyR
  rw [h3, h5, h6]
  by_cases c : cR x w P (nI F) (2 ^ P - 1) = 0
  · rw [c, if_pos (show nI 0 ≤ 0 from le_self (nI 0)), if_pos rfl]
    by_cases d : x (55 + bdOf x w) 2 ≤ bcI (nI F)
    · rw [if_pos d, if_pos d]
      cases q1 : anS x w P (nI F) (2 ^ P - 1) with
      | false =>
        have q2 : anK x w P (nI F) (2 ^ P - 1) = false := Bool.eq_false_iff.mpr (fun z => by rw [hKS z] at q1; cases q1)
        rw [q2]
        rfl
      | true =>
        cases q2 : anK x w P (nI F) (2 ^ P - 1) <;> rfl
    · rw [if_neg d, if_neg d]
  · have hpos : ¬ nI (cR x w P (nI F) (2 ^ P - 1)) ≤ 0 := fun z => absurd (show nI _ ≤ nI 0 from z) (nI_ge (by omega) (by omega))
    rw [if_neg hpos, if_neg c]
    have hex : x (55 + bdOf x w) 2 ≤ bcI (nI F) := Decidable.byContradiction fun z => c (hno.mpr (fun s h1 h2 hh => z (by
      have hst := hh.2
      unfold filB at hst
      rw [Bool.and_eq_true] at hst
      have hb := (of_decide_eq_true (show decide _ = true from hst.1)).2
      rw [← hb]
      exact bc_mono (by omega) (by omega) hh.1)))
    rw [if_pos hex]
/-- who is in all fillings -/
theorem alR_bt {p : Nat} (hp : p < 32) : ∀ n, n < 1024 → (bt (alR x w P free n) p = true ↔ ∀ s, 1 ≤ s → s ≤ n → subB free s = true ∧ filB x w P s = true → bt (nI s) p = true)
  | 0, _ => ⟨fun _ s h1 h2 => by omega, fun _ => b_m1 p hp⟩
  | n + 1, hn => by
    have ih := alR_bt hp n (by omega)
    unfold alR
    by_cases c : subB free (n + 1) = true ∧ filB x w P (n + 1) = true
    · rw [if_pos c, b_and, Bool.and_eq_true, ih]
      constructor
      · rintro ⟨g1, g2⟩ s h1 h2 h3
        rcases Nat.eq_or_lt_of_le h2 with z | z
        · rw [z]; exact g2
        · exact g1 s h1 (by omega) h3
      · intro g
        exact ⟨fun s h1 h2 h3 => g s h1 (by omega) h3, g (n + 1) (by omega) (Nat.le_refl _) c⟩
    · rw [if_neg c, ih]
      constructor
      · intro g s h1 h2 h3
        rcases Nat.eq_or_lt_of_le h2 with z | z
        · rw [z] at h3; exact absurd h3 c
        · exact g s h1 (by omega) h3
      · intro g s h1 h2 h3
        exact g s h1 (by omega) h3
theorem and_clr {F : Nat} {p s : Nat} (hF : F < 1024) (hs : s < 1024) (hp : p < 10) : subB (nI F &&& (one p ^^^ (-1))) s = true ↔ subB (nI F) s = true ∧ bt (nI s) p = false := by
  unfold subB
  rw [decide_eq_true_iff, decide_eq_true_iff]
  have key : ∀ v : Int32, (nI s &&& (v ^^^ (-1)) = 0) ↔ ∀ i, i < 32 → bt (nI s) i = true → bt v i = true := fun v => by
    constructor
    · intro h i hi hb
      have := congrArg (fun y => bt y i) h
      simp only [b_and, b_cmp hi, b_0, hb] at this
      simpa using this
    · intro h
      refine b_ext fun i hi => ?_
      rw [b_and, b_cmp hi, b_0]
      cases q : bt (nI s) i with
      | false => rfl
      | true => rw [h i hi q]; rfl
  rw [key, key]
  constructor
  · intro h
    refine ⟨fun i hi hb => ?_, ?_⟩
    · have := h i hi hb
      rw [b_and, Bool.and_eq_true] at this
      exact this.1
    · cases q : bt (nI s) p with
      | false => rfl
      | true =>
        have := h p (by omega) q
        rw [b_and, b_cmp (by omega), b_one (by omega) (by omega), decide_eq_true rfl, Bool.not_true, Bool.and_false] at this
        cases this
  · rintro ⟨h1, h2⟩ i hi hb
    rw [b_and, h1 i hi hb, b_cmp hi, b_one (by omega) hi, Bool.true_and]
    by_cases e : i = p
    · rw [e, h2] at hb; cases hb
    · rw [decide_eq_false e]; rfl
theorem key_is {F p : Nat} (hP : P ≤ 10) (hF : F < 2 ^ P) (hp : p < P) : bR x w P (nI F &&& (one p ^^^ (-1))) 0 (2 ^ P - 1) = -1 ↔ bt (alR x w P (nI F) (2 ^ P - 1)) p = true := by
  obtain ⟨p1, p2⟩ := pw1024 hP
  rw [bR_none _ (by omega), alR_bt (by omega) _ (by omega)]
  constructor
  · intro g s h1 h2 h3
    cases q : bt (nI s) p with
    | true => rfl
    | false => exact absurd ⟨(and_clr (by omega) (by omega) (by omega)).mpr ⟨h3.1, q⟩, h3.2⟩ (g s h1 h2)
  · intro g s h1 h2 h3
    obtain ⟨g1, g2⟩ := (and_clr (by omega) (by omega) (by omega)).mp h3.1
    rw [g s h1 h2 ⟨g1, h3.2⟩] at g2
    cases g2
end SURV
