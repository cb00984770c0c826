/-! LAWS: what the survey finds; players of weddings are players -/
/-- a filling that the survey can find; y is the state in which the sets are marked -/
def filOk (y : MS) (P w : Nat) (size free : Int32) (s : Nat) : Prop :=
  1 ≤ s ∧ s < 2 ^ P ∧ nI s &&& (free ^^^ (-1)) = 0 ∧ ¬ y 8 s = 0 ∧ bcI (nI s) = size ∧ y (73 + w) 5 &&& (playF y (nI s) P ^^^ (-1)) = 0 ∧ feudB y (nI s) P = false
def bestOk (y x : MS) (P w : Nat) (size free : Int32) : Prop := x 9 3 = 0 ∨ ∃ s, filOk y P w size free s ∧ x 9 0 = nI s ∧ x 9 1 = costsF y (nI s) w P
theorem addF_8 (σ : MS) (s c k : Int32) : addF σ s c k 8 = σ 8 := by
  unfold addF
  (try dsimp only)
  rw [up2_ne (by decide), up2_ne (by decide)]
  split
  · rw [up2_ne (by decide), up2_ne (by decide), up2_ne (by decide)]
  · rfl
theorem addF_b {σ : MS} {s c k : Int32} : (addF σ s c k 9 0 = s ∧ addF σ s c k 9 1 = c) ∨ (¬ σ 9 3 = 0 ∧ addF σ s c k 9 0 = σ 9 0 ∧ addF σ s c k 9 1 = σ 9 1) := by
  unfold addF
  (try dsimp only)
  by_cases h : σ 9 3 = 0 ∨ σ 9 2 < k ∨ (k = σ 9 2 ∧ ¬ σ 9 1 ≤ c)
  · rw [if_pos h]
    refine Or.inl ⟨?_, ?_⟩
    · rw [up2_at (by omega), up2_at (by omega), up2_at (by omega), up2_at (by omega), up2_same]
    · rw [up2_at (by omega), up2_at (by omega), up2_at (by omega), up2_same]
  · rw [if_neg h]
    refine Or.inr ⟨fun q => h (Or.inl q), ?_, ?_⟩
    · rw [up2_at (by omega), up2_at (by omega)]
    · rw [up2_at (by omega), up2_at (by omega)]
theorem sv_8 (σ : MS) (P w : Nat) (size free had : Int32) : ∀ n, (sv σ P w size free had n).1 8 = σ 8
  | 0 => rfl
  | n + 1 => by
    have ih := sv_8 σ P w size free had n
    show (svS P w size free had (n + 1) (sv σ P w size free had n)).1 8 = _
    unfold svS
    split
    · split
      · split
        · exact ih
        · exact (addF_8 _ _ _ _).trans ih
      · exact ih
    · exact ih
theorem sv_best {σ : MS} {P w : Nat} {size free had : Int32} (h0 : σ 9 3 = 0) : ∀ n, n < 2 ^ P → bestOk σ (sv σ P w size free had n).1 P w size free
  | 0, _ => Or.inl h0
  | n + 1, hn => by
    have ih := sv_best (P := P) (w := w) (size := size) (free := free) (had := had) h0 n (by omega)
    have h8 := sv_8 σ P w size free had n
    have hs := Scr.sv σ P w size free had n
    show bestOk σ (svS P w size free had (n + 1) (sv σ P w size free had n)).1 P w size free
    generalize sv σ P w size free had n = x at ih h8 hs ⊢
    unfold svS
    rw [h8, hs.c73, playF_sc hs, feudB_sc hs, costsF_sc hs]
    by_cases c : nI (n + 1) &&& (free ^^^ (-1)) = 0 ∧ ¬ σ 8 (n + 1) = 0 ∧ bcI (nI (n + 1)) = size
    · rw [if_pos c]
      by_cases d : σ (73 + w) 5 &&& (playF σ (nI (n + 1)) P ^^^ (-1)) = 0
      · rw [if_pos d]
        by_cases e : feudB σ (nI (n + 1)) P = true
        · rw [if_pos e]; exact ih
        · rw [if_neg e]
          have hf : filOk σ P w size free (n + 1) := ⟨by omega, hn, c.1, c.2.1, c.2.2, d, by cases q : feudB σ (nI (n + 1)) P with
            | true => exact absurd q e
            | false => rfl⟩
          rcases addF_b (σ := x.1) (s := nI (n + 1)) (c := costsF σ (nI (n + 1)) w P) (k := bcI (nI (n + 1) &&& had)) with ⟨q1, q2⟩ | ⟨q0, q1, q2⟩
          · exact Or.inr ⟨n + 1, hf, q1, q2⟩
          · rcases ih with z | ⟨s, z1, z2, z3⟩
            · exact absurd z q0
            · exact Or.inr ⟨s, z1, q1.trans z2, q2.trans z3⟩
      · rw [if_neg d]; exact ih
    · rw [if_neg c]; exact ih
theorem sat_9 (σ : MS) (b P : Nat) : ∀ n, sat σ b P n 9 = σ 9
  | 0 => up2_ne (by decide)
  | n + 1 => by unfold sat; rw [up2_ne (by decide)]; exact sat_9 σ b P n
theorem surv_best (σ : MS) (w P : Nat) (free had : Int32) : bestOk (svIn σ w P) (survF σ w P free had) P w (σ (55 + bdOf σ w) 2) free := by
  have h0 : svIn σ w P 9 3 = 0 := by
    unfold svIn
    rw [sat_9]
    unfold clearF
    rw [up2_at (by omega), up2_at (by omega), up2_same]
  have hp0 : 0 < 2 ^ P := Nat.two_pow_pos P
  have hb := sv_best (P := P) (w := w) (size := σ (55 + bdOf σ w) 2) (free := free) (had := had) h0 (2 ^ P - 1) (by omega)
  unfold survF svAll
  generalize sv (svIn σ w P) P w (σ (55 + bdOf σ w) 2) free had (2 ^ P - 1) = x at hb ⊢
  unfold bestOk at hb ⊢
  rw [up2_at (by omega), up2_at (by omega), up2_at (by omega)]
  exact hb
theorem clear_7 (σ : MS) : clearF σ 7 = σ 7 := by
  unfold clearF
  rw [up2_ne (by decide), up2_ne (by decide), up2_ne (by decide), up2_ne (by decide), up2_ne (by decide), up2_ne (by decide)]
theorem sat_7 (σ : MS) (b P : Nat) : ∀ n, sat σ b P n 7 = σ 7
  | 0 => up2_ne (by decide)
  | n + 1 => by unfold sat; rw [up2_ne (by decide)]; exact sat_7 σ b P n
theorem addF_7 (σ : MS) (s c k : Int32) : addF σ s c k 7 = σ 7 := by
  unfold addF
  (try dsimp only)
  rw [up2_ne (by decide), up2_ne (by decide)]
  split
  · rw [up2_ne (by decide), up2_ne (by decide), up2_ne (by decide)]
  · rfl
theorem sv_7 (σ : MS) (P w : Nat) (size free had : Int32) : ∀ n, (sv σ P w size free had n).1 7 = σ 7
  | 0 => rfl
  | n + 1 => by
    have ih := sv_7 σ P w size free had n
    show (svS P w size free had (n + 1) (sv σ P w size free had n)).1 7 = _
    unfold svS
    split
    · split
      · split
        · exact ih
        · exact (addF_7 _ _ _ _).trans ih
      · exact ih
    · exact ih
/-! players of weddings are players -/
def inP (P : Nat) (v : Int32) : Prop := 0 ≤ v ∧ v < nI (2 ^ P)
theorem inP_0 (P : Nat) (hP : P ≤ 10) : inP P 0 := ⟨by decide, by
  have := pw1024 hP
  exact nI_lt (show 0 < 2 ^ P by omega) (by omega)⟩
theorem inP_n {P s : Nat} (hP : P ≤ 10) (h : s < 2 ^ P) : inP P (nI s) := by
  have := pw1024 hP
  exact ⟨nI_pos' (by omega), nI_lt h (by omega)⟩
theorem inP_up {P : Nat} {v : Int32} (hP : P < 10) (h : inP P v) : inP (P + 1) v := ⟨h.1, Int32.lt_of_lt_of_le h.2 (by
  have := pw1024 (show P + 1 ≤ 10 by omega)
  exact nI_le (Nat.pow_le_pow_right (by decide) (by omega)) (by omega))⟩
def Pk (σ : MS) (P : Nat) : Prop := ∀ w, w < 14 → inP P (σ (73 + w) 8)
theorem Pk.ok {σ : MS} {P W : Nat} (h : Pk σ P) (hW : W ≤ 14) : Pok σ P W := fun w hw => h w (by omega)
theorem Pk.scr {σ τ : MS} {P : Nat} (h : Pk σ P) (hs : Scr σ τ) : Pk τ P := fun w hw => by rw [hs.c73]; exact h w hw
/-- but the players of weddings -/
def Kw (σ τ : MS) : Prop := ∀ w, w < 14 → τ (73 + w) 8 = σ (73 + w) 8
theorem Kw.rf (σ : MS) : Kw σ σ := fun _ _ => rfl
theorem Kw.tr {a b c : MS} (h : Kw a b) (g : Kw b c) : Kw a c := fun w hw => (g w hw).trans (h w hw)
theorem Kw.up {σ : MS} {k j : Nat} {v : Int32} (h : k < 73 ∨ j ≠ 8) : Kw σ (up2 σ k j v) := fun w hw => up2_at (by omega)
theorem Kw.scr {σ τ : MS} (h : Scr σ τ) : Kw σ τ := fun w _ => by rw [h.c73]
theorem Pk.kw {σ τ : MS} {P : Nat} (h : Pk σ P) (hk : Kw σ τ) : Pk τ P := fun w hw => by rw [hk w hw]; exact h w hw
theorem Pk.put {σ : MS} {P w : Nat} {s : Int32} (h : Pk σ P) (hs : inP P s) : Pk (up2 σ (73 + w) 8 s) P := fun v hv => by
  by_cases e : v = w
  · subst e; rw [up2_same]; exact hs
  · rw [up2_at (by omega)]; exact h v hv
theorem Kw.paid (σ : MS) (w : Nat) (a : Int32) : Kw σ (paidF σ w a) := (Kw.up (Or.inr (by decide))).tr (Kw.up (Or.inr (by decide)))
theorem Kw.lose (σ : MS) (a n : Nat) : Kw σ (loseQ σ a n) := fun w hw => if_neg (by omega)
theorem Kw.wait (σ : MS) (n : Nat) : Kw σ (waitL σ n) := fun w hw => if_neg (by omega)
theorem Kw.py (x : MS) (w : Nat) : ∀ n, Kw x (pyS x w n)
  | 0 => Kw.rf x
  | n + 1 => by
    have ih := Kw.py x w n
    unfold pyS
    split
    · exact ih.tr ((((Kw.up (Or.inr (by decide))).tr (Kw.up (Or.inr (by decide)))).tr (Kw.up (Or.inr (by decide)))).tr (Kw.up (Or.inr (by decide))))
    · exact ih
theorem Kw.ply (y : MS) : ∀ n, Kw y (plyS y n)
  | 0 => Kw.rf y
  | n + 1 => (Kw.ply y n).tr (Kw.up (Or.inr (by decide)))
theorem Kw.out (σ : MS) (w P : Nat) : Kw σ (outS σ w P) := ((((Kw.paid σ w _).tr (Kw.py _ w P)).tr (Kw.scr (Scr.set _ _ _))).tr (Kw.ply _ _)).tr (Kw.up (Or.inr (by decide)))
theorem kw_edA (σ : MS) (P : Nat) : ∀ n, Kw σ (edA σ P n)
  | 0 => Kw.rf σ
  | n + 1 => by
    have ih := kw_edA σ P n
    unfold edA
    split
    · exact ih.tr (Kw.out _ _ _)
    · exact ih
theorem kw_edB (σ : MS) : ∀ n, Kw σ (edB σ n)
  | 0 => Kw.rf σ
  | n + 1 => by
    have ih := kw_edB σ n
    unfold edB
    split
    · exact ih.tr (Kw.up (Or.inr (by decide)))
    · exact ih
theorem kw_dayS (σ : MS) (P W : Nat) : Kw σ (dayS σ P W) := (((kw_edA σ P W).tr (kw_edB _ W)).tr (Kw.up (Or.inl (by decide)))).tr (Kw.wait _ W)
theorem kw_psS (σ : MS) (P W : Nat) : ∀ n, Kw σ (psS σ P W n)
  | 0 => Kw.rf σ
  | n + 1 => (kw_psS σ P W n).tr (kw_dayS _ P W)
theorem surv_in {σ : MS} {w P : Nat} {free had : Int32} (hP : P ≤ 10) (h : ¬ survF σ w P free had 9 3 = 0) : inP P (survF σ w P free had 9 0) := by
  rcases surv_best σ w P free had with q | ⟨s, q1, q2, _⟩
  · exact absurd q h
  · rw [q2]; exact inP_n hP q1.2.1
theorem Pk.fix {σ : MS} {P w W : Nat} (h : Pk σ P) (hP : P ≤ 10) (hc : ¬ snF σ w P W 9 3 = 0) : Pk (fixS σ w P W) P := by
  unfold fixS
  (try dsimp only)
  have h1 := h.scr (Scr.sn σ w P W)
  have h2 : inP P (snF σ w P W 9 0) := surv_in hP hc
  generalize snF σ w P W = y at h1 h2 ⊢
  have e : loseQ y w W 9 = y 9 := loseQ_k (by decide)
  rw [e]
  exact ((((h1.kw (Kw.lose y w W)).kw (Kw.up (Or.inr (by decide)))).put h2).kw (Kw.up (Or.inr (by decide)))).kw (Kw.paid _ _ _)
theorem Pk.can {σ : MS} {P w : Nat} (h : Pk σ P) : Pk (canS σ w) P := by
  unfold canS
  split
  · exact (h.kw (Kw.paid _ _ _)).kw (Kw.up (Or.inr (by decide)))
  · exact h.kw (Kw.up (Or.inr (by decide)))
theorem sw_in {σ : MS} {P W p : Nat} {day : Int32} (hP : P ≤ 10) (hk : Pk σ P) (hW : W ≤ 14) : ∀ n, ∀ j, j < W → inP P ((swS σ P W p day n).1 7 j)
  | 0, j, hj => by
    show inP P (stg σ W 7 j)
    unfold stg
    rw [if_pos ⟨rfl, hj⟩]
    split
    · exact hk j (by omega)
    · exact inP_0 P hP
  | n + 1, j, hj => by
    have ih := sw_in (p := p) (day := day) hP hk hW n
    unfold swS
    (try dsimp only)
    generalize swS σ P W p day n = x at ih ⊢
    split
    · dsimp only
      have e7 : survF x.1 n P (freeF x.1 n W P &&& (one p ^^^ (-1))) (x.1 7 n) 7 = x.1 7 := by
        unfold survF svAll
        rw [up2_ne (by decide), sv_7]
        unfold svIn
        rw [sat_7]
        exact clear_7 _
      have hi := surv_in (σ := x.1) (w := n) (free := freeF x.1 n W P &&& (one p ^^^ (-1))) (had := x.1 7 n) hP
      generalize survF x.1 n P (freeF x.1 n W P &&& (one p ^^^ (-1))) (x.1 7 n) = y at e7 hi ⊢
      by_cases e : j = n
      · subst e
        rw [up2_same]
        split
        · exact inP_0 P hP
        · rename_i c
          exact hi c
      · rw [up2_at (Or.inr e), e7]
        exact ih j hj
    · exact ih j hj
theorem pk_putF {σ : MS} {P w : Nat} {s : Int32} (h : Pk σ P) (hs : inP P s) : Pk (putF σ w s) P := by
  unfold putF
  split
  · exact (h.kw (Kw.up (Or.inr (by decide)))).kw (Kw.paid _ _ _)
  · exact h.put hs
theorem illS_7 {σ : MS} {p : Nat} {day : Int32} : ∀ n, illS σ p day n 7 = σ 7
  | 0 => rfl
  | n + 1 => by
    have ih := illS_7 (σ := σ) (p := p) (day := day) n
    unfold illS
    split
    · rw [← ih]
      generalize illS σ p day n = y
      unfold putF paidF
      split
      · rw [up2_ne (by omega), up2_ne (by omega), up2_ne (by omega)]
      · rw [up2_ne (by omega)]
    · exact ih
theorem Pk.ill {σ : MS} {P W p : Nat} {day : Int32} (h : Pk σ P) (hs : ∀ j, j < W → inP P (σ 7 j)) : ∀ n, n ≤ W → Pk (illS σ p day n) P
  | 0, _ => h
  | n + 1, hn => by
    have ih := Pk.ill (p := p) (day := day) h hs n (by omega)
    unfold illS
    split
    · rw [illS_7]
      exact pk_putF ih (hs n (by omega))
    · exact ih
