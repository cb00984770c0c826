/-! LAWS: a wedding is played, the day ends, days pass -/
def Kp (σ σ' : MS) : Prop := ∀ k j, okPl k j → σ' k j = σ k j
theorem Kp.rf (σ : MS) : Kp σ σ := fun _ _ _ => rfl
theorem Kp.tr {a b c : MS} (h : Kp a b) (g : Kp b c) : Kp a c := fun k j hk => (g k j hk).trans (h k j hk)
theorem Kp.up {σ : MS} {k j : Nat} {v : Int32} (h : ¬ okPl k j) : Kp σ (up2 σ k j v) := fun k' j' hk => up2_at (by
  by_cases e : k' = k
  · by_cases e2 : j' = j
    · subst e; subst e2; exact absurd hk h
    · exact Or.inr e2
  · exact Or.inl e)
theorem Scr.kp {σ σ' : MS} (h : Scr σ σ') : Kp σ σ' := fun k j hk => by rw [h k (by unfold okPl at hk; omega)]
theorem Ok.kp {σ σ' : MS} {P B W T : Nat} (O : Ok σ P B W T) (h : Kp σ σ') : Ok σ' P B W T := O.same h
theorem Kp.paid (σ : MS) {w : Nat} (a : Int32) (hw : w < 14) : Kp σ (paidF σ w a) := (Kp.up (by unfold okPl; omega)).tr (Kp.up (by unfold okPl; omega))
/-- one of those on stage gets the wage -/
def wgS (x : MS) (w p : Nat) : MS := up2 (up2 (up2 (up2 x 0 10 (x 0 10 - wageF x p w)) (29 + p) 5 (x (29 + p) 5 + wageF x p w)) (29 + p) 6 (x (29 + p) 6 + 1)) (29 + p) 7 (x (29 + p) 7 + x (73 + w) 4)
theorem Kp.wg (x : MS) (w : Nat) {p : Nat} (hp : p < 10) : Kp x (wgS x w p) := (((Kp.up (by unfold okPl; omega)).tr (Kp.up (by unfold okPl; omega))).tr (Kp.up (by unfold okPl; omega))).tr (Kp.up (by unfold okPl; omega))
def pyS (x : MS) (w : Nat) : Nat → MS
  | 0 => x
  | n + 1 => if bt (pyS x w n (73 + w) 8) n = true then wgS (pyS x w n) w n else pyS x w n
theorem Kp.py (x : MS) (w : Nat) : ∀ n, n ≤ 10 → Kp x (pyS x w n)
  | 0, _ => Kp.rf x
  | n + 1, h => by
    have ih := Kp.py x w n (by omega)
    unfold pyS
    split
    · exact ih.tr (Kp.wg _ _ (by omega))
    · exact ih
/-- the songs of the row, each once more played -/
def plyS (y : MS) : Nat → MS
  | 0 => y
  | n + 1 => up2 (plyS y n) (39 + (y 11 n).toNatClampNeg) 3 (plyS y n (39 + (y 11 n).toNatClampNeg) 3 + 1)
theorem plyS_k {y : MS} {k : Nat} (h : k < 39) : ∀ n, plyS y n k = y k
  | 0 => rfl
  | n + 1 => by
    unfold plyS
    rw [up2_ne (by omega)]
    exact plyS_k h n
theorem Kp.ply {y : MS} {m : Nat} (hy : ∀ k, k < m → vp_in (y 11 k) 16) : ∀ n, n ≤ m → Kp y (plyS y n)
  | 0, _ => Kp.rf y
  | n + 1, h => (Kp.ply hy n (by omega)).tr (Kp.up (by have := vlt (hy n (by omega)); unfold okPl; omega))
/-- the row that is followed: its length, its songs -/
theorem flS_row {z : MS} {first : Int32} {n : Nat} (hn : n ≤ 16) (hz : ∀ j, j < n → ps n (z 14 j)) (hf : ps n first) (h12 : ∀ k, k < n → vp_in (z 12 k) 16) : ∀ m, m ≤ 16 → ∃ l, l ≤ m ∧ (flS z first m).1 10 1 = nI l ∧ ∀ k, k < l → vp_in ((flS z first m).1 11 k) 16
  | 0, _ => ⟨0, Nat.le_refl 0, (show up2 z 10 1 0 10 1 = 0 from up2_same).trans nI_0.symm, fun k hk => by omega⟩
  | m + 1, hm => by
    obtain ⟨l, hl, e1, e2⟩ := flS_row hn hz hf h12 m (by omega)
    have hp := flS_ps hz hf hn m
    have hs := flS_n (z := z) (first := first) m
    have h12' := flS_k (z := z) (first := first) (k := 12) (by decide) (by decide) m
    unfold flS
    by_cases c : (flS z first m).2 = -1
    · rw [if_pos c]
      exact ⟨l, by omega, e1, e2⟩
    · rw [if_neg c]
      dsimp only
      have e3 := hs c
      rw [e1] at e3
      refine ⟨m + 1, Nat.le_refl _, up2_same, fun k hk => ?_⟩
      rw [up2_ne (by omega)]
      by_cases e : k = m
      · subst e
        rw [up2_same, h12']
        rcases hp with q | ⟨j, hj, q⟩
        · exact absurd q c
        · rw [q, nI_clamp (by omega)]
          exact h12 j hj
      · have hlm : l = m ∨ l < m := by omega
        rw [up2_at (Or.inr e)]
        rcases hlm with q | q
        · exact e2 k (by omega)
        · have q2 : nI l < nI m := nI_lt q (by omega)
          rw [e3] at q2
          exact absurd q2 Int32.lt_irrefl
theorem cho_row (σ : MS) (pb : Int32) : ∃ l, l ≤ 16 ∧ choS σ pb 10 1 = nI l ∧ ∀ k, k < l → vp_in (choS σ pb 11 k) 16 := by
  have hL := (srtL_ok σ pb 10 (by decide)).1
  unfold choS
  generalize srtL σ pb 10 = L at hL ⊢
  have hn := lst_len hL
  have x12 : ∀ k, k < L.length → vp_in (putL σ L 12 k) 16 := fun k hk => by
    have e : putL σ L 12 k = nI (L.getD k 0) := if_pos ⟨rfl, hk⟩
    rw [e]
    have e2 : L.getD k 0 = L[k] := by simp [List.getD, hk]
    rw [e2]
    exact vp_in_nI (hL.2 _ (List.getElem_mem hk)) (by decide)
  generalize putL σ L = x at x12 ⊢
  generalize L.length = n at hn x12 ⊢
  unfold chE
  refine flS_row (n := n) hn (fun j hj => ?_) (fsF_ps n (Nat.le_refl _)) (fun k hk => ?_) 16 (Nat.le_refl _)
  · rw [up2_at (by omega)]
    exact chS_ps n (Nat.le_refl _) j (by omega) hj
  · rw [up2_at (by omega), chS_k (by decide) (by decide)]
    exact x12 k hk
/-- what is left of the day's wedding when its row of songs is found -/
def outX (σ : MS) (w P : Nat) : MS := pyS (paidF σ w ((σ (73 + w) 9 - σ (73 + w) 11) + extraF σ w P)) w P
def outY (σ : MS) (w P : Nat) : MS := setS (outX σ w P) (outX σ w P (73 + w) 8) P
def outS (σ : MS) (w P : Nat) : MS := up2 (plyS (outY σ w P) (outY σ w P 10 1).toNatClampNeg) (73 + w) 7 2
theorem kp_outY (σ : MS) {w P : Nat} (hw : w < 14) (hP : P ≤ 10) : Kp σ (outY σ w P) := ((Kp.paid σ _ hw).tr (Kp.py _ w P hP)).tr (Scr.set _ _ _).kp
theorem Kp.out (σ : MS) {w P : Nat} (hw : w < 14) (hP : P ≤ 10) : Kp σ (outS σ w P) := by
  unfold outS
  have hY := kp_outY σ hw hP
  obtain ⟨l, hl, e1, e2⟩ := cho_row (outX σ w P) (playF (outX σ w P) (outX σ w P (73 + w) 8) P)
  have e1 : outY σ w P 10 1 = nI l := e1
  have e2 : ∀ k, k < l → vp_in (outY σ w P 11 k) 16 := e2
  generalize outY σ w P = y at hY e1 e2 ⊢
  rw [e1, nI_clamp (by omega)]
  exact (hY.tr (Kp.ply e2 l (Nat.le_refl _))).tr (Kp.up (by unfold okPl; omega))
theorem law_py138 {post : MS → Prop} {y : MS} {w l : Nat} (hl : l ≤ 16) (e1 : y 10 1 = nI l) (e2 : ∀ k, k < l → vp_in (y 11 k) 16) (h : post (up2 (plyS y l) (73 + w) 7 2)) : ∃ k, u_X7_playOut_138 post w k y 0 := by
  refine up_loop (fun k (q : MS × Int32) => u_X7_playOut_138 post w k q.1 q.2) (fun i => (plyS y i, nI i)) l ?_ (fun i k hi hk => ?_)
  · show u_X7_playOut_138 post w 1 (plyS y l) (nI l)
    rw [u_X7_playOut_138, plyS_k (by decide), e1]
    exact ⟨fun _ => h, fun c => absurd (le_self _) c⟩
  · show u_X7_playOut_138 post w (k + 1) (plyS y i) (nI i)
    have hk : u_X7_playOut_138 post w k (plyS y (i + 1)) (nI (i + 1)) := hk
    unfold plyS at hk
    have a10 := plyS_k (y := y) (k := 10) (by decide) i
    have a11 := plyS_k (y := y) (k := 11) (by decide) i
    generalize plyS y i = x at hk a10 a11 ⊢
    rw [u_X7_playOut_138, a10, a11, e1, nI_1, nI_clamp (by omega)]
    exact ⟨fun c => absurd c (nI_ge hi (by omega)), fun _ => ⟨vp_in_nI (by omega) (by decide), e2 i hi, hk⟩⟩
theorem law_py22 {post : MS → Prop} {x : MS} {P B W T w : Nat} (O : Ok x P B W T) (hw : w < 14)
    (h : post (up2 (plyS (setS (pyS x w P) (pyS x w P (73 + w) 8) P) (setS (pyS x w P) (pyS x w P (73 + w) 8) P 10 1).toNatClampNeg) (73 + w) 7 2)) : ∃ k, u_X7_playOut_22 post w k x 0 := by
  have hP := O.hP
  refine up_loop (fun k (q : MS × Int32) => u_X7_playOut_22 post w k q.1 q.2) (fun i => (pyS x w i, nI i)) P ?_ (fun i k hi hk => ?_)
  · show u_X7_playOut_22 post w 1 (pyS x w P) (nI P)
    have Ox := O.kp (Kp.py x w P hP)
    generalize pyS x w P = y at h Ox ⊢
    rw [u_X7_playOut_22, Ox.h6]
    obtain ⟨l, hl, e1, e2⟩ := cho_row y (playF y (y (73 + w) 8) P)
    have e0 : setS y (y (73 + w) 8) P 10 1 = nI l := e1
    rw [e0, nI_clamp (by omega)] at h
    exact ⟨fun _ => law_playableFor Ox.h6 hP (law_choose (law_py138 hl e1 e2 h)), fun c => absurd (le_self _) c⟩
  · show u_X7_playOut_22 post w (k + 1) (pyS x w i) (nI i)
    have hk : u_X7_playOut_22 post w k (pyS x w (i + 1)) (nI (i + 1)) := hk
    unfold pyS at hk
    have Ox := O.kp (Kp.py x w i (by omega))
    generalize pyS x w i = y at hk Ox ⊢
    have vp : vp_in (nI i) 10 := vp_in_nI (by omega) (by decide)
    rw [u_X7_playOut_22, Ox.h6, nI_1, nI_clamp (by omega)]
    refine ⟨fun c => absurd c (nI_ge hi (by omega)), fun _ => law_has (by omega) ⟨fun c => ?_, fun c => ⟨vp, law_wageAt (Ox.home i (by omega)) (Ox.town w hw) ⟨vp, vp, fun y6 h6 => ⟨vp, fun y7 h7 y4 h4 => ?_⟩⟩⟩⟩⟩
    · rw [if_neg (by rw [b01_0.mp c]; exact Bool.false_ne_true)] at hk
      exact hk
    · rw [if_pos (b01_1.mp c)] at hk
      unfold wgS at hk
      rw [up2_at (by omega), up2_at (by omega)] at h6
      rw [up2_at (by omega), up2_at (by omega), up2_at (by omega)] at h7 h4
      subst h6
      subst h7
      subst h4
      rw [up2_at (k' := 29 + i) (j' := 5) (by omega)]
      exact hk
theorem law_playOut {post : MS → Prop} {σ : MS} {P B W T w : Nat} (O : Ok σ P B W T) (hw : w < 14) (h : post (outS σ w P)) : w_X7_playOut post σ w := by
  unfold w_X7_playOut
  exact law_extraOf O.h6 O.hP (law_getPaid (law_py22 (O.kp (Kp.paid σ _ hw)) hw h))
/-- those of today are played, one by one -/
def edA (σ : MS) (P : Nat) : Nat → MS
  | 0 => σ
  | n + 1 => if edA σ P n (73 + n) 1 = edA σ P n 0 9 ∧ edA σ P n (73 + n) 7 = 1 then outS (edA σ P n) n P else edA σ P n
def edB (σ : MS) : Nat → MS
  | 0 => σ
  | n + 1 => if edB σ n (73 + n) 1 = edB σ n 0 9 ∧ edB σ n (73 + n) 7 = 0 then up2 (edB σ n) (73 + n) 7 3 else edB σ n
theorem kp_edA (σ : MS) {P : Nat} (hP : P ≤ 10) : ∀ n, n ≤ 14 → Kp σ (edA σ P n)
  | 0, _ => Kp.rf σ
  | n + 1, h => by
    have ih := kp_edA σ hP n (by omega)
    unfold edA
    split
    · exact ih.tr (Kp.out _ (by omega) hP)
    · exact ih
theorem kp_edB (σ : MS) : ∀ n, n ≤ 14 → Kp σ (edB σ n)
  | 0, _ => Kp.rf σ
  | n + 1, h => by
    have ih := kp_edB σ n (by omega)
    unfold edB
    split
    · exact ih.tr (Kp.up (by unfold okPl; omega))
    · exact ih
def endS (σ : MS) (P W : Nat) : MS := edB (edA σ P W) W
theorem Kp.end (σ : MS) {P W : Nat} (hP : P ≤ 10) (hW : W ≤ 14) : Kp σ (endS σ P W) := (kp_edA σ hP W hW).tr (kp_edB _ W hW)
theorem law_end57 {post : MS → Prop} {σ : MS} {P B W T : Nat} (O : Ok σ P B W T) (h : post (edB σ W)) : ∃ k, u_X7_endToday_57 post k σ 0 := by
  have hW := O.hW
  refine up_loop (fun k (q : MS × Int32) => u_X7_endToday_57 post k q.1 q.2) (fun i => (edB σ i, nI i)) W ?_ (fun i k hi hk => ?_)
  · show u_X7_endToday_57 post 1 (edB σ W) (nI W)
    rw [u_X7_endToday_57, (O.kp (kp_edB σ W hW)).h8]
    exact ⟨fun _ => h, fun c => absurd (le_self _) c⟩
  · show u_X7_endToday_57 post (k + 1) (edB σ i) (nI i)
    have hk : u_X7_endToday_57 post k (edB σ (i + 1)) (nI (i + 1)) := hk
    unfold edB at hk
    have Ox := O.kp (kp_edB σ i (by omega))
    generalize edB σ i = x at hk Ox ⊢
    have vp : vp_in (nI i) 14 := vp_in_nI (by omega) (by decide)
    rw [u_X7_endToday_57, Ox.h8, nI_1, nI_clamp (by omega)]
    refine ⟨fun c => absurd c (nI_ge hi (by omega)), fun _ => ⟨vp, fun c => ⟨vp, fun d => ⟨vp, ?_⟩, fun d => ?_⟩, fun c => ?_⟩⟩
    · rw [if_pos ⟨c, d⟩] at hk; exact hk
    · rw [if_neg (fun q => d q.2)] at hk; exact hk
    · rw [if_neg (fun q => c q.1)] at hk; exact hk
theorem law_endToday {post : MS → Prop} {σ : MS} {P B W T : Nat} (O : Ok σ P B W T) (h : post (endS σ P W)) : w_X7_endToday post σ := by
  have hW := O.hW
  unfold w_X7_endToday
  refine up_loop (fun k (q : MS × Int32) => u_X7_endToday_2 post k q.1 q.2) (fun i => (edA σ P i, nI i)) W ?_ (fun i k hi hk => ?_)
  · show u_X7_endToday_2 post 1 (edA σ P W) (nI W)
    have Ox := O.kp (kp_edA σ O.hP W hW)
    rw [u_X7_endToday_2, Ox.h8]
    exact ⟨fun _ => law_end57 Ox h, fun c => absurd (le_self _) c⟩
  · show u_X7_endToday_2 post (k + 1) (edA σ P i) (nI i)
    have hk : u_X7_endToday_2 post k (edA σ P (i + 1)) (nI (i + 1)) := hk
    unfold edA at hk
    have Ox := O.kp (kp_edA σ O.hP i (by omega))
    generalize edA σ P i = x at hk Ox ⊢
    have vp : vp_in (nI i) 14 := vp_in_nI (by omega) (by decide)
    rw [u_X7_endToday_2, Ox.h8, nI_1, nI_clamp (by omega)]
    refine ⟨fun c => absurd c (nI_ge hi (by omega)), fun _ => ⟨vp, fun c => ⟨vp, fun d => ⟨vp, law_playOut Ox (by omega) ?_⟩, fun d => ?_⟩, fun c => ?_⟩⟩
    · rw [if_pos ⟨c, d⟩] at hk; exact hk
    · rw [if_neg (fun q => d q.2)] at hk; exact hk
    · rw [if_neg (fun q => c q.1)] at hk; exact hk
def dayS (σ : MS) (P W : Nat) : MS := waitL (up2 (endS σ P W) 0 9 (endS σ P W 0 9 + 1)) W
theorem Ok.tomorrow {σ : MS} {P B W T : Nat} (O : Ok σ P B W T) (hT : T < 365) : Ok (up2 σ 0 9 (σ 0 9 + 1)) P B W (T + 1) := by
  refine ⟨?_, O.hP, ?_, O.hB, ?_, O.hW, ?_, by omega, fun p hp => ?_, fun w hw => ?_, fun w hw => ?_, fun w hw => ?_, fun b hb => ?_, fun b j hb hj => ?_⟩
  · rw [up2_at (by omega)]; exact O.h6
  · rw [up2_at (by omega)]; exact O.h7
  · rw [up2_at (by omega)]; exact O.h8
  · rw [up2_same, O.h9, nI_1]
  · rw [up2_ne (by omega)]; exact O.home p hp
  · rw [up2_ne (by omega)]; exact O.band w hw
  · rw [up2_ne (by omega)]; exact O.day w hw
  · rw [up2_ne (by omega)]; exact O.town w hw
  · rw [up2_ne (by omega)]; exact O.size b hb
  · rw [up2_ne (by omega)]; exact O.place b j hb hj
theorem ok_dayS {σ : MS} {P B W T : Nat} (O : Ok σ P B W T) (hT : T < 365) : Ok (dayS σ P W) P B W (T + 1) := ((O.kp (Kp.end σ O.hP O.hW)).tomorrow hT).wait O.hW
def psS (σ : MS) (P W : Nat) : Nat → MS
  | 0 => σ
  | n + 1 => dayS (psS σ P W n) P W
theorem ok_psS {σ : MS} {P B W T : Nat} (O : Ok σ P B W T) : ∀ n, T + n ≤ 365 → Ok (psS σ P W n) P B W (T + n)
  | 0, _ => O
  | n + 1, h => ok_dayS (ok_psS O n (by omega)) (show T + n < 365 by omega)
theorem law_T_pass {post : Int32 → MS → Prop} {pex : String → MS → Prop} {σ : MS} {P B W T : Nat} {a : Int32} (O : Ok σ P B W T)
    (hx : (∀ d, 1 ≤ d → d ≤ 60 → a ≠ nI d) → pex xIA σ)
    (hs : ∀ d, 1 ≤ d → d ≤ 60 → a = nI d → 365 < T + d → pex xIS σ)
    (h : ∀ d, 1 ≤ d → d ≤ 60 → a = nI d → T + d ≤ 365 → post (nI (T + d)) (psS σ P W d)) : w_T_X7_pass post pex σ a := by
  have hT := O.hT
  unfold w_T_X7_pass u_T_X7_pass_11
  refine ⟨fun c => hx fun d h1 h2 e => ?_, fun c => ⟨fun f => ?_, fun f => hx fun d h1 h2 e => ?_⟩⟩
  · subst e
    have : nI d < nI 1 := c
    rw [nI_ltI (by omega) (by decide)] at this
    omega
  · have h0 : ¬ a < 0 := fun z => c (by
      have h1 : (0 : Int32) < 1 := by decide
      exact Int32.lt_trans z h1)
    obtain ⟨d, hd, rfl⟩ := nI_of h0
    have d1 : 1 ≤ d := Nat.le_of_not_lt fun z => c (show nI d < nI 1 from (nI_ltI hd (by decide)).mpr z)
    have d2 : d ≤ 60 := (nI_leI hd (by decide)).mp (show nI d ≤ nI 60 from f)
    rw [O.h9, nI_add]
    have hh := h d d1 d2 rfl
    have hs := hs d d1 d2 rfl
    refine ⟨fun g => ?_, fun g => hs (Nat.lt_of_not_le fun z => g (show nI (T + d) ≤ nI 365 from nI_le z (by decide)))⟩
    have g2 : T + d ≤ 365 := (nI_leI (by omega) (by decide)).mp (show nI (T + d) ≤ nI 365 from g)
    have hh := hh g2
    refine up_loop (fun k (q : MS × Int32) => u_T_X7_pass_47 post pex (nI d) k q.1 q.2) (fun i => (psS σ P W i, nI i)) d ?_ (fun i k hi hk => ?_)
    · show u_T_X7_pass_47 post pex (nI d) 1 (psS σ P W d) (nI d)
      rw [u_T_X7_pass_47, (ok_psS O d g2).h9]
      exact ⟨fun _ => hh, fun c => absurd (le_self _) c⟩
    · show u_T_X7_pass_47 post pex (nI d) (k + 1) (psS σ P W i) (nI i)
      have hk : u_T_X7_pass_47 post pex (nI d) k (dayS (psS σ P W i) P W) (nI (i + 1)) := hk
      have Ox := ok_psS O i (by omega)
      generalize psS σ P W i = x at hk Ox ⊢
      rw [u_T_X7_pass_47, nI_1]
      refine ⟨fun c => absurd c (nI_ge hi (by omega)), fun _ => law_endToday Ox ?_⟩
      have Oe := (Ox.kp (Kp.end x Ox.hP Ox.hW)).tomorrow (by omega)
      unfold dayS at hk
      generalize endS x P W = y at hk Oe ⊢
      exact law_loseThoseWhoWaited Oe.h8 Oe.hW hk
  · subst e
    exact f (show nI d ≤ nI 60 from nI_le h2 (by decide))
