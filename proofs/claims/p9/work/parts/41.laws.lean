/-! LAWS: song, feud, ask, ill -/
def sgOk (k e m : Int32) : Prop := ¬ k < 0 ∧ ¬ 12 ≤ k ∧ ¬ e < 0 ∧ ¬ 10 ≤ e ∧ ¬ m < 2 ∧ m ≤ 9
def songS (σ : MS) (s : Nat) (k e m : Int32) : MS := up2 (up2 (up2 σ (39 + s) 0 k) (39 + s) 1 e) (39 + s) 2 m
theorem law_T_song {post : Int32 → MS → Prop} {pex : String → MS → Prop} {σ : MS} {a k e m : Int32}
    (hx : (∀ s, s < 16 → a ≠ nI s) → pex xIO σ) (hq : ∀ s, s < 16 → a = nI s → ¬ sgOk k e m → pex xIA σ)
    (h : ∀ s, s < 16 → a = nI s → sgOk k e m → post (σ (39 + s) 2) (songS σ s k e m)) : w_T_X7_song post pex σ a k e m := by
  unfold w_T_X7_song u_T_X7_song_37
  refine law_T_checkSong (fun s hs q => ?_) hx
  subst q
  have hq := hq s hs rfl
  have h := h s hs rfl
  rw [nI_clamp (by omega)]
  exact ⟨fun c1 => hq fun q => q.1 c1, fun c1 => ⟨fun c2 => hq fun q => q.2.1 c2, fun c2 => ⟨fun c3 => hq fun q => q.2.2.1 c3, fun c3 => ⟨fun c4 => hq fun q => q.2.2.2.1 c4, fun c4 => ⟨fun c5 => hq fun q => q.2.2.2.2.1 c5, fun c5 => ⟨fun c6 => ⟨vp_in_nI hs (by decide), h ⟨c1, c2, c3, c4, c5, c6⟩⟩, fun c6 => hq fun q => c6 q.2.2.2.2.2⟩⟩⟩⟩⟩⟩
theorem Ok.song {σ : MS} {P B W T s : Nat} {k e m : Int32} (O : Ok σ P B W T) (hs : s < 16) : Ok (songS σ s k e m) P B W T :=
  ((O.up (by unfold okPl; omega)).up (by unfold okPl; omega)).up (by unfold okPl; omega)
/-- the state that a feud told or ended leaves -/
def feudS (σ : MS) (p q : Nat) (was is : Int32) : MS := if was = is then σ else up2 (up2 σ (29 + p) 4 (σ (29 + p) 4 ^^^ one q)) (29 + q) 4 (σ (29 + q) 4 ^^^ one p)
theorem law_T_feud {post : Int32 → MS → Prop} {pex : String → MS → Prop} {σ : MS} {P B W T : Nat} {a b c : Int32} (O : Ok σ P B W T)
    (hx : ((∀ p, p < P → a ≠ nI p) ∨ (∀ p, p < P → b ≠ nI p)) → pex xIO σ)
    (hq : ∀ p, p < P → a = nI p → b = nI p → pex xIA σ)
    (h : ∀ p q, p < P → q < P → a = nI p → b = nI q → p ≠ q → post (b01 (bt (σ (29 + p) 4) q)) (feudS σ p q (b01 (bt (σ (29 + p) 4) q)) c)) : w_T_X7_feud post pex σ a b c := by
  have hP := O.hP
  unfold w_T_X7_feud
  refine law_T_checkPlayer O (fun p hp e => law_T_checkPlayer O (fun q hqP e2 => ?_) (fun z => hx (Or.inr z))) (fun z => hx (Or.inl z))
  subst e
  subst e2
  refine ⟨fun d => hq p hp rfl d.symm, fun d => ?_⟩
  have hne : p ≠ q := fun z => d (by rw [z])
  have h := h p q hp hqP rfl rfl hne
  unfold feudS at h
  rw [nI_clamp (by omega), nI_clamp (by omega)]
  have nr : ∀ x : Bool, narrow .boolean (.int (b01 x)) = .int (b01 x) := fun x => by cases x <;> rfl
  refine ⟨vp_in_nI (by omega) (by decide), law_has (by omega) ⟨fun g => ⟨nr _, ?_⟩, fun g => ⟨vp_in_nI (by omega) (by decide), vp_in_nI (by omega) (by decide), fun y hy => ⟨nr _, ?_⟩⟩⟩⟩
  · rw [if_pos g] at h
    exact h
  · rw [if_neg g] at h
    rw [up2_at (by omega)] at hy
    subst hy
    exact h
theorem Ok.feud {σ : MS} {P B W T p q : Nat} {x y : Int32} (O : Ok σ P B W T) (hp : p < 10) (hq : q < 10) : Ok (feudS σ p q x y) P B W T := by
  unfold feudS
  split
  · exact O
  · exact (O.up (by unfold okPl; omega)).up (by unfold okPl; omega)
/-- the state that an asked wedding leaves -/
def askS (σ : MS) (W : Nat) (b d t s l g : Int32) : MS := up2 (up2 (up2 (up2 (up2 (up2 (up2 (up2 σ (73 + W) 0 b) (73 + W) 1 d) (73 + W) 2 t) (73 + W) 3 s) (73 + W) 4 l) (73 + W) 5 g) (73 + W) 6 (σ 0 9)) 0 8 (nI (W + 1))
def askOk (σ : MS) (d s l g : Int32) : Prop := ¬ d < σ 0 9 ∧ ¬ 365 < d ∧ hoursOk s l = true ∧ (0 ≤ g ∧ g < 65536)
theorem law_T_ask {post : Int32 → MS → Prop} {pex : String → MS → Prop} {σ : MS} {P B W T : Nat} {b d t s l g : Int32} (O : Ok σ P B W T)
    (hx : ((∀ k, k < B → b ≠ nI k) ∨ (∀ k, k < 6 → t ≠ nI k)) → pex xIO σ)
    (hq : (∃ k, k < B ∧ b = nI k) → (∃ k, k < 6 ∧ t = nI k) → ¬ askOk σ d s l g → pex xIA σ)
    (hf : (∃ k, k < B ∧ b = nI k) → (∃ k, k < 6 ∧ t = nI k) → askOk σ d s l g → (W = 14 ∨ taken σ b d W = true) → pex xIS σ)
    (h : (∃ k, k < B ∧ b = nI k) → (∃ k, k < 6 ∧ t = nI k) → askOk σ d s l g → W < 14 → taken σ b d W = false → post (nI W) (askS σ W b d t s l g)) : w_T_X7_ask post pex σ b d t s l g := by
  have hW := O.hW
  unfold w_T_X7_ask u_T_X7_ask_42 u_T_X7_ask_70
  refine law_T_checkBand O (fun k1 hk1 e1 => law_T_checkTown (fun k2 hk2 e2 => ?_) (fun z => hx (Or.inr z))) (fun z => hx (Or.inl z))
  have hq := hq ⟨k1, hk1, e1⟩ ⟨k2, hk2, e2⟩
  have hf := hf ⟨k1, hk1, e1⟩ ⟨k2, hk2, e2⟩
  have h := h ⟨k1, hk1, e1⟩ ⟨k2, hk2, e2⟩
  refine ⟨fun c1 => hq fun q => q.1 c1, fun c1 => ⟨fun c2 => hq fun q => q.2.1 c2, fun c2 => law_areHours ⟨fun c3 => hq fun q => ?_, fun c3 => law_isSetOfSongs ⟨fun c4 => hq fun q => of_decide_eq_false (b01_0.mp c4) q.2.2.2, fun c4 => ?_⟩⟩⟩⟩
  · have := q.2.2.1
    rw [b01_0.mp c3] at this
    exact Bool.false_ne_true this
  have ok : askOk σ d s l g := ⟨c1, c2, b01_1.mp c3, of_decide_eq_true (b01_1.mp c4)⟩
  have hf := hf ok
  have h := h ok
  rw [O.h8]
  refine ⟨fun c5 => hf (Or.inl ?_), fun c5 => law_isTaken O.h8 hW ⟨fun c6 => ?_, fun c6 => hf (Or.inr (b01_1.mp c6))⟩⟩
  · have := (nI_leI (a := 14) (by decide) (by omega)).mp (show nI 14 ≤ nI W from c5)
    omega
  · have hlt : W < 14 := Classical.byContradiction fun q => c5 (show nI 14 ≤ nI W from nI_le (by omega) (by omega))
    rw [O.h8, nI_clamp (by omega)]
    refine ⟨vp_in_nI hlt (by decide), fun y1 h1 y2 h2 y3 h3 => ?_⟩
    rw [up2_at (by omega), up2_at (by omega), up2_at (by omega), up2_at (by omega), up2_at (by omega), up2_at (by omega)] at h1
    subst h1
    rw [up2_at (by omega), up2_at (by omega), up2_at (by omega), up2_at (by omega), up2_at (by omega), up2_at (by omega), up2_at (by omega), O.h8] at h2
    subst h2
    rw [up2_same] at h3
    subst h3
    rw [nI_1, nI_pred]
    exact h hlt (b01_0.mp c6)
theorem Ok.ask {σ : MS} {P B W T : Nat} {b d t s l g : Int32} (O : Ok σ P B W T) (hb : ∃ k, k < B ∧ b = nI k) (ht : ∃ k, k < 6 ∧ t = nI k) (ok : askOk σ d s l g) (hW : W < 14) : Ok (askS σ W b d t s l g) P B (W + 1) T := by
  have hB := O.hB
  have hb6 : vp_in b 6 := by
    obtain ⟨k, hk, rfl⟩ := hb
    exact vp_in_nI (by omega) (by decide)
  have ht6 : vp_in t 6 := by
    obtain ⟨k, hk, rfl⟩ := ht
    exact vp_in_nI hk (by decide)
  have hd : vp_in d 366 := by
    have h0 : ¬ d < 0 := fun q => ok.1 (by rw [O.h9]; exact Int32.lt_of_lt_of_le q (nI_pos' (by have := O.hT; omega)))
    obtain ⟨k, hk, rfl⟩ := nI_of h0
    have := (nI_leI hk (by decide)).mp (show nI k ≤ nI 365 from Int32.not_lt.mp ok.2.1)
    exact vp_in_nI (by omega) (by decide)
  have ne : ∀ k j, (k ≠ 0 ∨ j ≠ 8) → (k ≠ 73 + W ∨ 7 ≤ j) → askS σ W b d t s l g k j = σ k j := fun k j h1 h2 => by
    unfold askS
    rw [up2_at h1, up2_at (by omega), up2_at (by omega), up2_at (by omega), up2_at (by omega), up2_at (by omega), up2_at (by omega), up2_at (by omega)]
  refine ⟨(ne 0 6 (by omega) (by omega)).trans O.h6, O.hP, (ne 0 7 (by omega) (by omega)).trans O.h7, O.hB, up2_same, by omega, (ne 0 9 (by omega) (by omega)).trans O.h9, O.hT, fun p hp => ?_, fun w hw => ?_, fun w hw => ?_, fun w hw => ?_, fun b hb => ?_, fun b j hb hj => ?_⟩
  · rw [ne (29 + p) 2 (by omega) (by omega)]; exact O.home p hp
  · by_cases q : w = W
    · subst q
      have e : askS σ w b d t s l g (73 + w) 0 = b := by
        unfold askS
        rw [up2_at (by omega), up2_at (by omega), up2_at (by omega), up2_at (by omega), up2_at (by omega), up2_at (by omega), up2_at (by omega), up2_same]
      rw [e]; exact hb6
    · rw [ne (73 + w) 0 (by omega) (by omega)]; exact O.band w hw
  · by_cases q : w = W
    · subst q
      have e : askS σ w b d t s l g (73 + w) 1 = d := by
        unfold askS
        rw [up2_at (by omega), up2_at (by omega), up2_at (by omega), up2_at (by omega), up2_at (by omega), up2_at (by omega), up2_same]
      rw [e]; exact hd
    · rw [ne (73 + w) 1 (by omega) (by omega)]; exact O.day w hw
  · by_cases q : w = W
    · subst q
      have e : askS σ w b d t s l g (73 + w) 2 = t := by
        unfold askS
        rw [up2_at (by omega), up2_at (by omega), up2_at (by omega), up2_at (by omega), up2_at (by omega), up2_same]
      rw [e]; exact ht6
    · rw [ne (73 + w) 2 (by omega) (by omega)]; exact O.town w hw
  · rw [ne (55 + b) 2 (by omega) (by omega)]; exact O.size b hb
  · rw [ne (67 + b) j (by omega) (by omega)]; exact O.place b j hb hj
/-- those hit by an illness, of the first n, get the players on stage -/
def illS (σ : MS) (p : Nat) (day : Int32) : Nat → MS
  | 0 => σ
  | n + 1 => if illS σ p day n (73 + n) 1 = day ∧ fxw (illS σ p day n) n p = true then putF (illS σ p day n) n (illS σ p day n 7 n) else illS σ p day n
theorem Ok.ill {σ : MS} {P B W T p : Nat} {day : Int32} (O : Ok σ P B W T) : ∀ n, n ≤ 14 → Ok (illS σ p day n) P B W T
  | 0, _ => O
  | n + 1, h => by
    unfold illS
    split
    · exact (O.ill n (by omega)).put (by omega)
    · exact O.ill n (by omega)
/-- the state before those hit are served: filled anew on stage, the day off written down -/
def offS (σ : MS) (P W p d : Nat) : MS := up2 (swS σ P W p (nI d) W).1 6 d ((swS σ P W p (nI d) W).1 6 d ||| one p)
theorem Ok.off {σ : MS} {P B W T p d : Nat} (O : Ok σ P B W T) : Ok (offS σ P W p d) P B W T := (O.scr (Scr.sw σ P W p (nI d) W)).up (by unfold okPl; omega)
theorem law_T_ill {post : Int32 → MS → Prop} {pex : String → MS → Prop} {σ : MS} {P B W T : Nat} {a b : Int32} (O : Ok σ P B W T)
    (hx : (∀ p, p < P → a ≠ nI p) → pex xIO σ)
    (hq : ∀ p, p < P → a = nI p → (∀ d, T ≤ d → d ≤ 365 → b ≠ nI d) → pex xIA σ)
    (h : ∀ p d, p < P → T ≤ d → d ≤ 365 → a = nI p → b = nI d → post (swS σ P W p (nI d) W).2 (illS (offS σ P W p d) p (nI d) W)) : w_T_X7_ill post pex σ a b := by
  have hP := O.hP
  have hW := O.hW
  unfold w_T_X7_ill
  refine law_T_checkPlayer O (fun p hp e => law_T_checkDayToCome O (fun d hd1 hd2 e2 => ?_) (fun z => hq p hp e z)) hx
  have hh := h p d hp hd1 hd2 e e2
  subst e
  subst e2
  refine law_stageWithout O (by omega) ⟨vp_in_nI (by omega) (by decide), vp_in_nI (by omega) (by decide), ?_⟩
  rw [nI_clamp (by omega)]
  have O2 : Ok (offS σ P W p d) P B W T := O.off
  show ∃ k, u_T_X7_ill_32 post pex (nI p) (nI d) k (offS σ P W p d) (swS σ P W p (nI d) W).2 0
  generalize (swS σ P W p (nI d) W).2 = r at hh ⊢
  generalize offS σ P W p d = z at hh O2 ⊢
  have hl := up_loop (fun k (q : MS × Int32) => u_T_X7_ill_32 post pex (nI p) (nI d) k q.1 r q.2) (fun i => (illS z p (nI d) i, nI i)) W ?_ (fun i k hi hk => ?_)
  · exact hl
  · show u_T_X7_ill_32 post pex (nI p) (nI d) 1 (illS z p (nI d) W) r (nI W)
    rw [u_T_X7_ill_32, (O2.ill W hW).h8]
    exact ⟨fun _ => hh, fun c => absurd (le_self _) c⟩
  · show u_T_X7_ill_32 post pex (nI p) (nI d) (k + 1) (illS z p (nI d) i) r (nI i)
    have hk : u_T_X7_ill_32 post pex (nI p) (nI d) k (illS z p (nI d) (i + 1)) r (nI (i + 1)) := hk
    unfold illS at hk
    have Oi := O2.ill (p := p) (day := nI d) i (by omega)
    generalize illS z p (nI d) i = y at hk Oi ⊢
    have v : vp_in (nI i) 14 := vp_in_nI (by omega) (by decide)
    rw [u_T_X7_ill_32, Oi.h8, nI_1, nI_clamp (by omega)]
    refine ⟨fun c => absurd c (nI_ge hi (by omega)), fun _ => ⟨v, fun c => law_isFixedWith (by omega) ⟨fun g => ?_, fun g => ⟨v, law_putOnStage ?_⟩⟩, fun c => ?_⟩⟩
    · rw [if_neg (fun q => by rw [b01_0.mp g] at q; exact Bool.false_ne_true q.2)] at hk
      exact hk
    · rw [if_pos ⟨c, b01_1.mp g⟩] at hk
      exact hk
    · rw [if_neg (fun q => c q.1)] at hk
      exact hk
