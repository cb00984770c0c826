section
/-! ILLNESS, ON BOTH SIDES -/
/-- lost, as the reference reckons -/
def lsW (y : MS) (w : Nat) : MS := up2 (up2 (up2 y (73 + w) 7 3) 0 10 (y 0 10 - (y (73 + w) 11 + y (73 + w) 9 / 10))) (73 + w) 11 (-(y (73 + w) 9 / 10))
/-- the first n weddings filled anew, in place; how many are lost -/
def ilR (x : MS) (P W p : Nat) (day : Int32) : Nat → MS × Int32
  | 0 => (x, 0)
  | n + 1 =>
    let y := (ilR x P W p day n).1
    if y (73 + n) 7 = 1 ∧ y (73 + n) 1 = day ∧ bt (y (73 + n) 8) p = true then
      (if bR y n P (freeF (stg y W) n W P) (y (73 + n) 8) (2 ^ P - 1) = -1 then (lsW y n, (ilR x P W p day n).2 + 1) else (up2 y (73 + n) 8 (bR y n P (freeF (stg y W) n W P) (y (73 + n) 8) (2 ^ P - 1)), (ilR x P W p day n).2))
    else ilR x P W p day n
/-- what fillings look at: players, roads, bands, what was told of weddings -/
def flc (k j : Nat) : Prop := (17 ≤ k ∧ k < 29) ∨ (29 ≤ k ∧ k < 39 ∧ j ≤ 4) ∨ (55 ≤ k ∧ k < 73) ∨ (73 ≤ k ∧ k < 87 ∧ j ≤ 6)
def Fl (x y : MS) : Prop := ∀ k j, flc k j → y k j = x k j
section ILLB
variable {x y z : MS} {Γ : RG} {σ τ ρ : MS} {a a0 a1 a2 a3 a4 b : Int32} {w P W : Nat}
theorem Fl.rf : Fl x x := fun _ _ _ => rfl
theorem Fl.tr (h : Fl x y) (g : Fl y z) : Fl x z := fun k j hk => (g k j hk).trans (h k j hk)
theorem Fl.sy (h : Fl x y) : Fl y x := fun k j hk => (h k j hk).symm
theorem Fl.up {k j : Nat} {v : Int32} (h : ¬ flc k j) : Fl x (up2 x k j v) := fun k' j' hk => up2_off (fun z => h (by obtain ⟨rfl, rfl⟩ := z; exact hk))
theorem Fl.scr (h : Scr x y) : Fl x y := fun k j hk => by rw [h k (by unfold flc at hk; omega)]
theorem feudB_fl {s : Int32} (h : Fl x y) : ∀ n, n ≤ 10 → feudB y s n = feudB x s n
  | 0, _ => rfl
  | n + 1, hn => by
    unfold feudB
    rw [feudB_fl h n (by omega), h (29 + n) 4 (by unfold flc; omega)]
theorem kn_fl {s : Int32} (h : Fl x y) : ∀ n, n ≤ 10 → kn y s n = kn x s n
  | 0, _ => rfl
  | n + 1, hn => by
    unfold kn
    rw [kn_fl h n (by omega), h (29 + n) 1 (by unfold flc; omega)]
theorem playF_fl {s : Int32} (h : Fl x y) (hP : P ≤ 10) : playF y s P = playF x s P := by
  unfold playF
  rw [kn_fl h P hP]
theorem costsF_fl {s : Int32} {n : Nat} (h : Fl x y) (hw : w < 14) (hn : n ≤ 10) (hh : ∀ p, p < n → ∃ t, t < 6 ∧ x (29 + p) 2 = nI t) : costsF y s w n = costsF x s w n := by
  unfold costsF
  refine sumI_congr (fun p hp => ?_)
  obtain ⟨t, ht, e⟩ := hh p hp
  show (if bt s p = true then costF y p w else 0) = (if bt s p = true then costF x p w else 0)
  have : costF y p w = costF x p w := by
    unfold costF wayF
    rw [h (29 + p) 2 (by unfold flc; omega), h (29 + p) 3 (by unfold flc; omega), h (73 + w) 2 (by unfold flc; omega), h (73 + w) 4 (by unfold flc; omega), e, nI_clamp (by omega), h (23 + t) _ (by unfold flc; omega)]
  rw [this]
/-- the band of the wedding is one, of five places at most -/
def Bz (x : MS) (w : Nat) : Prop := bdOf x w < 6 ∧ ∃ sz, sz ≤ 5 ∧ x (55 + bdOf x w) 2 = nI sz
theorem stB_fl {s : Nat} (h : Fl x y) (hw : w < 14) (hP : P ≤ 10) (B : Bz x w) (hs : s < 2 ^ P) : stB y w P s = stB x w P s := by
  obtain ⟨hb, sz, hz, es⟩ := B
  have eb : bdOf y w = bdOf x w := by
    unfold bdOf
    rw [h (73 + w) 0 (by unfold flc; omega)]
  have es2 : y (55 + bdOf y w) 2 = nI sz := by rw [eb, h (55 + bdOf x w) 2 (by unfold flc; omega)]; exact es
  have h1 := stB_can (x := x) (w := w) (s := s) hP hz es hs
  have h2 := stB_can (x := y) (w := w) (s := s) hP hz es2 hs
  have ep : plcs y (bdOf y w) sz = plcs x (bdOf x w) sz := by
    unfold plcs
    rw [eb, show pl y (bdOf x w) = pl x (bdOf x w) from funext fun j => by unfold pl; rw [h (67 + bdOf x w) j (by unfold flc; omega)]]
  rw [ep] at h2
  have hc : can (inst y) P (plcs x (bdOf x w) sz) (fun q => bt (nI s) q = true) ↔ can (inst x) P (plcs x (bdOf x w) sz) (fun q => bt (nI s) q = true) := can_ci _ (fun p i hp => by
    unfold inst
    rw [h (29 + p) 0 (by unfold flc; omega)])
  rw [hc, ← h1] at h2
  exact Bool.eq_iff_iff.mpr h2
theorem filB_fl {s : Nat} (h : Fl x y) (hw : w < 14) (hP : P ≤ 10) (B : Bz x w) (hs : s < 2 ^ P) : filB y w P s = filB x w P s := by
  unfold filB knB
  rw [stB_fl h hw hP B hs, playF_fl h hP, feudB_fl h P hP, h (73 + w) 5 (by unfold flc; omega)]
theorem bR_fl {free had : Int32} (h : Fl x y) (hw : w < 14) (hP : P ≤ 10) (B : Bz x w) (hh : ∀ p, p < P → ∃ t, t < 6 ∧ x (29 + p) 2 = nI t) : ∀ n, n < 2 ^ P → bR y w P free had n = bR x w P free had n
  | 0, _ => rfl
  | n + 1, hn => by
    unfold bR
    rw [bR_fl h hw hP B hh n (by omega), filB_fl h hw hP B hn]
    have e : btr y w P had (nI (n + 1)) (bR x w P free had n) = btr x w P had (nI (n + 1)) (bR x w P free had n) := by
      unfold btr
      rw [costsF_fl h hw hP hh, costsF_fl h hw hP hh]
    rw [e]
theorem cR_fl {free : Int32} (h : Fl x y) (hw : w < 14) (hP : P ≤ 10) (B : Bz x w) : ∀ n, n < 2 ^ P → cR y w P free n = cR x w P free n
  | 0, _ => rfl
  | n + 1, hn => by
    unfold cR
    rw [cR_fl h hw hP B n (by omega), filB_fl h hw hP B hn]
/-- who is free, where the stages are one and the days off differ by one player, who is off in y -/
theorem okUp_fl {q : Nat} (h : Fl x y) (hW : W ≤ 14) (hw : w < 14) (hh : ∀ v, v < 14 → ∃ t, t < 6 ∧ x (73 + v) 2 = nI t) (h7 : ∀ j, j < W → y 7 j = x 7 j) : ∀ n, n ≤ W → okUp y q w n = okUp x q w n
  | 0, _ => rfl
  | n + 1, hn => by
    have hl : ∀ e l, e < 14 → l < 14 → lv2 y e l = lv2 x e l := fun e l he hl => by
      obtain ⟨t, ht, et⟩ := hh e he
      unfold lv2 wayF
      rw [h (73 + e) 2 (by unfold flc; omega), h (73 + l) 2 (by unfold flc; omega), h (73 + e) 3 (by unfold flc; omega), h (73 + l) 3 (by unfold flc; omega), h (73 + e) 4 (by unfold flc; omega), et, nI_clamp (by omega), h (23 + t) _ (by unfold flc; omega)]
    have hle : ∀ e l, e < 14 → l < 14 → leaveB y e l = leaveB x e l := fun e l he hl' => by
      unfold leaveB
      rw [hl e l he hl', hl l e hl' he, h (73 + e) 3 (by unfold flc; omega), h (73 + l) 3 (by unfold flc; omega)]
    unfold okUp
    rw [okUp_fl h hW hw hh h7 n (by omega), hle _ _ (by split <;> omega) (by split <;> omega)]
    unfold othB
    rw [h7 n (by omega), h (73 + n) 1 (by unfold flc; omega), h (73 + w) 1 (by unfold flc; omega)]
theorem freeB_fl {q : Nat} (h : Fl x y) (hW : W ≤ 14) (hw : w < 14) (hq : q < 10) (hh : ∀ v, v < 14 → ∃ t, t < 6 ∧ x (73 + v) 2 = nI t) (hq2 : ∃ t, t < 6 ∧ x (29 + q) 2 = nI t) (h7 : ∀ j, j < W → y 7 j = x 7 j) (h6 : ∀ d, bt (y 6 d) q = bt (x 6 d) q) : freeB y q w W = freeB x q w W := by
  obtain ⟨t, ht, et⟩ := hq2
  unfold freeB wayF
  rw [okUp_fl h hW hw hh h7 W (Nat.le_refl _), h6, h (73 + w) 1 (by unfold flc; omega), h (73 + w) 2 (by unfold flc; omega), h (29 + q) 2 (by unfold flc; omega), et, nI_clamp (by omega), h (23 + t) _ (by unfold flc; omega)]
theorem orI_bt {f : Nat → Bool} {i : Nat} (hi : i < 32) : ∀ n, n ≤ 32 → bt (orI (fun p => if f p = true then one p else 0) n) i = (decide (i < n) && f i)
  | 0, _ => by
    show bt 0 i = _
    rw [b_0, decide_eq_false (by omega)]
    rfl
  | n + 1, hn => by
    show bt (orI (fun p => if f p = true then one p else 0) n ||| (if f n = true then one n else 0)) i = _
    rw [b_or, orI_bt hi n (by omega)]
    by_cases e : i = n
    · subst e
      rw [decide_eq_false (show ¬ i < i by omega), decide_eq_true (show i < i + 1 by omega), Bool.false_and, Bool.false_or, Bool.true_and]
      cases q : f i with
      | true => rw [if_pos rfl, b_one (by omega) hi, decide_eq_true rfl]
      | false => rw [if_neg Bool.false_ne_true, b_0]
    · have h2 : bt (if f n = true then one n else 0) i = false := by
        split
        · rw [b_one (by omega) hi, decide_eq_false e]
        · exact b_0 i
      rw [h2, Bool.or_false]
      congr 1
      rw [decide_eq_decide]
      omega
theorem freeF_bt {i n : Nat} (hi : i < 32) (hn : n ≤ 10) : bt (freeF x w W n) i = (decide (i < n) && freeB x i w W) := orI_bt hi n (by omega)
/-- the day off told first, or masked out -/
theorem freeF_fl {p d : Nat} (h : Fl x y) (hP : P ≤ 10) (hW : W ≤ 14) (hw : w < 14) (hp : p < P) (hd : x (73 + w) 1 = nI d) (hd2 : d < 366) (hh : ∀ v, v < 14 → ∃ t, t < 6 ∧ x (73 + v) 2 = nI t) (hq2 : ∀ q, q < 10 → ∃ t, t < 6 ∧ x (29 + q) 2 = nI t) (h7 : ∀ j, j < W → y 7 j = x 7 j) (h6 : ∀ q, q < 32 → q ≠ p → ∀ d, bt (y 6 d) q = bt (x 6 d) q) (h6p : bt (y 6 d) p = true) : freeF y w W P = freeF x w W P &&& (one p ^^^ (-1)) := b_ext fun i hi => by
  rw [b_and, freeF_bt hi hP, freeF_bt hi hP, b_cmp hi, b_one (by omega) hi]
  by_cases e : i = p
  · subst e
    have : freeB y i w W = false := by
      unfold freeB
      rw [h (73 + w) 1 (by unfold flc; omega), hd, nI_clamp (by omega), h6p]
      rfl
    rw [this, decide_eq_true rfl, Bool.and_false, Bool.not_true, Bool.and_false]
  · rw [decide_eq_false e, Bool.not_false, Bool.and_true]
    by_cases g : i < P
    · rw [freeB_fl h hW hw (by omega) hh (hq2 i (by omega)) h7 (h6 i hi e)]
    · rw [decide_eq_false g, Bool.false_and, Bool.false_and]
/-- what the reference's walk leaves alone -/
theorem ilR_k {p : Nat} {day : Int32} {k j : Nat} (h : ¬ (73 ≤ k ∧ (j = 7 ∨ j = 8 ∨ j = 11)) ∧ ¬ (k = 0 ∧ j = 10)) : ∀ n, (ilR x P W p day n).1 k j = x k j
  | 0 => rfl
  | n + 1 => by
    have ih := ilR_k (p := p) (day := day) h n
    unfold ilR
    dsimp only
    split
    · split
      · dsimp only
        unfold lsW
        rw [up2_off (by omega), up2_off (by omega), up2_off (by omega)]
        exact ih
      · dsimp only
        rw [up2_off (by omega)]
        exact ih
    · exact ih
theorem ilR_m {p : Nat} {day : Int32} {m j : Nat} : ∀ n, n ≤ m → (ilR x P W p day n).1 (73 + m) j = x (73 + m) j
  | 0, _ => rfl
  | n + 1, hn => by
    have ih := ilR_m (p := p) (day := day) (m := m) (j := j) n (by omega)
    unfold ilR
    dsimp only
    split
    · split
      · dsimp only
        unfold lsW
        rw [up2_off (by omega), up2_off (by omega), up2_off (by omega)]
        exact ih
      · dsimp only
        rw [up2_off (by omega)]
        exact ih
    · exact ih
end ILLB
section ILLC
variable {x y z : MS} {Γ : RG} {σ τ ρ : MS} {a a0 a1 a2 a3 a4 b : Int32} {w P B W T : Nat}
theorem Sy.fl (h : Fl x y) (Y : Sy x) : Sy y := fun a b ha hb => by
  rw [h (23 + a) b (by unfold flc; omega), h (23 + b) a (by unfold flc; omega)]
  exact Y a b ha hb
theorem Gs.fl (h : Fl x y) (G : Gs x) : Gs y := fun w hw => by
  rw [h (73 + w) 5 (by unfold flc; omega)]
  exact G w hw
theorem Sh.fl (h : Fl x y) (hB : Γ.2.1 ≤ 6) (S : Sh x Γ) : Sh y Γ := fun b hb => by
  obtain ⟨m, sz, m1, m2, e1, z1, e2, e3, e4, e5⟩ := S b hb
  refine ⟨m, sz, m1, m2, e1, z1, e2, by rw [h (55 + b) 2 (by unfold flc; omega)]; exact e3, ?_, fun k hk => by rw [h (61 + b) k (by unfold flc; omega)]; exact e5 k hk⟩
  rw [← e4]
  unfold plcs
  rw [show pl y b = pl x b from funext fun j => by unfold pl; rw [h (67 + b) j (by unfold flc; omega)]]
theorem surv_no {free had : Int32} (hP : P ≤ 10) : survF x w P free had 9 3 = 0 ↔ bR x w P free had (2 ^ P - 1) = -1 := by
  obtain ⟨p1, p2⟩ := pw1024 hP
  have h := (surv_is (x := x) (w := w) (free := free) (had := had) hP).2.1
  dsimp only at h
  rw [h, bR_none _ (by omega), ← cR_none]
  have := cR_le (x := x) (w := w) (P := P) (free := free) (2 ^ P - 1)
  constructor
  · intro h; exact (nI_eq (by omega) (by decide)).mp (h.trans nI_0.symm)
  · intro h; rw [h]; exact nI_0
theorem surv_0 {free had : Int32} (hP : P ≤ 10) : survF x w P free had 9 0 = bR x w P free had (2 ^ P - 1) := (surv_is (x := x) (w := w) (free := free) (had := had) hP).1
theorem surv_7 {free had : Int32} : survF x w P free had 7 = x 7 := by
  unfold survF svAll
  rw [up2_ne (by decide), sv_7]
  unfold svIn
  rw [sat_7]
  exact clear_7 _
/-- what an agency's numbers say for fillings -/
theorem Ok.bz (O : Ok x P B W T) (hw : w < 14) : Bz x w := ⟨O.bd hw, by
  obtain ⟨s, h1, h2⟩ := O.size (bdOf x w) (O.bd hw)
  exact ⟨s, h1, h2⟩⟩
theorem vp_ex {v : Int32} {n : Nat} (hn : n < 2 ^ 31) (h : vp_in v n) : ∃ t, t < n ∧ v = nI t := by
  have h0 : ¬ v < 0 := fun q => h (Or.inl q)
  obtain ⟨t, ht, rfl⟩ := nI_of h0
  have := vlt h
  rw [nI_clamp ht] at this
  exact ⟨t, this, rfl⟩
theorem Ok.hom (O : Ok x P B W T) {p : Nat} (hp : p < 10) : ∃ t, t < 6 ∧ x (29 + p) 2 = nI t := vp_ex (by decide) (O.home p hp)
theorem Ok.twn (O : Ok x P B W T) {v : Nat} (hv : v < 14) : ∃ t, t < 6 ∧ x (73 + v) 2 = nI t := vp_ex (by decide) (O.town v hv)
theorem Ok.dy (O : Ok x P B W T) {v : Nat} (hv : v < 14) : ∃ t, t < 366 ∧ x (73 + v) 1 = nI t := vp_ex (by decide) (O.day v hv)
/-- the class's stages are the reference's weddings as its walk has them -/
theorem il_sync {p d : Nat} (O : Ok x P B W T) (hp : p < P) (hd : d < 366) : ∀ n, n ≤ W →
    (∀ j, j < W → (swS x P W p (nI d) n).1 7 j = if (ilR (up2 x 6 d (x 6 d ||| one p)) P W p (nI d) n).1 (73 + j) 7 = 1 then (ilR (up2 x 6 d (x 6 d ||| one p)) P W p (nI d) n).1 (73 + j) 8 else 0) ∧ (swS x P W p (nI d) n).2 = (ilR (up2 x 6 d (x 6 d ||| one p)) P W p (nI d) n).2
  | 0, _ => ⟨fun j hj => by
      show stg x W 7 j = if up2 x 6 d (x 6 d ||| one p) (73 + j) 7 = 1 then up2 x 6 d (x 6 d ||| one p) (73 + j) 8 else 0
      rw [stg_at hj, up2_off (by omega), up2_off (by omega)], rfl⟩
  | n + 1, hn => by
    have hW := O.hW
    have hP := O.hP
    obtain ⟨p1, p2⟩ := pw1024 hP
    obtain ⟨i1, i2⟩ := il_sync O hp hd n (by omega)
    have hs := Scr.sw x P W p (nI d) n
    have hm : ∀ j, (ilR (up2 x 6 d (x 6 d ||| one p)) P W p (nI d) n).1 (73 + n) j = x (73 + n) j := fun j => (ilR_m n (Nat.le_refl n)).trans (up2_off (by omega))
    have hk : ∀ k j, ¬ (73 ≤ k ∧ (j = 7 ∨ j = 8 ∨ j = 11)) ∧ ¬ (k = 0 ∧ j = 10) → (ilR (up2 x 6 d (x 6 d ||| one p)) P W p (nI d) n).1 k j = up2 x 6 d (x 6 d ||| one p) k j := fun k j h => ilR_k h n
    unfold swS ilR
    dsimp only
    generalize swS x P W p (nI d) n = Z at i1 i2 hs ⊢
    generalize ilR (up2 x 6 d (x 6 d ||| one p)) P W p (nI d) n = Y at i1 i2 hm hk ⊢
    have f1 : Fl Z.1 Y.1 := (Fl.scr hs).sy.tr (fun k j hf => by
      rw [hk k j (by unfold flc at hf; omega), up2_off (by unfold flc at hf; omega)])
    have hcond : (Z.1 (73 + n) 1 = nI d ∧ bt (Z.1 7 n) p = true) ↔ (Y.1 (73 + n) 7 = 1 ∧ Y.1 (73 + n) 1 = nI d ∧ bt (Y.1 (73 + n) 8) p = true) := by
      rw [i1 n (by omega), hs.c73, hm 1]
      by_cases c : Y.1 (73 + n) 7 = 1
      · rw [if_pos c]
        exact ⟨fun q => ⟨c, q⟩, fun q => q.2⟩
      · rw [if_neg c, b_0]
        exact ⟨fun q => absurd q.2 Bool.false_ne_true, fun q => absurd q.1 c⟩
    by_cases c : Y.1 (73 + n) 7 = 1 ∧ Y.1 (73 + n) 1 = nI d ∧ bt (Y.1 (73 + n) 8) p = true
    · rw [if_pos (hcond.mpr c), if_pos c]
      have hst : Z.1 7 n = Y.1 (73 + n) 8 := by rw [i1 n (by omega), if_pos c.1]
      have f2 : Fl Z.1 (stg Y.1 W) := f1.tr (Fl.scr (Scr.stg Y.1 W))
      have hfr : freeF (stg Y.1 W) n W P = freeF Z.1 n W P &&& (one p ^^^ (-1)) := by
        refine freeF_fl (d := d) f2 hP hW (by omega) hp (by rw [hs.c73, ← hm 1]; exact c.2.1) hd (fun v hv => by rw [hs.c73]; exact O.twn hv) (fun q hq => by rw [hs.c29]; exact O.hom hq) (fun j hj => by rw [stg_at hj, i1 j hj]) (fun q hq hne e => ?_) ?_
        · rw [stg_k (by decide), hk 6 e (by omega), hs.c6]
          by_cases z : e = d
          · subst z
            rw [up2_same, b_or, b_one (by omega) hq, decide_eq_false hne, Bool.or_false]
          · rw [up2_off (by omega)]
        · rw [stg_k (by decide), hk 6 d (by omega), up2_same, b_or, b_one (by omega) (by omega), decide_eq_true rfl, Bool.or_true]
      have hb : bR Y.1 n P (freeF (stg Y.1 W) n W P) (Y.1 (73 + n) 8) (2 ^ P - 1) = bR Z.1 n P (freeF Z.1 n W P &&& (one p ^^^ (-1))) (Z.1 7 n) (2 ^ P - 1) := by
        rw [hfr, hst]
        refine bR_fl f1 (by omega) hP ⟨by rw [bdOf_sc hs]; exact O.bd (by omega), ?_⟩ (fun q hq => by rw [hs.c29]; exact O.hom (by omega)) _ (by omega)
        obtain ⟨sz, s1, s2⟩ := (O.bz (w := n) (by omega)).2
        exact ⟨sz, s1, by rw [bdOf_sc hs, hs.c55]; exact s2⟩
      rw [hb]
      have v0 := surv_0 (x := Z.1) (w := n) (free := freeF Z.1 n W P &&& (one p ^^^ (-1))) (had := Z.1 7 n) hP
      have vn := surv_no (x := Z.1) (w := n) (free := freeF Z.1 n W P &&& (one p ^^^ (-1))) (had := Z.1 7 n) hP
      have v7 := surv_7 (x := Z.1) (w := n) (P := P) (free := freeF Z.1 n W P &&& (one p ^^^ (-1))) (had := Z.1 7 n)
      generalize survF Z.1 n P (freeF Z.1 n W P &&& (one p ^^^ (-1))) (Z.1 7 n) = V at v0 vn v7 ⊢
      generalize bR Z.1 n P (freeF Z.1 n W P &&& (one p ^^^ (-1))) (Z.1 7 n) (2 ^ P - 1) = bb at v0 vn ⊢
      by_cases e : bb = -1
      · rw [if_pos e, if_pos (vn.mpr e), if_pos (vn.mpr e)]
        refine ⟨fun j hj => ?_, by show Z.2 + 1 = Y.2 + 1; rw [i2]⟩
        show up2 V 7 n 0 7 j = if lsW Y.1 n (73 + j) 7 = 1 then lsW Y.1 n (73 + j) 8 else 0
        unfold lsW
        rw [up2_off (k := 73 + n) (j := 11) (by omega), up2_off (k := 73 + n) (j := 11) (by omega), up2_off (k := 0) (j := 10) (by omega), up2_off (k := 0) (j := 10) (by omega), up2_off (k := 73 + n) (j := 7) (k' := 73 + j) (j' := 8) (by omega)]
        by_cases g : j = n
        · subst g
          rw [up2_same, up2_same, if_neg (by decide)]
        · rw [up2_off (by omega), up2_off (by omega), v7]
          exact i1 j hj
      · rw [if_neg e, if_neg (fun q => e (vn.mp q)), if_neg (fun q => e (vn.mp q)), v0]
        refine ⟨fun j hj => ?_, by show Z.2 + 0 = Y.2; rw [i2, Int32.add_zero]⟩
        show up2 V 7 n bb 7 j = if up2 Y.1 (73 + n) 8 bb (73 + j) 7 = 1 then up2 Y.1 (73 + n) 8 bb (73 + j) 8 else 0
        rw [up2_off (k := 73 + n) (j := 8) (j' := 7) (by omega)]
        by_cases g : j = n
        · subst g
          rw [up2_same, up2_same, if_pos c.1]
        · rw [up2_off (by omega), up2_off (by omega), v7]
          exact i1 j hj
    · rw [if_neg (fun q => c (hcond.mp q)), if_neg c]
      exact ⟨i1, i2⟩
theorem sw_stay {p : Nat} {day : Int32} {j : Nat} : ∀ n m, j < n → n ≤ m → (swS x P W p day m).1 7 j = (swS x P W p day n).1 7 j
  | n, 0, h, h2 => absurd h2 (by omega)
  | n, m + 1, h, h2 => by
    by_cases e : n = m + 1
    · rw [e]
    · have ih := sw_stay (p := p) (day := day) n m h (by omega)
      rw [← ih]
      conv => lhs; unfold swS
      dsimp only
      generalize swS x P W p day m = Z
      split
      · dsimp only
        rw [up2_off (by omega), surv_7]
      · rfl
/-- what the class's illness leaves is what the reference's leaves -/
theorem il_one {p d : Nat} (O : Ok x P B W T) (hp : p < P) (hd : d < 366) (PF : ∀ w, w < 14 → x (73 + w) 7 = 1 → x (73 + w) 11 = x (73 + w) 9 / 5) : ∀ n, n ≤ W → ∀ a b, seen a b → illS (offS x P W p d) p (nI d) n a b = (ilR (up2 x 6 d (x 6 d ||| one p)) P W p (nI d) n).1 a b
  | 0, _, a, b, hs => by
    have hsc := Scr.sw x P W p (nI d) W
    show offS x P W p d a b = up2 x 6 d (x 6 d ||| one p) a b
    unfold offS
    rw [hsc.c6]
    by_cases z : a = 6 ∧ b = d
    · obtain ⟨rfl, rfl⟩ := z; rw [up2_same, up2_same]
    · rw [up2_off z, up2_off z, hsc a (by unfold seen at hs; omega)]
  | n + 1, hn, a, b, hs => by
    have hW := O.hW
    have hP := O.hP
    obtain ⟨p1, p2⟩ := pw1024 hP
    have ih := il_one O hp hd PF n (by omega)
    have em := illS_m (z := offS x P W p d) (p := p) (day := nI d) n n (Nat.le_refl n) (by omega)
    have e7 := illS_7 (σ := offS x P W p d) (p := p) (day := nI d) n
    have hsc := Scr.sw x P W p (nI d) W
    have eo : ∀ j, offS x P W p d (73 + n) j = x (73 + n) j := fun j => by
      unfold offS
      rw [up2_off (by omega), hsc.c73]
    have eo7 : offS x P W p d 7 n = (swS x P W p (nI d) (n + 1)).1 7 n := by
      unfold offS
      rw [up2_off (by omega)]
      exact sw_stay (n + 1) W (by omega) hn
    have sy := (il_sync O hp hd (n + 1) hn).1 n (by omega)
    rw [← eo7] at sy
    have hm : ∀ j, (ilR (up2 x 6 d (x 6 d ||| one p)) P W p (nI d) n).1 (73 + n) j = x (73 + n) j := fun j => (ilR_m n (Nat.le_refl n)).trans (up2_off (by omega))
    have hbr := bR_rg (x := (ilR (up2 x 6 d (x 6 d ||| one p)) P W p (nI d) n).1) (w := n) (P := P) (free := freeF (stg (ilR (up2 x 6 d (x 6 d ||| one p)) P W p (nI d) n).1 W) n W P) (had := (ilR (up2 x 6 d (x 6 d ||| one p)) P W p (nI d) n).1 (73 + n) 8) (2 ^ P - 1) (by omega)
    unfold illS
    unfold ilR at sy ⊢
    dsimp only at sy ⊢
    rw [e7]
    generalize offS x P W p d 7 n = vv at sy ⊢
    have c1 := ih (73 + n) 1 (by unfold seen; omega)
    have c7 := ih (73 + n) 7 (by unfold seen; omega)
    have c8 := ih (73 + n) 8 (by unfold seen; omega)
    have c9 := ih (73 + n) 9 (by unfold seen; omega)
    have c11 := ih (73 + n) 11 (by unfold seen; omega)
    have c10 := ih 0 10 (by unfold seen; omega)
    have cab := ih a b hs
    generalize illS (offS x P W p d) p (nI d) n = u at c1 c7 c8 c9 c11 c10 cab em ⊢
    generalize ilR (up2 x 6 d (x 6 d ||| one p)) P W p (nI d) n = Y at c1 c7 c8 c9 c11 c10 cab hm hbr sy ⊢
    have hcond : (u (73 + n) 1 = nI d ∧ fxw u n p = true) ↔ (Y.1 (73 + n) 7 = 1 ∧ Y.1 (73 + n) 1 = nI d ∧ bt (Y.1 (73 + n) 8) p = true) := by
      unfold fxw
      rw [c1, c7, c8, Bool.and_eq_true, decide_eq_true_iff]
      exact ⟨fun q => ⟨q.2.1, q.1, q.2.2⟩, fun q => ⟨q.2.1, q.1, q.2.2⟩⟩
    by_cases c : Y.1 (73 + n) 7 = 1 ∧ Y.1 (73 + n) 1 = nI d ∧ bt (Y.1 (73 + n) 8) p = true
    · rw [if_pos (hcond.mpr c), if_pos c]
      rw [if_pos c] at sy
      generalize bR Y.1 n P (freeF (stg Y.1 W) n W P) (Y.1 (73 + n) 8) (2 ^ P - 1) = bb at hbr sy ⊢
      by_cases e : bb = -1
      · rw [if_pos e] at sy ⊢
        have v0 : vv = 0 := by
          rw [sy]
          show (if lsW Y.1 n (73 + n) 7 = 1 then _ else _) = _
          have : lsW Y.1 n (73 + n) 7 = 3 := by
            unfold lsW
            rw [up2_off (by omega), up2_off (by omega), up2_same]
          rw [this]
          exact if_neg (by decide)
        unfold putF paidF
        rw [if_pos v0]
        show _ = lsW Y.1 n a b
        unfold lsW
        have p5 : Y.1 (73 + n) 11 = Y.1 (73 + n) 9 / 5 := by rw [hm 11, hm 9]; exact PF n (by omega) (by rw [← hm 7]; exact c.1)
        rw [up2_off (k := 73 + n) (j := 7) (k' := 73 + n) (j' := 11) (by omega), up2_off (k := 73 + n) (j := 7) (k' := 0) (j' := 10) (by omega), c9, c11, c10, p5]
        generalize Y.1 (73 + n) 9 / 5 = q5
        generalize Y.1 (73 + n) 9 / 10 = q10
        by_cases z1 : a = 0 ∧ b = 10
        · obtain ⟨rfl, rfl⟩ := z1
          rw [up2_same, up2_off (by omega), up2_same]
          grind
        rw [up2_off z1]
        by_cases z2 : a = 73 + n ∧ b = 11
        · obtain ⟨rfl, rfl⟩ := z2
          rw [up2_same, up2_same]
          grind
        rw [up2_off z2, up2_off z2, up2_off z1]
        by_cases z3 : a = 73 + n ∧ b = 7
        · obtain ⟨rfl, rfl⟩ := z3; rw [up2_same, up2_same]
        · rw [up2_off z3, up2_off z3]; exact cab
      · rw [if_neg e] at sy ⊢
        have v0 : vv = bb := by
          rw [sy]
          show (if up2 Y.1 (73 + n) 8 bb (73 + n) 7 = 1 then up2 Y.1 (73 + n) 8 bb (73 + n) 8 else 0) = bb
          rw [up2_off (by omega), if_pos c.1, up2_same]
        obtain ⟨s, s1, s2, s3, -⟩ := hbr.resolve_left e
        have hne : ¬ vv = 0 := fun q => by
          rw [v0, s3] at q
          have := (nI_eq (by omega) (by decide)).mp (q.trans nI_0.symm)
          omega
        unfold putF
        rw [if_neg hne, v0]
        show up2 u (73 + n) 8 bb a b = up2 Y.1 (73 + n) 8 bb a b
        by_cases z : a = 73 + n ∧ b = 8
        · obtain ⟨rfl, rfl⟩ := z; rw [up2_same, up2_same]
        · rw [up2_off z, up2_off z]; exact cab
    · rw [if_neg (fun q => c (hcond.mp q)), if_neg c]
      exact cab
theorem sy_illNow {post : Int32 → MS → Prop} {p d : Nat} (O : rOk (tR x) Γ σ) (Y : Sy x) (S : Sh x Γ) (G : Gs x) (hp : p < Γ.1) (e : a1 = nI p) (hd : d < 366) (e2 : a2 = nI d)
    (h : ∀ τ, rOk (tR (ilR (up2 x 6 d (x 6 d ||| one p)) Γ.1 Γ.2.2.1 p (nI d) Γ.2.2.1).1) Γ τ → kq σ τ → post (ilR (up2 x 6 d (x 6 d ||| one p)) Γ.1 Γ.2.2.1 p (nI d) Γ.2.2.1).2 τ) : w_X11_illNow Γ post σ a1 a2 := by
  have hP := O.hP
  have hW := O.hW
  have hB := O.hB
  subst e
  subst e2
  unfold w_X11_illNow
  refine sf_pget O hp rfl ⟨⟨by omega, hp⟩, vp_in_nI (by omega) (by decide), ?_⟩
  rw [nI_clamp (by omega), show vp_nar .boolean 1 = b01 true from rfl]
  have O1 := RX.dof (v := x 6 d ||| one p) (c := true) O hp hd (by rw [b_or, b_one (by omega) (by omega), decide_eq_true rfl, Bool.or_true]) (fun q hq hne => by rw [b_or, b_one (by omega) hq, decide_eq_false hne, Bool.or_false])
  have k1 : kq σ (up2 σ (23 + p) d (b01 true)) := kq.rf.up (by omega)
  have f0 : Fl x (up2 x 6 d (x 6 d ||| one p)) := Fl.up (by unfold flc; omega)
  have Y1 := Y.fl f0
  have S1 := S.fl f0 hB
  have G1 := G.fl f0
  generalize up2 x 6 d (x 6 d ||| one p) = x0 at O1 Y1 S1 G1 h
  generalize up2 σ (23 + p) d (b01 true) = σ1 at O1 k1
  have := inv_loop (fun k (q : MS × Int32 × Int32) => u_X11_illNow_22 Γ post (nI p) (nI d) k q.1 q.2.1 q.2.2) (fun j q => (rOk (tR (ilR x0 Γ.1 Γ.2.2.1 p (nI d) j).1) Γ q.1 ∧ kq σ q.1 ∧ q.2.1 = (ilR x0 Γ.1 Γ.2.2.1 p (nI d) j).2) ∧ q.2.2 = nI j) Γ.2.2.1 (by
    rintro ⟨τ, s, v⟩ ⟨⟨O, K, es⟩, rfl⟩
    have O : rOk (tR (ilR x0 Γ.1 Γ.2.2.1 p (nI d) Γ.2.2.1).1) Γ τ := O
    have es : s = (ilR x0 Γ.1 Γ.2.2.1 p (nI d) Γ.2.2.1).2 := es
    show u_X11_illNow_22 Γ post (nI p) (nI d) 1 τ s (nI Γ.2.2.1)
    unfold u_X11_illNow_22 w_lw_Jx4a65c_size_8abf5
    rw [O.w, es]
    exact ⟨fun _ => h _ O K, fun c => absurd (le_self _) c⟩) (by
    rintro j k ⟨τ, s, v⟩ hj ⟨⟨O', K', es'⟩, rfl⟩ ih
    have O : rOk (tR (ilR x0 Γ.1 Γ.2.2.1 p (nI d) j).1) Γ τ := O'
    have K : kq σ τ := K'
    have es : s = (ilR x0 Γ.1 Γ.2.2.1 p (nI d) j).2 := es'
    clear O' K' es'
    have nx : ∀ τ' s', rOk (tR (ilR x0 Γ.1 Γ.2.2.1 p (nI d) (j + 1)).1) Γ τ' → kq σ τ' → s' = (ilR x0 Γ.1 Γ.2.2.1 p (nI d) (j + 1)).2 → u_X11_illNow_22 Γ post (nI p) (nI d) k τ' s' (nI j + 1) := fun τ' s' O' K' e' => by rw [nI_1]; exact ih (τ', s', nI (j + 1)) ⟨⟨O', K', e'⟩, rfl⟩
    have fj : Fl x0 (ilR x0 Γ.1 Γ.2.2.1 p (nI d) j).1 := fun k' j' hk => ilR_k (by unfold flc at hk; omega) j
    have Yj := Y1.fl fj
    have Sj := S1.fl fj hB
    have Gj := G1.fl fj
    unfold ilR at nx
    dsimp only at nx
    show u_X11_illNow_22 Γ post (nI p) (nI d) (k + 1) τ s (nI j)
    generalize ilR x0 Γ.1 Γ.2.2.1 p (nI d) j = V at O es Yj Sj Gj nx
    subst es
    have keep : ¬ (V.1 (73 + j) 7 = 1 ∧ V.1 (73 + j) 1 = nI d ∧ bt (V.1 (73 + j) 8) p = true) → u_X11_illNow_22 Γ post (nI p) (nI d) k τ V.2 (nI j + 1) := fun c => nx τ V.2 (by rw [if_neg c]; exact O) K (by rw [if_neg c])
    unfold u_X11_illNow_22 w_lw_Jx4a65c_size_8abf5
    rw [O.w]
    refine ⟨fun c => absurd c (nI_ge hj (by omega)), fun _ => sf_wget O hj rfl ⟨⟨by omega, hj⟩, ?_⟩⟩
    rw [O.wd (j := 7) hj (by decide), O.wd (j := 1) hj (by decide), O.wd (j := 8) hj (by decide)]
    refine ⟨fun c1 => ⟨fun c2 => sx_isIn (by omega) ⟨fun c3 => keep (fun q => by rw [b01_0.mp c3] at q; exact Bool.false_ne_true q.2.2), fun c3 => ?_⟩, fun c2 => keep (fun q => c2 q.2.1)⟩, fun c1 => keep (fun q => c1 q.1)⟩
    have cc : V.1 (73 + j) 7 = 1 ∧ V.1 (73 + j) 1 = nI d ∧ bt (V.1 (73 + j) 8) p = true := ⟨c1, c2, b01_1.mp c3⟩
    rw [if_pos cc] at nx
    refine sy_best O Yj Sj Gj hj rfl ?_
    rw [O.wd (j := 8) hj (by decide), and_all]
    unfold frR
    generalize bR V.1 j Γ.1 (freeF (stg V.1 Γ.2.2.1) j Γ.2.2.1 Γ.1) (V.1 (73 + j) 8) (2 ^ Γ.1 - 1) = bb at nx ⊢
    refine ⟨fun e => ?_, fun e => ?_⟩
    · rw [if_pos e] at nx
      intro y hy
      rw [up2_off (by omega), up2_off (by omega), O.wd (j := 9) hj (by decide)] at hy
      subst hy
      rw [up2_off (k' := 0) (j' := 2) (by omega), up2_off (k' := 33 + j) (j' := 11) (by omega), up2_off (k' := 33 + j) (j' := 9) (by omega), O.csh, O.wd (j := 11) hj (by decide), O.wd (j := 9) hj (by decide)]
      exact nx _ _ (RX.wd (RX.csh (RX.wd O hj (by decide) (by decide))) hj (by decide) (by decide)) (((K.up (by omega)).up (by omega)).up (by omega)) rfl
    · rw [if_neg e] at nx
      exact nx _ _ (RX.wd O hj (by decide) (by decide)) (K.up (by omega)) rfl) 0 (by omega) (σ1, 0, 0) ⟨⟨O1, k1, rfl⟩, nI_0.symm⟩
  exact this
theorem sy_ill {post : Int32 → MS → Prop} (Oc : Ok x Γ.1 B Γ.2.2.1 T) (O : rOk (tR x) Γ σ) (Y : Sy x) (S : Sh x Γ) (G : Gs x) (PF : ∀ w, w < 14 → x (73 + w) 7 = 1 → x (73 + w) 11 = x (73 + w) 9 / 5)
    (h1 : (∀ p, p < Γ.1 → a1 ≠ nI p) → ∀ τ, rOk (tR x) Γ τ → τ 0 0 = 1 → post 0 τ)
    (h2 : ∀ p, p < Γ.1 → a1 = nI p → (∀ d, T ≤ d → d ≤ 365 → a2 ≠ nI d) → ∀ τ, rOk (tR x) Γ τ → τ 0 0 = 2 → post 0 τ)
    (h3 : ∀ p d, p < Γ.1 → T ≤ d → d ≤ 365 → a1 = nI p → a2 = nI d → ∀ τ, rOk (tR (illS (offS x Γ.1 Γ.2.2.1 p d) p (nI d) Γ.2.2.1)) Γ τ → τ 0 0 = 0 → post (swS x Γ.1 Γ.2.2.1 p (nI d) Γ.2.2.1).2 τ) : w_X11_ill Γ post σ a1 a2 := by
  unfold w_X11_ill
  have O0 := O.up (k := 0) (j := 0) (v := 0) (by unfold rPr; omega)
  refine sx_isPlayer O0 (fun no => ⟨fun _ => sx_refuse O0 (h1 no), fun c => absurd rfl c⟩) (fun p r hp e hr => ⟨fun c => absurd c hr, fun _ => sx_isDay (T := T) (by rw [O0.tdy]; exact Oc.h9) Oc.hT (fun no => ⟨fun _ => sx_refuse O0 (h2 p hp e no), fun c => absurd rfl c⟩) (fun d r2 hd1 hd2 e2 hr2 => ⟨fun c => absurd c hr2, fun _ => sy_illNow O0 Y S G hp e (by omega) e2 (fun τ O' K' => ?_)⟩)⟩)
  have s := (il_sync Oc hp (show d < 366 by omega) Γ.2.2.1 (Nat.le_refl _)).2
  have := h3 p d hp hd1 hd2 e e2 τ (RX.cg O' (il_one Oc hp (by omega) PF Γ.2.2.1 (Nat.le_refl _))) (K'.1.trans up2_same)
  rw [s] at this
  exact this
end ILLC
end
section
/-! A WEDDING PLAYED, DAYS GONE BY, ON BOTH SIDES -/
/-- the reference's money: cash, what is paid, what players earn, of the first n -/
def pgR (x : MS) (w P : Nat) : Nat → MS
  | 0 => up2 (up2 x 0 10 (x 0 10 + gainF x w P)) (73 + w) 11 (x (73 + w) 9 + extraF x w P)
  | n + 1 => if bt (pgR x w P n (73 + w) 8) n = true then up2 (pgR x w P n) (29 + n) 5 (pgR x w P n (29 + n) 5 + wageF (pgR x w P n) n w) else pgR x w P n
/-- the songs of the row played -/
def plR (y : MS) (R : Nat → Nat) : Nat → MS
  | 0 => y
  | n + 1 => up2 (plR y R n) (39 + R n) 3 (plR y R n (39 + R n) 3 + 1)
section PLAYB
variable {x y z : MS} {Γ : RG} {σ τ ρ : MS} {a a0 a1 a2 a3 a4 b : Int32} {w P B W T : Nat}
theorem playF_kn {s : Int32} {n : Nat} (h : ∀ p, p < n → y (29 + p) 1 = x (29 + p) 1) : playF y s n = playF x s n := by
  have key : ∀ m, m ≤ n → kn y s m = kn x s m := by
    intro m
    induction m with
    | zero => intro _; rfl
    | succ m ih =>
      intro hm
      unfold kn
      rw [ih (by omega), h m (by omega)]
  unfold playF
  rw [key n (Nat.le_refl n)]
/-- the best set, of a class whose songs and players know what the reference's do -/
theorem sy_bestSetY {post : Nat → (Nat → Int32) → MS → Prop} (O : rOk (tR x) Γ σ) (F : enV x) (hy : ∀ s, s < 16 → y (39 + s) 0 = x (39 + s) 0 ∧ y (39 + s) 1 = x (39 + s) 1 ∧ y (39 + s) 2 = x (39 + s) 2) (hk : ∀ p, p < Γ.1 → y (29 + p) 1 = x (29 + p) 1) (h : ∀ len f τ R, (∀ k, k < 64 → τ k = σ k) → rOk (tR x) Γ τ → len ≤ 16 → setS y a1 Γ.1 10 1 = nI len → setS y a1 Γ.1 10 2 = rwSum (fun s => x (39 + s) 2) R len → (∀ i, i < len → R i < 16 ∧ f i = nI (R i) ∧ setS y a1 Γ.1 11 i = nI (R i)) → post len f τ) : w_X11_bestSet Γ post σ a1 := by
  have ep := playF_kn (s := a1) hk
  refine sx_bestSet (PL := fun s => bt (playF y a1 Γ.1) s = true) O (fun τ s post' hs hlo O' g1 g0 => sx_isKnown O' hs (fun z => g1 (by rw [ep]; exact (kn_one O').mp z)) (fun z => g0 (fun q => z ((kn_one O').mpr (by rw [← ep]; exact q))))) (fun len f τ R G hlo O' hl hG hrw hf => ?_)
  have hs : sgV y σ := fun s hs => ⟨(hy s hs).1.trans (O.sg0 hs).symm, (hy s hs).2.1.trans (O.sg1 hs).symm, (hy s hs).2.2.trans (O.sg2 hs).symm⟩
  have F2 : enV y := fun s hs => by rw [(hy s hs).2.1]; exact F s hs
  obtain ⟨R2, n2, e0, e1, e2, e3, e4⟩ := cho_best (pb := playF y a1 Γ.1) hs F2 hG
  obtain ⟨q1, q2⟩ := hrw.eq e1
  subst q1
  refine h len f τ R hlo O' hl e3 (e4.trans ?_) (fun i hi => ⟨(hf i hi).1, (hf i hi).2, by rw [q2 i hi]; exact (e2 i hi).2⟩)
  rw [← rwSum_R len q2]
  exact rwSum_cg len (fun i hi => O.sg2 (hf i hi).1)
theorem sy_bestSet {post : Nat → (Nat → Int32) → MS → Prop} (O : rOk (tR x) Γ σ) (F : enV x) (h : ∀ len f τ R, (∀ k, k < 64 → τ k = σ k) → rOk (tR x) Γ τ → len ≤ 16 → setS x a1 Γ.1 10 1 = nI len → setS x a1 Γ.1 10 2 = rwSum (fun s => x (39 + s) 2) R len → (∀ i, i < len → R i < 16 ∧ f i = nI (R i) ∧ setS x a1 Γ.1 11 i = nI (R i)) → post len f τ) : w_X11_bestSet Γ post σ a1 := sy_bestSetY O F (fun _ _ => ⟨rfl, rfl, rfl⟩) (fun _ _ => rfl) h
theorem sy_minutesOf {post : Int32 → MS → Prop} (O : rOk (tR x) Γ σ) (F : enV x) (h : ∀ τ, rOk (tR x) Γ τ → (∀ k, k < 64 → τ k = σ k) → post (setS x a1 Γ.1 10 2) τ) : w_X11_minutesOf Γ post σ a1 := by
  unfold w_X11_minutesOf
  refine sy_bestSet O F (fun len f τ R hlo O' hl _ e2 hf => ?_)
  have O2 : rOk (tR x) Γ (rw0 (mrg τ σ) 64 f) := O'.mrg.rw0 (by decide)
  have h2 := h _ O2 (fun k hk => by rw [rw0_ne (by omega), mrg_lo hk, hlo k hk])
  rw [e2] at h2
  have := inv_loop (fun k (q : Int32 × Int32) => u_X11_minutesOf_15 Γ post a1 k (rw0 (mrg τ σ) 64 f) q.1 (nI len) q.2 len) (fun j q => q.1 = rwSum (fun s => x (39 + s) 2) R j ∧ q.2 = nI j) len (by
    rintro ⟨v, i⟩ ⟨rfl, rfl⟩
    show u_X11_minutesOf_15 Γ post a1 1 (rw0 (mrg τ σ) 64 f) _ (nI len) (nI len) len
    unfold u_X11_minutesOf_15
    exact ⟨fun _ => h2, fun c => absurd (le_self _) c⟩) (by
    rintro j k ⟨v, i⟩ hj ⟨rfl, rfl⟩ ih
    have cj : (nI j).toNatClampNeg = j := nI_clamp (by omega)
    obtain ⟨hs, es, -⟩ := hf j hj
    show u_X11_minutesOf_15 Γ post a1 (k + 1) (rw0 (mrg τ σ) 64 f) _ (nI len) (nI j) len
    unfold u_X11_minutesOf_15
    rw [cj, rw0_eq, es]
    refine ⟨fun c => absurd c (nI_ge hj (by omega)), fun _ => ⟨vp_in_nI hj (by omega), vp_in_nI hs (by decide), ?_⟩⟩
    rw [nI_1 j, nI_clamp (by omega), O2.sg2 hs]
    exact ih (_, nI (j + 1)) ⟨rfl, rfl⟩) 0 (by omega) (0, 0) ⟨rfl, nI_0.symm⟩
  exact this
/-- the class's pay, exactly -/
theorem py_ex (hh : ∀ p, p < 10 → ∃ t, t < 6 ∧ x (29 + p) 2 = nI t) : ∀ n, n ≤ 10 →
    (∀ k j, ¬ (k = 0 ∧ j = 10) → ¬ (29 ≤ k ∧ k < 29 + n ∧ 5 ≤ j ∧ j ≤ 7) → pyS x w n k j = x k j) ∧
    pyS x w n 0 10 = x 0 10 - sumI (ifb (x (73 + w) 8) fun p => wageF x p w) n ∧
    ∀ p, p < n → pyS x w n (29 + p) 5 = x (29 + p) 5 + (if bt (x (73 + w) 8) p = true then wageF x p w else 0) ∧ pyS x w n (29 + p) 6 = x (29 + p) 6 + (if bt (x (73 + w) 8) p = true then 1 else 0) ∧ pyS x w n (29 + p) 7 = x (29 + p) 7 + (if bt (x (73 + w) 8) p = true then x (73 + w) 4 else 0)
  | 0, _ => ⟨fun _ _ _ _ => rfl, by show x 0 10 = x 0 10 - 0; grind, fun p hp => absurd hp (by omega)⟩
  | n + 1, hn => by
    obtain ⟨h1, h2, h3⟩ := py_ex hh n (by omega)
    have e8 : pyS x w n (73 + w) 8 = x (73 + w) 8 := h1 _ _ (by omega) (by omega)
    have e4 : pyS x w n (73 + w) 4 = x (73 + w) 4 := h1 _ _ (by omega) (by omega)
    have e5 : pyS x w n (29 + n) 5 = x (29 + n) 5 := h1 _ _ (by omega) (by omega)
    have e6 : pyS x w n (29 + n) 6 = x (29 + n) 6 := h1 _ _ (by omega) (by omega)
    have e7 : pyS x w n (29 + n) 7 = x (29 + n) 7 := h1 _ _ (by omega) (by omega)
    have ew : wageF (pyS x w n) n w = wageF x n w := by
      obtain ⟨t, ht, et⟩ := hh n (by omega)
      unfold wageF costF quF wayF
      rw [h1 (29 + n) 2 (by omega) (by omega), h1 (29 + n) 3 (by omega) (by omega), h1 (73 + w) 2 (by omega) (by omega), h1 (73 + w) 3 (by omega) (by omega), e4, h1 (73 + w) 10 (by omega) (by omega), et, nI_clamp (by omega), h1 (23 + t) _ (by omega) (by omega)]
    have es : sumI (ifb (x (73 + w) 8) fun p => wageF x p w) (n + 1) = sumI (ifb (x (73 + w) 8) fun p => wageF x p w) n + (if bt (x (73 + w) 8) n = true then wageF x n w else 0) := rfl
    unfold pyS
    rw [e8, es]
    generalize pyS x w n = u at h1 h2 h3 e4 e5 e6 e7 ew
    by_cases q : bt (x (73 + w) 8) n = true
    · rw [if_pos q, if_pos q]
      have ne : ∀ k j, ¬ (k = 0 ∧ j = 10) → ¬ (k = 29 + n ∧ 5 ≤ j ∧ j ≤ 7) → wgS u w n k j = u k j := fun k j g1 g2 => by
        unfold wgS
        rw [up2_off (by omega), up2_off (by omega), up2_off (by omega), up2_off (by omega)]
      refine ⟨fun k j g1 g2 => (ne k j g1 (by omega)).trans (h1 k j g1 (by omega)), ?_, fun p hp => ?_⟩
      · unfold wgS
        rw [up2_off (by omega), up2_off (by omega), up2_off (by omega), up2_same, ew, h2]
        grind
      · by_cases e : p = n
        · subst e
          rw [if_pos q, if_pos q, if_pos q]
          unfold wgS
          refine ⟨?_, ?_, ?_⟩
          · rw [up2_off (by omega), up2_off (by omega), up2_same, ew, e5]
          · rw [up2_off (by omega), up2_same, e6]
          · rw [up2_same, e7, e4]
        · rw [ne _ _ (by omega) (by omega), ne _ _ (by omega) (by omega), ne _ _ (by omega) (by omega)]
          exact h3 p (by omega)
    · rw [if_neg q, if_neg q]
      refine ⟨fun k j g1 g2 => h1 k j g1 (by omega), by rw [h2]; grind, fun p hp => ?_⟩
      by_cases e : p = n
      · subst e
        rw [if_neg q, if_neg q, if_neg q, e5, e6, e7]
        exact ⟨(Int32.add_zero _).symm, (Int32.add_zero _).symm, (Int32.add_zero _).symm⟩
      · exact h3 p (by omega)
theorem pgR_ex (hh : ∀ p, p < 10 → ∃ t, t < 6 ∧ x (29 + p) 2 = nI t) : ∀ n, n ≤ 10 →
    (∀ k j, ¬ (29 ≤ k ∧ k < 29 + n ∧ j = 5) → pgR x w P n k j = pgR x w P 0 k j) ∧
    ∀ p, p < n → pgR x w P n (29 + p) 5 = x (29 + p) 5 + (if bt (x (73 + w) 8) p = true then wageF x p w else 0)
  | 0, _ => ⟨fun _ _ _ => rfl, fun p hp => absurd hp (by omega)⟩
  | n + 1, hn => by
    obtain ⟨h1, h2⟩ := pgR_ex hh n (by omega)
    have k0 : ∀ k j, ¬ (k = 0 ∧ j = 10) → ¬ (k = 73 + w ∧ j = 11) → pgR x w P 0 k j = x k j := fun k j g1 g2 => by
      show up2 (up2 x 0 10 _) (73 + w) 11 _ k j = x k j
      rw [up2_off g2, up2_off g1]
    have e8 : pgR x w P n (73 + w) 8 = x (73 + w) 8 := (h1 _ _ (by omega)).trans (k0 _ _ (by omega) (by omega))
    have e5 : pgR x w P n (29 + n) 5 = x (29 + n) 5 := (h1 _ _ (by omega)).trans (k0 _ _ (by omega) (by omega))
    have ew : wageF (pgR x w P n) n w = wageF x n w := by
      obtain ⟨t, ht, et⟩ := hh n (by omega)
      have g : ∀ k j, ¬ (k = 0 ∧ j = 10) → ¬ (k = 73 + w ∧ j = 11) → ¬ (29 ≤ k ∧ k < 29 + n ∧ j = 5) → pgR x w P n k j = x k j := fun k j g1 g2 g3 => (h1 k j g3).trans (k0 k j g1 g2)
      unfold wageF costF quF wayF
      rw [g (29 + n) 2 (by omega) (by omega) (by omega), g (29 + n) 3 (by omega) (by omega) (by omega), g (73 + w) 2 (by omega) (by omega) (by omega), g (73 + w) 3 (by omega) (by omega) (by omega), g (73 + w) 4 (by omega) (by omega) (by omega), g (73 + w) 10 (by omega) (by omega) (by omega), et, nI_clamp (by omega), g (23 + t) _ (by omega) (by omega) (by omega)]
    unfold pgR
    rw [e8]
    by_cases q : bt (x (73 + w) 8) n = true
    · rw [if_pos q]
      refine ⟨fun k j g => by rw [up2_off (by omega)]; exact h1 k j (by omega), fun p hp => ?_⟩
      by_cases e : p = n
      · subst e
        rw [up2_same, if_pos q, e5, ew]
      · rw [up2_off (by omega)]; exact h2 p (by omega)
    · rw [if_neg q]
      refine ⟨fun k j g => h1 k j (by omega), fun p hp => ?_⟩
      by_cases e : p = n
      · subst e
        rw [if_neg q, e5, Int32.add_zero]
      · exact h2 p (by omega)
/-- how often the first n of the row are the song s -/
theorem plR_k {R : Nat → Nat} {k j : Nat} (h : ∀ n, ¬ (k = 39 + R n ∧ j = 3)) : ∀ n, plR y R n k j = y k j
  | 0 => rfl
  | n + 1 => by
    unfold plR
    rw [up2_off (h n)]
    exact plR_k h n
theorem plyS_R {R : Nat → Nat} {len : Nat} (hR : ∀ i, i < len → R i < 16) (hz : ∀ i, i < len → z 11 i = nI (R i)) (h : ∀ s, s < 16 → z (39 + s) 3 = y (39 + s) 3) : ∀ n, n ≤ len → (∀ s, s < 16 → plyS z n (39 + s) 3 = plR y R n (39 + s) 3) ∧ (∀ k j, ¬ (39 ≤ k ∧ k < 55 ∧ j = 3) → plyS z n k j = z k j ∧ plR y R n k j = y k j)
  | 0, _ => ⟨h, fun _ _ _ => ⟨rfl, rfl⟩⟩
  | n + 1, hn => by
    obtain ⟨h1, h2⟩ := plyS_R hR hz h n (by omega)
    have hr := hR n (by omega)
    unfold plyS plR
    rw [hz n (by omega), nI_clamp (by omega)]
    refine ⟨fun s hs => ?_, fun k j g => ⟨?_, ?_⟩⟩
    · by_cases e : s = R n
      · rw [e, up2_same, up2_same, h1 _ hr]
      · rw [up2_off (by omega), up2_off (by omega)]; exact h1 s hs
    · rw [up2_off (by omega)]; exact (h2 k j g).1
    · rw [up2_off (by omega)]; exact (h2 k j g).2
/-- the class's wedding played is the reference's -/
theorem out_one {R : Nat → Nat} {len : Nat} (hP : P ≤ 10) (hh : ∀ p, p < 10 → ∃ t, t < 6 ∧ x (29 + p) 2 = nI t) (hlen : len ≤ 16) (hR : ∀ i, i < len → R i < 16) (hso : ∀ i, i < len → outY x w P 11 i = nI (R i)) (hlo : outY x w P 10 1 = nI len) (hw : w < 14) : ∀ a b, seen a b → outS x w P a b = up2 (plR (pgR x w P P) R len) (73 + w) 7 2 a b := by
  intro a b hs
  unfold outS
  rw [hlo, nI_clamp (by omega)]
  have hx : ∀ p, p < 10 → ∃ t, t < 6 ∧ paidF x w ((x (73 + w) 9 - x (73 + w) 11) + extraF x w P) (29 + p) 2 = nI t := fun p hp => by
    unfold paidF
    rw [up2_off (by omega), up2_off (by omega)]
    exact hh p hp
  obtain ⟨a1, a2, a3⟩ := py_ex (x := paidF x w ((x (73 + w) 9 - x (73 + w) 11) + extraF x w P)) (w := w) hx P hP
  obtain ⟨b1, b2⟩ := pgR_ex (x := x) (w := w) (P := P) hh P hP
  have e8 : paidF x w ((x (73 + w) 9 - x (73 + w) 11) + extraF x w P) (73 + w) 8 = x (73 + w) 8 := by
    unfold paidF
    rw [up2_off (by omega), up2_off (by omega)]
  have ew : ∀ p, p < 10 → wageF (paidF x w ((x (73 + w) 9 - x (73 + w) 11) + extraF x w P)) p w = wageF x p w := fun p hp => by
    obtain ⟨t, ht, et⟩ := hh p hp
    have g : ∀ k j, ¬ (k = 0 ∧ j = 10) → ¬ (k = 73 + w ∧ j = 11) → paidF x w ((x (73 + w) 9 - x (73 + w) 11) + extraF x w P) k j = x k j := fun k j g1 g2 => by
      unfold paidF
      rw [up2_off g1, up2_off g2]
    unfold wageF costF quF wayF
    rw [g (29 + p) 2 (by omega) (by omega), g (29 + p) 3 (by omega) (by omega), g (73 + w) 2 (by omega) (by omega), g (73 + w) 3 (by omega) (by omega), g (73 + w) 4 (by omega) (by omega), g (73 + w) 10 (by omega) (by omega), et, nI_clamp (by omega), g (23 + t) _ (by omega) (by omega)]
  have hsw : sumI (ifb (x (73 + w) 8) fun p => wageF (paidF x w ((x (73 + w) 9 - x (73 + w) 11) + extraF x w P)) p w) P = wagesF x w P := by
    unfold wagesF
    exact sumI_congr (fun p hp => by
      show (if bt (x (73 + w) 8) p = true then wageF (paidF x w ((x (73 + w) 9 - x (73 + w) 11) + extraF x w P)) p w else 0) = (if bt (x (73 + w) 8) p = true then wageF x p w else 0)
      rw [ew p (by omega)])
  rw [e8, hsw] at a2
  rw [e8] at a3
  -- the class's books with the set chosen
  have hyk : ∀ k, (k < 7 ∨ 15 ≤ k) → outY x w P k = outX x w P k := fun k hk => by
    unfold outY
    exact Scr.set _ _ _ k hk
  have hxe : outX x w P = pyS (paidF x w ((x (73 + w) 9 - x (73 + w) 11) + extraF x w P)) w P := rfl
  rw [← hxe] at a1 a2 a3
  have g0 : ∀ k j, ¬ (k = 0 ∧ j = 10) → ¬ (k = 73 + w ∧ j = 11) → paidF x w ((x (73 + w) 9 - x (73 + w) 11) + extraF x w P) k j = x k j := fun k j g1 g2 => by
    unfold paidF
    rw [up2_off g1, up2_off g2]
  have k0 : ∀ k j, ¬ (k = 0 ∧ j = 10) → ¬ (k = 73 + w ∧ j = 11) → pgR x w P 0 k j = x k j := fun k j g1 g2 => by
    show up2 (up2 x 0 10 _) (73 + w) 11 _ k j = x k j
    rw [up2_off g2, up2_off g1]
  have hpl := plyS_R (y := pgR x w P P) (z := outY x w P) hR hso (fun s hs => by
    rw [hyk _ (by omega), a1 _ _ (by omega) (by omega), g0 _ _ (by omega) (by omega), b1 _ _ (by omega), k0 _ _ (by omega) (by omega)]) len (Nat.le_refl _)
  by_cases z7 : a = 73 + w ∧ b = 7
  · obtain ⟨rfl, rfl⟩ := z7
    rw [up2_same, up2_same]
  rw [up2_off z7, up2_off z7]
  by_cases z3 : 39 ≤ a ∧ a < 55 ∧ b = 3
  · obtain ⟨s, rfl⟩ : ∃ s, a = 39 + s := ⟨a - 39, by omega⟩
    obtain ⟨_, h55, rfl⟩ := z3
    exact hpl.1 s (by omega)
  obtain ⟨r1, r2⟩ := hpl.2 a b z3
  rw [r1, r2, hyk a (by unfold seen at hs; omega)]
  by_cases z10 : a = 0 ∧ b = 10
  · obtain ⟨rfl, rfl⟩ := z10
    rw [a2, b1 _ _ (by omega)]
    have e1 : paidF x w ((x (73 + w) 9 - x (73 + w) 11) + extraF x w P) 0 10 = x 0 10 + ((x (73 + w) 9 - x (73 + w) 11) + extraF x w P) := by
      unfold paidF
      exact up2_same
    have e2 : pgR x w P 0 0 10 = x 0 10 + gainF x w P := by
      show up2 (up2 x 0 10 _) (73 + w) 11 _ 0 10 = _
      rw [up2_off (by omega), up2_same]
    rw [e1, e2]
    unfold gainF
    grind
  by_cases z11 : a = 73 + w ∧ b = 11
  · obtain ⟨rfl, rfl⟩ := z11
    rw [a1 _ _ (by omega) (by omega), b1 _ _ (by omega)]
    have e1 : paidF x w ((x (73 + w) 9 - x (73 + w) 11) + extraF x w P) (73 + w) 11 = x (73 + w) 11 + ((x (73 + w) 9 - x (73 + w) 11) + extraF x w P) := by
      unfold paidF
      rw [up2_off (by omega), up2_same]
    have e2 : pgR x w P 0 (73 + w) 11 = x (73 + w) 9 + extraF x w P := up2_same
    rw [e1, e2]
    grind
  by_cases z5 : 29 ≤ a ∧ a < 29 + P ∧ b = 5
  · obtain ⟨p, rfl⟩ : ∃ p, a = 29 + p := ⟨a - 29, by omega⟩
    obtain ⟨-, hp, rfl⟩ := z5
    rw [(a3 p (by omega)).1, b2 p (by omega), g0 _ _ (by omega) (by omega), ew p (by omega)]
  · rw [a1 _ _ z10 (by unfold seen at hs; omega), g0 _ _ z10 z11, b1 _ _ z5, k0 _ _ z10 z11]
theorem sy_playNow {post : MS → Prop} (O : rOk (tR x) Γ σ) (Y : Sy x) (F : enV x) (hh : ∀ p, p < 10 → ∃ t, t < 6 ∧ x (29 + p) 2 = nI t) (hw : w < Γ.2.2.1) (h : ∀ τ, rOk (tR (outS x w Γ.1)) Γ (up2 τ (33 + w) 7 2) → kp σ τ → post (up2 τ (33 + w) 7 2)) : w_X11_playNow Γ post σ w := by
  have hP := O.hP
  have hW := O.hW
  obtain ⟨b1, b2⟩ := pgR_ex (x := x) (w := w) (P := Γ.1) hh Γ.1 hP
  have k0 : ∀ k j, ¬ (k = 0 ∧ j = 10) → ¬ (k = 73 + w ∧ j = 11) → pgR x w Γ.1 0 k j = x k j := fun k j g1 g2 => by
    show up2 (up2 x 0 10 _) (73 + w) 11 _ k j = x k j
    rw [up2_off g2, up2_off g1]
  have xk : ∀ k j, ¬ (k = 0 ∧ j = 10) → ¬ (k = 73 + w ∧ j = 11) → ¬ (29 ≤ k ∧ k < 39 ∧ 5 ≤ j ∧ j ≤ 7) → outX x w Γ.1 k j = x k j := fun k j g1 g2 g3 => by
    have hx : ∀ p, p < 10 → ∃ t, t < 6 ∧ paidF x w ((x (73 + w) 9 - x (73 + w) 11) + extraF x w Γ.1) (29 + p) 2 = nI t := fun p hp => by
      unfold paidF
      rw [up2_off (by omega), up2_off (by omega)]
      exact hh p hp
    show pyS (paidF x w ((x (73 + w) 9 - x (73 + w) 11) + extraF x w Γ.1)) w Γ.1 k j = x k j
    rw [(py_ex (w := w) hx Γ.1 hP).1 k j g1 (by omega)]
    unfold paidF
    rw [up2_off g1, up2_off g2]
  -- the songs
  have d108 : ∀ (len : Nat) (f : Nat → Int32) (R : Nat → Nat) (τ : MS), len ≤ 16 → (∀ i, i < len → R i < 16 ∧ f i = nI (R i) ∧ outY x w Γ.1 11 i = nI (R i)) → outY x w Γ.1 10 1 = nI len → rOk (tR (pgR x w Γ.1 Γ.1)) Γ τ → kp σ τ → τ 64 = f → ∃ k, u_X11_playNow_108 Γ post w k τ (nI len) 0 len := by
    intro len f R τ hl hf hlo O K hτ
    have := inv_loop (fun k (q : MS × Int32) => u_X11_playNow_108 Γ post w k q.1 (nI len) q.2 len) (fun j q => (rOk (tR (plR (pgR x w Γ.1 Γ.1) R j)) Γ q.1 ∧ kp σ q.1 ∧ q.1 64 = f) ∧ q.2 = nI j) len (by
      rintro ⟨τ, v⟩ ⟨⟨O, K, e⟩, rfl⟩
      have O : rOk (tR (plR (pgR x w Γ.1 Γ.1) R len)) Γ τ := O
      show u_X11_playNow_108 Γ post w 1 τ (nI len) (nI len) len
      unfold u_X11_playNow_108
      exact ⟨fun _ => h _ (RX.cg (RX.wd (v := 2) O hw (by decide) (show 7 < 12 by decide)) (out_one hP hh hl (fun i hi => (hf i hi).1) (fun i hi => (hf i hi).2.2) hlo (by omega))) K, fun c => absurd (le_self _) c⟩) (by
      rintro j k ⟨τ, v⟩ hj ⟨⟨O, K, e⟩, rfl⟩ ih
      have O : rOk (tR (plR (pgR x w Γ.1 Γ.1) R j)) Γ τ := O
      have e : τ 64 = f := e
      have K : kp σ τ := K
      have cj : (nI j).toNatClampNeg = j := nI_clamp (by omega)
      obtain ⟨hs, es, -⟩ := hf j hj
      have nx : ∀ τ', rOk (tR (plR (pgR x w Γ.1 Γ.1) R (j + 1))) Γ τ' → kp σ τ' → τ' 64 = f → u_X11_playNow_108 Γ post w k τ' (nI len) (nI (j + 1)) len := fun τ' O' K' e' => ih (τ', nI (j + 1)) ⟨⟨O', K', e'⟩, rfl⟩
      show u_X11_playNow_108 Γ post w (k + 1) τ (nI len) (nI j) len
      unfold u_X11_playNow_108
      rw [cj, e, es]
      have vs : vp_in (nI (R j)) 16 := vp_in_nI hs (by decide)
      refine ⟨fun c => absurd c (nI_ge hj (by omega)), fun _ => ⟨vp_in_nI hj (by omega), vs, vs, ?_⟩⟩
      rw [nI_1 j, nI_clamp (by omega), O.sg3 hs]
      exact nx _ (RX.ply O hs) (K.up (by unfold kPr; omega)) (funext (fun i => (up2_at (Or.inl (show 64 ≠ 10 by decide))).trans (congrFun e i)))) 0 (by omega) (τ, 0) ⟨⟨O, K, hτ⟩, nI_0.symm⟩
    exact this
  unfold w_X11_playNow
  refine sy_gain O Y hw ?_
  rw [O.csh]
  have O1 := RX.csh (v := x 0 10 + gainF x w Γ.1) O
  have eq1 : quF (up2 x 0 10 (x 0 10 + gainF x w Γ.1)) w = quF x w := by
    unfold quF
    rw [up2_off (by omega), up2_off (by omega), up2_off (by omega)]
  refine sy_quarters O1 hw ?_
  rw [eq1, O1.wd (j := 8) hw (by decide), O1.wd (j := 9) hw (by decide), up2_off (by omega), up2_off (by omega)]
  refine sy_fees O1 ?_
  have eq2 : sumI (ifb (x (73 + w) 8) fun p => up2 x 0 10 (x 0 10 + gainF x w Γ.1) (29 + p) 3) Γ.1 = feesF x w Γ.1 := by
    unfold feesF
    exact sumI_congr (fun p hp => by
      show (if bt (x (73 + w) 8) p = true then up2 x 0 10 (x 0 10 + gainF x w Γ.1) (29 + p) 3 else 0) = (if bt (x (73 + w) 8) p = true then x (29 + p) 3 else 0)
      rw [up2_off (by omega)])
  rw [eq2]
  have O2 : rOk (tR (pgR x w Γ.1 0)) Γ (up2 (up2 σ 0 2 (x 0 10 + gainF x w Γ.1)) (33 + w) 11 (x (73 + w) 9 + quF x w * feesF x w Γ.1 / 4)) := RX.wd O1 hw (by decide) (by decide)
  have K2 : kp σ (up2 (up2 σ 0 2 (x 0 10 + gainF x w Γ.1)) (33 + w) 11 (x (73 + w) 9 + quF x w * feesF x w Γ.1 / 4)) := (kp.rfl'.up (by unfold kPr; omega)).up (by unfold kPr; omega)
  have := inv_loop (fun k (q : MS × Int32) => u_X11_playNow_40 Γ post w k q.1 q.2) (fun j q => (rOk (tR (pgR x w Γ.1 j)) Γ q.1 ∧ kp σ q.1) ∧ q.2 = nI j) Γ.1 (by
    rintro ⟨τ, v⟩ ⟨⟨O, K⟩, rfl⟩
    have O : rOk (tR (pgR x w Γ.1 Γ.1)) Γ τ := O
    have K : kp σ τ := K
    have gk : ∀ k j, ¬ (k = 0 ∧ j = 10) → ¬ (k = 73 + w ∧ j = 11) → ¬ (29 ≤ k ∧ k < 39 ∧ j = 5) → pgR x w Γ.1 Γ.1 k j = x k j := fun k j g1 g2 g3 => (b1 k j (by omega)).trans (k0 k j g1 g2)
    show u_X11_playNow_40 Γ post w 1 τ (nI Γ.1)
    unfold u_X11_playNow_40 w_lp_Jx4a65c_size_8abf5
    rw [O.p]
    dsimp only
    rw [O.wd (j := 8) hw (by decide), gk (73 + w) 8 (by omega) (by omega) (by omega)]
    refine ⟨fun _ => sy_bestSetY (y := outX x w Γ.1) O (fun s hs => ?_) (fun s hs => ?_) (fun p hp => ?_) (fun len f τ' R hlo O' hl e1 _ hf => d108 len f R _ hl (fun i hi => ⟨(hf i hi).1, (hf i hi).2.1, ?_⟩) ?_ (O'.mrg.rw0 (by decide)) ((K.low hlo).mrg.rw0 (by decide)) rw0_eq), fun c => absurd (le_self _) c⟩
    · rw [gk _ _ (by omega) (by omega) (by omega)]; exact F s hs
    · rw [xk _ _ (by omega) (by omega) (by omega), xk _ _ (by omega) (by omega) (by omega), xk _ _ (by omega) (by omega) (by omega), gk _ _ (by omega) (by omega) (by omega), gk _ _ (by omega) (by omega) (by omega), gk _ _ (by omega) (by omega) (by omega)]
      exact ⟨rfl, rfl, rfl⟩
    · rw [xk _ _ (by omega) (by omega) (by omega), gk _ _ (by omega) (by omega) (by omega)]
    · have := (hf i hi).2.2
      unfold outY
      rw [xk (73 + w) 8 (by omega) (by omega) (by omega)]
      exact this
    · unfold outY
      rw [xk (73 + w) 8 (by omega) (by omega) (by omega)]
      exact e1) (by
    rintro j k ⟨τ, v⟩ hj ⟨⟨O', K'⟩, rfl⟩ ih
    have O : rOk (tR (pgR x w Γ.1 j)) Γ τ := O'
    have K : kp σ τ := K'
    clear O' K'
    have nx : ∀ τ', rOk (tR (pgR x w Γ.1 (j + 1))) Γ τ' → kp σ τ' → u_X11_playNow_40 Γ post w k τ' (nI j + 1) := fun τ' O' K' => by rw [nI_1]; exact ih (τ', nI (j + 1)) ⟨⟨O', K'⟩, rfl⟩
    obtain ⟨c1, c2⟩ := pgR_ex (x := x) (w := w) (P := Γ.1) hh j (by omega)
    have Yj : Sy (pgR x w Γ.1 j) := fun a b ha hb => by
      rw [c1 _ _ (by omega), c1 _ _ (by omega), k0 _ _ (by omega) (by omega), k0 _ _ (by omega) (by omega)]
      exact Y a b ha hb
    unfold pgR at nx
    show u_X11_playNow_40 Γ post w (k + 1) τ (nI j)
    unfold u_X11_playNow_40 w_lp_Jx4a65c_size_8abf5
    rw [O.p]
    dsimp only
    rw [O.wd (j := 8) hw (by decide)]
    generalize pgR x w Γ.1 j = g at O Yj nx
    refine ⟨fun c => absurd c (nI_ge hj (by omega)), fun _ => sx_isIn (by omega) ⟨fun c => nx _ ?_ K, fun c => sf_pget O hj rfl ⟨⟨by omega, hj⟩, sy_earnedAt O Yj hj rfl hw ?_⟩⟩⟩
    · rw [if_neg (by rw [b01_0.mp c]; exact Bool.false_ne_true)]
      exact O
    · rw [if_pos (b01_1.mp c)] at nx
      rw [O.pl (j := 5) hj (by decide)]
      exact nx _ (RX.pl O hj (by decide) (by decide)) (K.up (by unfold kPr; omega))) 0 (by omega) (_, 0) ⟨⟨O2, K2⟩, nI_0.symm⟩
  exact this
end PLAYB
end
section
/-! DAYS GO BY, ON BOTH SIDES -/
/-- a walk over the weddings, what may still be played is no less than what is fixed -/
def psJ (Tm : MS) (Γ : RG) (j : Nat) (τ : MS) : Prop := itI Tm Γ j τ ∧ cntF Γ τ ≤ gh τ ∧ gh τ ≤ 14 ∧ τ 0 0 = 0
/-- on what day weddings were asked for -/
def Td (x : MS) : Prop := ∀ w, w < 14 → ∃ t, t ≤ 365 ∧ x (73 + w) 6 = nI t
/-- what playing and losing leave -/
def pkc (k j : Nat) : Prop := ¬ (k = 0 ∧ (j = 9 ∨ j = 10)) ∧ ¬ (7 ≤ k ∧ k < 15) ∧ ¬ (29 ≤ k ∧ k < 39 ∧ 5 ≤ j ∧ j ≤ 7) ∧ ¬ (39 ≤ k ∧ k < 55 ∧ j = 3) ∧ ¬ (73 ≤ k ∧ (j = 7 ∨ j = 11))
def Pq (x y : MS) : Prop := ∀ k j, pkc k j → y k j = x k j
section PASSB
variable {x y z : MS} {Tm : MS} {Γ : RG} {σ τ ρ : MS} {a a0 a1 a2 a3 a4 b : Int32} {w P B W T : Nat}
theorem Pq.rf : Pq x x := fun _ _ _ => rfl
theorem Pq.tr (h : Pq x y) (g : Pq y z) : Pq x z := fun k j hk => (g k j hk).trans (h k j hk)
theorem Pq.up {k j : Nat} {v : Int32} (h : ¬ pkc k j) : Pq x (up2 x k j v) := fun k' j' hk => up2_off (fun z => h (by obtain ⟨rfl, rfl⟩ := z; exact hk))
theorem Pq.scr (h : Scr x y) : Pq x y := fun k j hk => by rw [h k (by unfold pkc at hk; omega)]
theorem Pq.py (w : Nat) : ∀ n, n ≤ 10 → Pq x (pyS x w n)
  | 0, _ => Pq.rf
  | n + 1, hn => by
    have ih := Pq.py w n (by omega)
    unfold pyS
    split
    · exact ih.tr ((((Pq.up (by unfold pkc; omega)).tr (Pq.up (by unfold pkc; omega))).tr (Pq.up (by unfold pkc; omega))).tr (Pq.up (by unfold pkc; omega)))
    · exact ih
theorem Pq.ply (hy : ∀ k, k < w → (y 11 k).toNatClampNeg < 16) : ∀ n, n ≤ w → Pq y (plyS y n)
  | 0, _ => Pq.rf
  | n + 1, hn => by
    have hr := hy n (by omega)
    exact (Pq.ply hy n (by omega)).tr (Pq.up (by unfold pkc; omega))
theorem Pq.out (hP : P ≤ 10) (hw : w < 14) : Pq x (outS x w P) := by
  obtain ⟨l, hl, e1, e2⟩ := cho_row (outX x w P) (playF (outX x w P) (outX x w P (73 + w) 8) P)
  have e1 : outY x w P 10 1 = nI l := e1
  have e2 : ∀ k, k < l → vp_in (outY x w P 11 k) 16 := e2
  unfold outS
  rw [e1, nI_clamp (by omega)]
  have h1 : Pq x (outX x w P) := by
    unfold outX
    exact ((Pq.up (by unfold pkc; omega)).tr (Pq.up (by unfold pkc; omega))).tr (Pq.py w P hP)
  have h2 : Pq (outX x w P) (outY x w P) := Pq.scr (Scr.set _ _ _)
  exact ((h1.tr h2).tr (Pq.ply (fun k hk => vlt (e2 k hk)) l (Nat.le_refl l))).tr (Pq.up (by unfold pkc; omega))
theorem pq_edA (hP : P ≤ 10) : ∀ n, n ≤ 14 → Pq x (edA x P n)
  | 0, _ => Pq.rf
  | n + 1, hn => by
    have ih := pq_edA hP n (by omega)
    unfold edA
    split
    · exact ih.tr (Pq.out hP (by omega))
    · exact ih
theorem pq_edB : ∀ n, Pq x (edB x n)
  | 0 => Pq.rf
  | n + 1 => by
    have ih := pq_edB n
    unfold edB
    split
    · exact ih.tr (Pq.up (by unfold pkc; omega))
    · exact ih
theorem pq_wait (n : Nat) : Pq x (waitL x n) := fun k j hk => if_neg (by unfold pkc at hk; omega)
theorem pq_day (hP : P ≤ 10) (hW : W ≤ 14) : Pq x (dayS x P W) := (((pq_edA hP W hW).tr (pq_edB W)).tr (Pq.up (by unfold pkc; omega))).tr (pq_wait W)
theorem Sy.pq (h : Pq x y) (Y : Sy x) : Sy y := fun a b ha hb => by
  rw [h (23 + a) b (by unfold pkc; omega), h (23 + b) a (by unfold pkc; omega)]
  exact Y a b ha hb
theorem enV.pq (h : Pq x y) (F : enV x) : enV y := fun s hs => by
  rw [h (39 + s) 1 (by unfold pkc; omega)]
  exact F s hs
theorem Td.pq (h : Pq x y) (D : Td x) : Td y := fun w hw => by
  rw [h (73 + w) 6 (by unfold pkc; omega)]
  exact D w hw
theorem hom_pq (h : Pq x y) (H : ∀ p, p < 10 → ∃ t, t < 6 ∧ x (29 + p) 2 = nI t) : ∀ p, p < 10 → ∃ t, t < 6 ∧ y (29 + p) 2 = nI t := fun p hp => by
  rw [h (29 + p) 2 (by unfold pkc; omega)]
  exact H p hp
theorem edA_9 (hP : P ≤ 10) : ∀ n, n ≤ 14 → edA x P n 0 9 = x 0 9
  | 0, _ => rfl
  | n + 1, hn => by
    have ih := edA_9 hP n (by omega)
    unfold edA
    split
    · rw [← ih]
      generalize edA x P n = u
      obtain ⟨l, hl, e1, e2⟩ := cho_row (outX u n P) (playF (outX u n P) (outX u n P (73 + n) 8) P)
      have e1 : outY u n P 10 1 = nI l := e1
      have hsc : outY u n P 0 = outX u n P 0 := Scr.set _ _ _ 0 (by omega)
      unfold outS
      rw [up2_off (by omega), plyS_k (by decide), hsc]
      have key : ∀ v m, m ≤ 10 → pyS v n m 0 9 = v 0 9 := by
        intro v m
        induction m with
        | zero => intro _; rfl
        | succ m ihm =>
          intro hm
          unfold pyS
          split
          · unfold wgS
            rw [up2_off (by omega), up2_off (by omega), up2_off (by omega), up2_off (by omega)]
            exact ihm (by omega)
          · exact ihm (by omega)
      unfold outX
      rw [key _ P hP]
      unfold paidF
      rw [up2_off (by omega), up2_off (by omega)]
    · exact ih
theorem edB_9 : ∀ n, edB x n 0 9 = x 0 9
  | 0 => rfl
  | n + 1 => by
    have ih := edB_9 n
    unfold edB
    split
    · rw [up2_off (by omega)]; exact ih
    · exact ih
theorem psJ.start (O : rOk Tm Γ τ) (h1 : cntF Γ τ ≤ gh τ) (h2 : gh τ ≤ 14) (hz : τ 0 0 = 0) : psJ Tm Γ 0 (rw0 τ 64 (itR (τ 3 0))) := by
  have hW := O.hW
  have eg : gh (rw0 τ 64 (itR (τ 3 0))) = gh τ := gh_rw0 (by decide)
  refine ⟨itI.start O, ?_, by rw [eg]; exact h2, by rw [rw0_ne (by decide)]; exact hz⟩
  rw [eg]
  exact Nat.le_trans (cntF_le (fun w hw c => by rw [rw0_ne (by omega)] at c; exact c)) h1
theorem psJ.next {j : Nat} (h : psJ Tm Γ j τ) : psJ Tm Γ (j + 1) (up2 (up2 τ 64 0 (nI (j + 1))) 64 1 (nI j)) := by
  have hW := h.1.1.hW
  have eg : gh (up2 (up2 τ 64 0 (nI (j + 1))) 64 1 (nI j)) = gh τ := (gh_up (by decide)).trans (gh_up (by decide))
  refine ⟨h.1.next, ?_, by rw [eg]; exact h.2.2.1, by rw [up2_off (by omega), up2_off (by omega)]; exact h.2.2.2⟩
  rw [eg]
  exact Nat.le_trans (cntF_le (fun w hw c => by rw [up2_off (by omega), up2_off (by omega)] at c; exact c)) h.2.1
theorem psJ.end3 {j : Nat} (h : psJ (tR y) Γ j τ) (hw : w < Γ.2.2.1) : psJ (tR (up2 y (73 + w) 7 3)) Γ j (up2 τ (33 + w) 7 3) := by
  have hW := h.1.1.hW
  have eg : gh (up2 τ (33 + w) 7 3) = gh τ := gh_up (by omega)
  refine ⟨⟨RX.wd h.1.1 hw (by decide) (by decide), (up2_off (by omega)).trans h.1.2.1, by rw [up2_off (by omega), up2_off (by omega)]; exact h.1.2.2⟩, ?_, by rw [eg]; exact h.2.2.1, (up2_off (by omega)).trans h.2.2.2⟩
  rw [eg]
  refine Nat.le_trans (cntF_le (fun w' hw' c => ?_)) h.2.1
  by_cases z : w' = w
  · rw [z, up2_same] at c; exact absurd c (by decide)
  · rw [up2_off (by omega)] at c; exact c
theorem psJ.played {j : Nat} {σ' : MS} (h : psJ Tm Γ j τ) (hw : w < Γ.2.2.1) (e1 : τ (33 + w) 7 = 1) (O : rOk (tR z) Γ (up2 σ' (33 + w) 7 2)) (K : kp τ σ') : ∃ b, gh τ = b + 1 ∧ b < 1000 ∧ psJ (tR z) Γ j (up2 (mrg (up2 σ' (33 + w) 7 2) τ) 62 0 (nI b)) := by
  have hW := h.1.1.hW
  have hg := h.2.2.1
  have lo : ∀ k i, k < 62 → up2 (mrg (up2 σ' (33 + w) 7 2) τ) 62 0 (nI (gh τ - 1)) k i = up2 σ' (33 + w) 7 2 k i := fun k i hk => by rw [up2_off (by omega), mrg_lo (by omega)]
  have hi : ∀ i, up2 (mrg (up2 σ' (33 + w) 7 2) τ) 62 0 (nI (gh τ - 1)) 64 i = τ 64 i := fun i => by rw [up2_off (by omega), mrg_hi (by omega)]
  have c1 : cntF Γ (up2 (mrg (up2 σ' (33 + w) 7 2) τ) 62 0 (nI (gh τ - 1))) + 1 ≤ cntF Γ τ := by
    refine cnt_lt _ (fun w' hw' c => ?_) ⟨w, hw, ?_, e1⟩
    · rw [lo _ _ (by omega)] at c
      by_cases z : w' = w
      · rw [z, up2_same] at c; exact absurd c (by decide)
      · rw [up2_off (by omega), K _ _ (by unfold kPr; omega)] at c; exact c
    · rw [lo _ _ (by omega), up2_same]; decide
  have c2 := h.2.1
  have eg : gh (up2 (mrg (up2 σ' (33 + w) 7 2) τ) 62 0 (nI (gh τ - 1))) = gh τ - 1 := gh_set (by omega)
  refine ⟨gh τ - 1, by omega, by omega, ⟨⟨(O.mrg).up (by unfold rPr; omega), by rw [hi]; exact h.1.2.1, ?_⟩, by rw [eg]; omega, by rw [eg]; omega, ?_⟩⟩
  · rw [hi, lo _ _ (by omega), up2_off (by omega), K _ _ (by unfold kPr; omega)]; exact h.1.2.2
  · rw [lo _ _ (by omega), up2_off (by omega), K _ _ (by unfold kPr; omega)]; exact h.2.2.2
theorem told_c {t S : Nat} (ht : t ≤ 365) (hS : S ≤ 366) : (nI S - nI t < 5) ↔ (nI S < nI t + 5) := by
  have e1 : (nI S).toInt = S := nI_toInt (by omega)
  have e2 : (nI t).toInt = t := nI_toInt (n := t) (by omega)
  have e5 : (5 : Int32).toInt = 5 := by decide
  rw [Int32.lt_iff_toInt_lt, Int32.lt_iff_toInt_lt, Int32.toInt_sub, Int32.toInt_add, e1, e2, e5, bmod32, bmod32]
  omega
/-- pass: what it answers, what it leaves -/
theorem sy_pass {post : Int32 → MS → Prop} (Oc : Ok x Γ.1 B Γ.2.2.1 T) (O : rOk (tR x) Γ σ) (Y : Sy x) (F : enV x) (D : Td x)
    (hx1 : (∀ d, 1 ≤ d → d ≤ 60 → a1 ≠ nI d) → ∀ τ, rOk (tR x) Γ τ → τ 0 0 = 1 → post 0 τ)
    (hx2 : ∀ d, 1 ≤ d → d ≤ 60 → a1 = nI d → 365 < T + d → ∀ τ, rOk (tR x) Γ τ → τ 0 0 = 2 → post 0 τ)
    (h : ∀ d, 1 ≤ d → d ≤ 60 → a1 = nI d → T + d ≤ 365 → ∀ τ, rOk (tR (psS x Γ.1 Γ.2.2.1 d)) Γ τ → τ 0 0 = 0 → post (nI (T + d)) τ) : w_X11_pass Γ post σ a1 := by
  have hW := O.hW
  have hP := O.hP
  have hh : ∀ p, p < 10 → ∃ t, t < 6 ∧ x (29 + p) 2 = nI t := fun p hp => Oc.hom hp
  have d179 : ∀ (K41 : MS → Int32 → Prop) v2 (g : MS) S, S ≤ 365 → g 0 9 = nI S → Td g → (∀ τ, rOk (tR (waitL g Γ.2.2.1)) Γ τ → cntF Γ τ ≤ gh τ → gh τ ≤ 14 → τ 0 0 = 0 → K41 τ (v2 + 1)) → ∀ τ, psJ (tR g) Γ 0 τ → ∃ k, u_X11_pass_179 Γ post a1 K41 k τ v2 := by
    intro K41 v2 g S hS eS Dg hK τ I
    refine inv_loop (fun k (q : MS) => u_X11_pass_179 Γ post a1 K41 k q v2) (fun j q => psJ (tR (waitL g j)) Γ j q) Γ.2.2.1 (fun τ I => ?_) (fun j k τ hj I ih => ?_) 0 (by omega) _ (by rw [waitL_0]; exact I)
    · show u_X11_pass_179 Γ post a1 K41 1 τ v2
      unfold u_X11_pass_179
      exact ⟨fun _ => hK _ I.1.1 I.2.1 I.2.2.1 I.2.2.2, fun c => absurd I.1.fin c⟩
    · have nx : ∀ {τ'}, psJ (tR (waitL g (j + 1))) Γ (j + 1) τ' → u_X11_pass_179 Γ post a1 K41 k τ' v2 := fun I' => ih _ I'
      rw [waitL_s] at nx
      have In := I.next
      have f7 : waitL g j (73 + j) 7 = g (73 + j) 7 := if_neg (by omega)
      have f6 : waitL g j (73 + j) 6 = g (73 + j) 6 := if_neg (by omega)
      have f9 : waitL g j 0 9 = g 0 9 := if_neg (by omega)
      obtain ⟨t, ht, et⟩ := Dg j (by omega)
      show u_X11_pass_179 Γ post a1 K41 (k + 1) τ v2
      unfold u_X11_pass_179
      refine ⟨fun c => absurd c (I.1.go hj), fun _ => ⟨j, ⟨I.1.2.1, hj⟩, I.1.2.2, I.1.1.w, ?_⟩⟩
      rw [In.1.1.wd (j := 7) hj (by decide), In.1.1.wd (j := 6) hj (by decide), In.1.1.tdy, f7, f6, f9, eS, et, told_c ht (by omega)]
      rw [eS, et] at nx
      refine ⟨fun c1 => ⟨fun c2 => nx ?_, fun c2 => nx ?_⟩, fun c1 => nx ?_⟩
      · rw [if_neg (fun q => q.2 c2)]; exact In
      · rw [if_pos ⟨c1, c2⟩]; exact In.end3 hj
      · rw [if_neg (fun q => c1 q.1)]; exact In
  have d112 : ∀ (K41 : MS → Int32 → Prop) v2 (g : MS) S, S + 1 ≤ 365 → g 0 9 = nI S → Td g → (∀ τ, rOk (tR (waitL (up2 (edB g Γ.2.2.1) 0 9 (edB g Γ.2.2.1 0 9 + 1)) Γ.2.2.1)) Γ τ → cntF Γ τ ≤ gh τ → gh τ ≤ 14 → τ 0 0 = 0 → K41 τ (v2 + 1)) → ∀ τ, psJ (tR g) Γ 0 τ → ∃ k, u_X11_pass_112 Γ post a1 K41 k τ v2 := by
    intro K41 v2 g S hS eS Dg hK τ I
    refine inv_loop (fun k (q : MS) => u_X11_pass_112 Γ post a1 K41 k q v2) (fun j q => psJ (tR (edB g j)) Γ j q) Γ.2.2.1 (fun τ I => ?_) (fun j k τ hj I ih => ?_) 0 (by omega) _ I
    · have e9 : edB g Γ.2.2.1 0 9 = nI S := (edB_9 _).trans eS
      have ec : τ 0 1 = nI S := I.1.1.tdy.trans e9
      rw [e9, nI_1] at hK
      show u_X11_pass_112 Γ post a1 K41 1 τ v2
      unfold u_X11_pass_112
      rw [ec, nI_1]
      refine ⟨fun _ => d179 K41 v2 (up2 (edB g Γ.2.2.1) 0 9 (nI (S + 1))) (S + 1) hS up2_same (fun w hw => by rw [up2_off (by omega), pq_edB Γ.2.2.1 (73 + w) 6 (by unfold pkc; omega)]; exact Dg w hw) hK _ (psJ.start (RX.tdy I.1.1 hS) ?_ ?_ (by rw [up2_off (by omega)]; exact I.2.2.2)), fun c => absurd I.1.fin c⟩
      · rw [gh_up (by decide)]
        exact Nat.le_trans (cntF_le (fun w hw c => by rw [up2_off (by omega)] at c; exact c)) I.2.1
      · rw [gh_up (by decide)]; exact I.2.2.1
    · have nx : ∀ {τ'}, psJ (tR (edB g (j + 1))) Γ (j + 1) τ' → u_X11_pass_112 Γ post a1 K41 k τ' v2 := fun I' => ih _ I'
      unfold edB at nx
      have In := I.next
      show u_X11_pass_112 Γ post a1 K41 (k + 1) τ v2
      unfold u_X11_pass_112
      refine ⟨fun c => absurd c (I.1.go hj), fun _ => ⟨j, ⟨I.1.2.1, hj⟩, I.1.2.2, I.1.1.w, ?_⟩⟩
      rw [In.1.1.wd (j := 7) hj (by decide), In.1.1.wd (j := 1) hj (by decide), In.1.1.tdy]
      refine ⟨fun c1 => ⟨fun c2 => nx ?_, fun c2 => nx ?_⟩, fun c1 => nx ?_⟩
      · rw [if_pos ⟨c2, c1⟩]; exact In.end3 hj
      · rw [if_neg (fun q => c2 q.1)]; exact In
      · rw [if_neg (fun q => c1 q.2)]; exact In
  have d54 : ∀ (K41 : MS → Int32 → Prop) v2 (g : MS) S, S + 1 ≤ 365 → g 0 9 = nI S → Td g → Sy g → enV g → (∀ p, p < 10 → ∃ t, t < 6 ∧ g (29 + p) 2 = nI t) → (∀ τ, rOk (tR (dayS g Γ.1 Γ.2.2.1)) Γ τ → cntF Γ τ ≤ gh τ → gh τ ≤ 14 → τ 0 0 = 0 → K41 τ (v2 + 1)) → ∀ τ, psJ (tR g) Γ 0 τ → ∃ k, u_X11_pass_54 Γ post a1 K41 k τ v2 := by
    intro K41 v2 g S hS eS Dg Yg Fg Hg hK τ I
    refine inv_loop (fun k (q : MS) => u_X11_pass_54 Γ post a1 K41 k q v2) (fun j q => psJ (tR (edA g Γ.1 j)) Γ j q) Γ.2.2.1 (fun τ I => ?_) (fun j k τ hj I ih => ?_) 0 (by omega) _ I
    · show u_X11_pass_54 Γ post a1 K41 1 τ v2
      unfold u_X11_pass_54
      have pA := pq_edA (x := g) hP Γ.2.2.1 hW
      exact ⟨fun _ => d112 K41 v2 (edA g Γ.1 Γ.2.2.1) S hS ((edA_9 hP Γ.2.2.1 hW).trans eS) (Dg.pq pA) hK _ (psJ.start I.1.1 I.2.1 I.2.2.1 I.2.2.2), fun c => absurd I.1.fin c⟩
    · have nx : ∀ {τ'}, psJ (tR (edA g Γ.1 (j + 1))) Γ (j + 1) τ' → u_X11_pass_54 Γ post a1 K41 k τ' v2 := fun I' => ih _ I'
      have pA := pq_edA (x := g) hP j (by omega)
      unfold edA at nx
      have In := I.next
      show u_X11_pass_54 Γ post a1 K41 (k + 1) τ v2
      unfold u_X11_pass_54
      refine ⟨fun c => absurd c (I.1.go hj), fun _ => ⟨j, ⟨I.1.2.1, hj⟩, I.1.2.2, I.1.1.w, ?_⟩⟩
      have e7 := In.1.1.wd (j := 7) hj (by decide)
      have e1 := In.1.1.wd (j := 1) hj (by decide)
      rw [e7, e1, In.1.1.tdy]
      refine ⟨fun c1 => ⟨fun c2 => ?_, fun c2 => nx ?_⟩, fun c1 => nx ?_⟩
      · rw [if_pos ⟨c2, c1⟩] at nx
        have c7 := e7.trans c1
        have O2 := RX.wd (v := 2) In.1.1 hj (by decide) (show 7 < 12 by decide)
        obtain ⟨b, hb, hb2, _⟩ := In.played hj c7 O2 kp.rfl'
        refine ⟨b, hb, hb2, sy_playNow In.1.1 (Yg.pq pA) (Fg.pq pA) (hom_pq pA Hg) hj (fun σ' O' K' => ?_)⟩
        obtain ⟨b', hb', -, I3⟩ := In.played hj c7 O' K'
        obtain rfl : b = b' := by omega
        exact nx I3
      · rw [if_neg (fun q => c2 q.1)]; exact In
      · rw [if_neg (fun q => c1 q.2)]; exact In
  unfold w_X11_pass
  have O := O.up (k := 0) (j := 0) (v := 0) (by unfold rPr; omega)
  have eT : up2 σ 0 0 0 0 1 = nI T := O.tdy.trans Oc.h9
  refine law_X11_is ⟨fun c => sx_refuse O (hx1 (fun d h1 h2 => rIs_nor (lo := 1) (hi := 60) (by decide) c d h1 h2)), fun c => ?_⟩
  obtain ⟨n, h1, h60, rfl⟩ := rIs_rg (lo := 1) (hi := 60) (by decide) c (by decide)
  have hT := Oc.hT
  rw [eT, nI_add]
  refine ⟨fun hd => ?_, fun hd => sx_refuse O (hx2 n h1 h60 rfl (by
    rcases Nat.lt_or_ge 365 (T + n) with d | d
    · exact d
    · exact absurd (nI_le0 d (by decide)) hd))⟩
  have hTn : T + n ≤ 365 := by
    rcases Nat.lt_or_ge 365 (T + n) with d | d
    · exact absurd hd (nI_ge d (by omega))
    · exact d
  have g0 : gh (up2 (up2 σ 0 0 0) 62 0 (nI 14)) = 14 := gh_set (by decide)
  have pD : ∀ j, Pq x (psS x Γ.1 Γ.2.2.1 j) := fun j => by
    induction j with
    | zero => exact Pq.rf
    | succ j ih => exact ih.tr (pq_day hP hW)
  have e9 : ∀ j, T + j ≤ 365 → psS x Γ.1 Γ.2.2.1 j 0 9 = nI (T + j) := fun j hj => by
    induction j with
    | zero => exact Oc.h9
    | succ j ih =>
      show dayS (psS x Γ.1 Γ.2.2.1 j) Γ.1 Γ.2.2.1 0 9 = _
      unfold dayS
      rw [show waitL (up2 (endS (psS x Γ.1 Γ.2.2.1 j) Γ.1 Γ.2.2.1) 0 9 (endS (psS x Γ.1 Γ.2.2.1 j) Γ.1 Γ.2.2.1 0 9 + 1)) Γ.2.2.1 0 9 = up2 (endS (psS x Γ.1 Γ.2.2.1 j) Γ.1 Γ.2.2.1) 0 9 (endS (psS x Γ.1 Γ.2.2.1 j) Γ.1 Γ.2.2.1 0 9 + 1) 0 9 from if_neg (by omega), up2_same]
      unfold endS
      rw [edB_9, edA_9 hP _ hW, ih (by omega), nI_1]
      rfl
  have := inv_loop_b (fun k (q : MS × Int32) => u_X11_pass_41 Γ post (nI n) k q.1 q.2) (fun j q => (rOk (tR (psS x Γ.1 Γ.2.2.1 j)) Γ q.1 ∧ cntF Γ q.1 ≤ gh q.1 ∧ gh q.1 ≤ 14 ∧ q.1 0 0 = 0) ∧ q.2 = nI j) n 61 (by omega) (by
    rintro ⟨τ, v⟩ ⟨⟨O, _, _, z⟩, rfl⟩
    have O : rOk (tR (psS x Γ.1 Γ.2.2.1 n)) Γ τ := O
    show u_X11_pass_41 Γ post (nI n) 1 τ (nI n)
    unfold u_X11_pass_41
    rw [O.tdy, e9 n hTn]
    exact ⟨fun _ => h n h1 h60 rfl hTn _ O z, fun c => absurd (le_self _) c⟩) (by
    rintro j k ⟨τ, v⟩ hj ⟨⟨O, g1, g2, z⟩, rfl⟩ ih
    have O : rOk (tR (psS x Γ.1 Γ.2.2.1 j)) Γ τ := O
    show u_X11_pass_41 Γ post (nI n) (k + 1) τ (nI j)
    unfold u_X11_pass_41
    refine ⟨fun c => absurd c (nI_ge hj (by omega)), fun _ => d54 _ (nI j) (psS x Γ.1 Γ.2.2.1 j) (T + j) (by omega) (e9 j (by omega)) (D.pq (pD j)) (Y.pq (pD j)) (F.pq (pD j)) (hom_pq (pD j) hh) (fun τ' O' h1 h2 z' => ?_) _ (psJ.start O g1 g2 z)⟩
    rw [nI_1]
    exact ih (τ', nI (j + 1)) ⟨⟨O', h1, h2, z'⟩, rfl⟩) (up2 (up2 σ 0 0 0) 62 0 (nI 14), 0) ⟨⟨O.up (k := 62) (j := 0) (v := nI 14) (by unfold rPr; omega), by show cntF Γ _ ≤ gh (up2 (up2 σ 0 0 0) 62 0 (nI 14)); rw [g0]; exact Nat.le_trans (cnt_le _) hW, by show gh (up2 (up2 σ 0 0 0) 62 0 (nI 14)) ≤ 14; rw [g0]; exact Nat.le_refl _, by show up2 (up2 σ 0 0 0) 62 0 (nI 14) 0 0 = 0; rw [up2_off (by omega), up2_same]⟩, nI_0.symm⟩
  exact this
end PASSB
end
section
/-! WHAT IS ASKED, ON BOTH SIDES: players, songs, bands, weddings, the desk -/
section ASKB
variable {x y z : MS} {Tm : MS} {Γ : RG} {σ τ ρ : MS} {a a0 a1 a2 a3 a4 b c : Int32} {w P B W T : Nat}
theorem sx_isr {post : Int32 → MS → Prop} {lo hi : Nat} (e1 : b = nI lo) (e2 : c = nI hi) (hl : lo < 2 ^ 31) (hh : hi < 2 ^ 31) (h0 : (∀ i, lo ≤ i → i ≤ hi → a ≠ nI i) → post 0 σ) (h1 : ∀ i r, lo ≤ i → i ≤ hi → a = nI i → ¬ r = 0 → post r σ) : w_X11_is Γ post σ a b c := by
  rw [e1, e2]
  refine law_X11_is ?_
  by_cases z : rIsF a (nI lo) (nI hi) = 0
  · rw [z]; exact h0 (rIs_nor hh z)
  · obtain ⟨i, h2, h3, e⟩ := rIs_rg hh z hl
    exact h1 i _ h2 h3 e z
theorem sy_ofWeddingNow {post : Int32 → MS → Prop} {k : Nat} (O : rOk (tR x) Γ σ) (hw : w < Γ.2.2.1) (e : a1 = nI w) (hk : k ≤ 12) (e2 : a2 = nI k) (h : post (ofWF x w k) σ) : w_X11_ofWeddingNow Γ post σ a1 a2 := by
  have hW := O.hW
  subst e2
  have kk : ∀ i, i < 13 → nI k = nI i → k = i := fun i hi q => (nI_eq (by omega) (by omega)).mp q
  unfold w_X11_ofWeddingNow
  refine sf_wget O hw e ⟨⟨by omega, hw⟩, ?_⟩
  rw [O.wd (j := 0) hw (by decide), O.wd (j := 1) hw (by decide), O.wd (j := 2) hw (by decide), O.wd (j := 3) hw (by decide), O.wd (j := 4) hw (by decide), O.wd (j := 5) hw (by decide), O.wd (j := 7) hw (by decide), O.wd (j := 8) hw (by decide), O.wd (j := 9) hw (by decide), O.wd (j := 10) hw (by decide), O.wd (j := 11) hw (by decide)]
  refine ⟨fun c => ?_, fun c0 => ⟨fun c => ?_, fun c1 => ⟨fun c => ?_, fun c2 => ⟨fun c => ?_, fun c3 => ⟨fun c => ?_, fun c4 => ⟨fun c => ?_, fun c5 => ⟨fun c => ?_, fun c6 => ⟨fun c => ?_, fun c7 => ⟨fun c => ?_, fun c8 => ⟨fun c => ?_, fun c9 => ⟨fun c => ?_, fun c10 => ⟨fun c => ?_, fun c11 => ?_⟩⟩⟩⟩⟩⟩⟩⟩⟩⟩⟩⟩
  · obtain rfl := kk 0 (by decide) c; exact h
  · obtain rfl := kk 1 (by decide) c; exact h
  · obtain rfl := kk 2 (by decide) c; exact h
  · obtain rfl := kk 3 (by decide) c; exact h
  · obtain rfl := kk 4 (by decide) c; exact h
  · obtain rfl := kk 5 (by decide) c; exact h
  · obtain rfl := kk 6 (by decide) c; exact h
  · obtain rfl := kk 7 (by decide) c; exact h
  · obtain rfl := kk 8 (by decide) c; exact h
  · obtain rfl := kk 9 (by decide) c; exact h
  · obtain rfl := kk 10 (by decide) c; exact h
  · obtain rfl := kk 11 (by decide) c; exact sy_place O hw e h
  · have n : ∀ i, i < 12 → ¬ nI k = nI i → k ≠ i := fun i hi q z => q (by rw [z])
    have : k = 12 := by
      have := n 0 (by decide) c0
      have := n 1 (by decide) c1
      have := n 2 (by decide) c2
      have := n 3 (by decide) c3
      have := n 4 (by decide) c4
      have := n 5 (by decide) c5
      have := n 6 (by decide) c6
      have := n 7 (by decide) c7
      have := n 8 (by decide) c8
      have := n 9 (by decide) c9
      have := n 10 (by decide) c10
      have := n 11 (by decide) c11
      omega
    subst this
    exact sy_quarters O hw h
theorem sy_ofWedding {post : Int32 → MS → Prop} (O : rOk (tR x) Γ σ)
    (h1 : (∀ w, w < Γ.2.2.1 → a1 ≠ nI w) → ∀ τ, rOk (tR x) Γ τ → τ 0 0 = 1 → post 0 τ)
    (h2 : ∀ w, w < Γ.2.2.1 → a1 = nI w → (∀ k, k ≤ 12 → a2 ≠ nI k) → ∀ τ, rOk (tR x) Γ τ → τ 0 0 = 2 → post 0 τ)
    (h3 : ∀ w k, w < Γ.2.2.1 → k ≤ 12 → a1 = nI w → a2 = nI k → ∀ τ, rOk (tR x) Γ τ → τ 0 0 = 0 → post (ofWF x w k) τ) : w_X11_ofWedding Γ post σ a1 a2 := by
  unfold w_X11_ofWedding
  have O0 := O.up (k := 0) (j := 0) (v := 0) (by unfold rPr; omega)
  exact sx_isWedding O0 (fun no => ⟨fun _ => sx_refuse O0 (h1 no), fun c => absurd rfl c⟩) (fun w r hw e hr => ⟨fun c => absurd c hr, fun _ => sx_isr (lo := 0) (hi := 12) rfl rfl (by decide) (by decide) (fun no => ⟨fun _ => sx_refuse O0 (h2 w hw e (fun k hk => no k (by omega) hk)), fun c => absurd rfl c⟩) (fun k r2 _ hk e2 hr2 => ⟨fun c => absurd c hr2, fun _ => sy_ofWeddingNow O0 hw e hk e2 (h3 w k hw hk e e2 _ O0 up2_same)⟩)⟩)
theorem sy_ofBandNow {post : Int32 → MS → Prop} {v k : Nat} (O : rOk (tR x) Γ σ) (S : Sh x Γ) (hb : v < Γ.2.1) (e : a1 = nI v) (hk : k ≤ 8) (e2 : a2 = nI k) (h : post (ofBF x Γ.2.2.1 v k) σ) : w_X11_ofBandNow Γ post σ a1 a2 := by
  have hW := O.hW
  have hB := O.hB
  obtain ⟨m, sz, m1, m2, g1, z1, g2, g3, g4, g5⟩ := S v hb
  subst e
  subst e2
  unfold ofBF at h
  unfold w_X11_ofBandNow
  have k6 : (6 : Int32) ≤ nI k ↔ 6 ≤ k := by
    constructor
    · intro c
      rcases Nat.lt_or_ge k 6 with d | d
      · exact absurd (show nI 6 ≤ nI k from c) (nI_ge d (by decide))
      · exact d
    · intro c; exact (show nI 6 ≤ nI k from nI_le0 c (by omega))
  refine ⟨fun c => ⟨fun c2 => sf_lbget O hb rfl ⟨hb, ?_⟩, fun c2 => ?_⟩, fun c => sf_lbget O hb rfl ⟨hb, ?_⟩⟩
  · unfold w_in_J6_intValue_8abf5
    have : k = 6 := (nI_eq (by omega) (by decide)).mp (show nI k = nI 6 from c2)
    subst this
    rw [if_neg (by decide), if_pos rfl, g3] at h
    refine law_X11_needed_ ?_
    rw [g1, g2]
    exact h
  · have hk6 := k6.mp c
    have hne : k ≠ 6 := fun z => c2 (by rw [z]; rfl)
    rw [if_neg (by omega), if_neg hne] at h
    refine up_loop (fun n (q : Int32 × Int32) => u_X11_ofBandNow_54 Γ post (nI v) (nI k) n σ q.1 q.2) (fun i => (nI (fb_ct (ofBd x (nI v) (if k = 8 then 1 else 0)) i), nI i)) Γ.2.2.1 ?_ (fun i n hi hn => ?_)
    · show u_X11_ofBandNow_54 Γ post (nI v) (nI k) 1 σ (nI (fb_ct (ofBd x (nI v) (if k = 8 then 1 else 0)) Γ.2.2.1)) (nI Γ.2.2.1)
      unfold u_X11_ofBandNow_54 w_lw_Jx4a65c_size_8abf5
      rw [O.w]
      exact ⟨fun _ => h, fun c => absurd (le_self _) c⟩
    · have hn : ∀ u, u = nI (fb_ct (ofBd x (nI v) (if k = 8 then 1 else 0)) i + (if ofBd x (nI v) (if k = 8 then 1 else 0) i = true then 1 else 0)) → u_X11_ofBandNow_54 Γ post (nI v) (nI k) n σ u (nI (i + 1)) := fun u e => by rw [e]; exact hn
      have n1 : ofBd x (nI v) (if k = 8 then 1 else 0) i = true → u_X11_ofBandNow_54 Γ post (nI v) (nI k) n σ (nI (fb_ct (ofBd x (nI v) (if k = 8 then 1 else 0)) i) + 1) (nI (i + 1)) := fun q => hn _ (by rw [if_pos q, nI_1])
      have n0 : ¬ ofBd x (nI v) (if k = 8 then 1 else 0) i = true → u_X11_ofBandNow_54 Γ post (nI v) (nI k) n σ (nI (fb_ct (ofBd x (nI v) (if k = 8 then 1 else 0)) i) + 0) (nI (i + 1)) := fun q => hn _ (by rw [if_neg q, Int32.add_zero]; rfl)
      unfold ofBd at n1 n0
      rw [decide_eq_true_iff] at n1 n0
      show u_X11_ofBandNow_54 Γ post (nI v) (nI k) (n + 1) σ (nI (fb_ct (ofBd x (nI v) (if k = 8 then 1 else 0)) i)) (nI i)
      unfold ofBd
      unfold u_X11_ofBandNow_54 w_lw_Jx4a65c_size_8abf5
      rw [O.w, nI_1 i]
      refine ⟨fun c => absurd c (nI_ge hi (by omega)), fun _ => sf_wget O hi rfl ⟨⟨by omega, hi⟩, ?_⟩⟩
      rw [O.wd (j := 0) hi (by decide)]
      refine ⟨fun d1 => ⟨fun d2 => n1 ⟨d1, Or.inl ?_⟩, fun d2 => sf_wget O hi rfl ⟨⟨by omega, hi⟩, ?_⟩⟩, fun d1 => n0 (fun q => d1 q.1)⟩
      · have : k = 7 := (nI_eq (by omega) (by decide)).mp (show nI k = nI 7 from d2)
        rw [if_neg (by omega)]
      · have h8 : k = 8 := by
          have : k ≠ 7 := fun z => d2 (by rw [z]; rfl)
          omega
        rw [O.wd (j := 7) hi (by decide)]
        refine ⟨fun d3 => n1 ⟨d1, Or.inr d3⟩, fun d3 => n0 (fun q => q.2.elim (fun z => ?_) (fun z => d3 z))⟩
        rw [if_pos h8] at z
        exact absurd z (by decide)
  · unfold w_in_J6_intValue_8abf5
    have hk6 : k < 6 := by
      rcases Nat.lt_or_ge k 6 with d | d
      · exact d
      · exact absurd (k6.mpr d) c
    rw [if_pos hk6, g5 k hk6] at h
    rw [g1]
    exact law_X11_needed (by omega) h
theorem sy_ofBand {post : Int32 → MS → Prop} (O : rOk (tR x) Γ σ) (S : Sh x Γ)
    (h1 : (∀ w, w < Γ.2.1 → a1 ≠ nI w) → ∀ τ, rOk (tR x) Γ τ → τ 0 0 = 1 → post 0 τ)
    (h2 : ∀ w, w < Γ.2.1 → a1 = nI w → (∀ k, k ≤ 8 → a2 ≠ nI k) → ∀ τ, rOk (tR x) Γ τ → τ 0 0 = 2 → post 0 τ)
    (h3 : ∀ w k, w < Γ.2.1 → k ≤ 8 → a1 = nI w → a2 = nI k → ∀ τ, rOk (tR x) Γ τ → τ 0 0 = 0 → post (ofBF x Γ.2.2.1 w k) τ) : w_X11_ofBand Γ post σ a1 a2 := by
  unfold w_X11_ofBand
  have O0 := O.up (k := 0) (j := 0) (v := 0) (by unfold rPr; omega)
  exact sx_isBand O0 (fun no => ⟨fun _ => sx_refuse O0 (h1 no), fun c => absurd rfl c⟩) (fun w r hw e hr => ⟨fun c => absurd c hr, fun _ => sx_isr (lo := 0) (hi := 8) rfl rfl (by decide) (by decide) (fun no => ⟨fun _ => sx_refuse O0 (h2 w hw e (fun k hk => no k (by omega) hk)), fun c => absurd rfl c⟩) (fun k r2 _ hk e2 hr2 => ⟨fun c => absurd c hr2, fun _ => sy_ofBandNow O0 S hw e hk e2 (h3 w k hw hk e e2 _ O0 up2_same)⟩)⟩)
theorem sy_ofSongNow {post : Int32 → MS → Prop} {s k : Nat} (O : rOk (tR x) Γ σ) (hs : s < 16) (e : a1 = nI s) (hk : k ≤ 5) (e2 : a2 = nI k) (h : post (ofSF x Γ.1 s k) σ) : w_X11_ofSongNow Γ post σ a1 a2 := by
  have hP := O.hP
  subst e
  subst e2
  have kk : ∀ i, i < 6 → nI k = nI i → k = i := fun i hi q => (nI_eq (by omega) (by omega)).mp q
  have vs : vp_in (nI s) 16 := vp_in_nI hs (by decide)
  unfold w_X11_ofSongNow
  refine up_loop (fun n (q : Int32 × Int32) => u_X11_ofSongNow_5 Γ post (nI s) (nI k) n σ q.1 q.2) (fun i => (nI (fb_ct (fun q => bt (x (29 + q) 1) s) i), nI i)) Γ.1 ?_ (fun i n hi hn => ?_)
  · show u_X11_ofSongNow_5 Γ post (nI s) (nI k) 1 σ (nI (fb_ct (fun q => bt (x (29 + q) 1) s) Γ.1)) (nI Γ.1)
    unfold u_X11_ofSongNow_5 w_lp_Jx4a65c_size_8abf5
    rw [O.p]
    dsimp only
    rw [nI_clamp (by omega), O.sg0 hs, O.sg1 hs, O.sg2 hs, O.sg3 hs]
    refine ⟨fun _ => ⟨fun c => ⟨vs, ?_⟩, fun c0 => ⟨fun c => ⟨vs, ?_⟩, fun c1 => ⟨fun c => ⟨vs, ?_⟩, fun c2 => ⟨fun c => ⟨vs, ?_⟩, fun c3 => ⟨fun c => ?_, fun c4 => ?_⟩⟩⟩⟩⟩, fun c => absurd (le_self _) c⟩
    · obtain rfl := kk 0 (by decide) c; exact h
    · obtain rfl := kk 1 (by decide) c; exact h
    · obtain rfl := kk 2 (by decide) c; exact h
    · obtain rfl := kk 3 (by decide) c; exact h
    · obtain rfl := kk 4 (by decide) c; exact sy_share O hs h
    · have n : ∀ i, i < 6 → ¬ nI k = nI i → k ≠ i := fun i hi q z => q (by rw [z])
      have : k = 5 := by
        have := n 0 (by decide) c0
        have := n 1 (by decide) c1
        have := n 2 (by decide) c2
        have := n 3 (by decide) c3
        have := n 4 (by decide) c4
        omega
      subst this
      exact h
  · have hn : ∀ u, u = nI (fb_ct (fun q => bt (x (29 + q) 1) s) i + (if bt (x (29 + i) 1) s = true then 1 else 0)) → u_X11_ofSongNow_5 Γ post (nI s) (nI k) n σ u (nI (i + 1)) := fun u e => by rw [e]; exact hn
    show u_X11_ofSongNow_5 Γ post (nI s) (nI k) (n + 1) σ (nI (fb_ct (fun q => bt (x (29 + q) 1) s) i)) (nI i)
    unfold u_X11_ofSongNow_5 w_lp_Jx4a65c_size_8abf5
    rw [O.p, nI_1]
    refine ⟨fun c => absurd c (nI_ge hi (by omega)), fun _ => sf_pget O hi rfl ⟨⟨by omega, hi⟩, ?_⟩⟩
    rw [O.pl (j := 1) hi (by decide)]
    refine sx_isIn (by omega) ⟨fun c => hn _ ?_, fun c => hn _ ?_⟩
    · rw [if_neg (by rw [b01_0.mp c]; exact Bool.false_ne_true), Int32.add_zero]
      rfl
    · rw [if_pos (b01_1.mp c), nI_1]
theorem sy_ofSong {post : Int32 → MS → Prop} (O : rOk (tR x) Γ σ)
    (h1 : (∀ w, w < 16 → a1 ≠ nI w) → ∀ τ, rOk (tR x) Γ τ → τ 0 0 = 1 → post 0 τ)
    (h2 : ∀ w, w < 16 → a1 = nI w → (∀ k, k ≤ 5 → a2 ≠ nI k) → ∀ τ, rOk (tR x) Γ τ → τ 0 0 = 2 → post 0 τ)
    (h3 : ∀ w k, w < 16 → k ≤ 5 → a1 = nI w → a2 = nI k → ∀ τ, rOk (tR x) Γ τ → τ 0 0 = 0 → post (ofSF x Γ.1 w k) τ) : w_X11_ofSong Γ post σ a1 a2 := by
  unfold w_X11_ofSong
  have O0 := O.up (k := 0) (j := 0) (v := 0) (by unfold rPr; omega)
  exact sx_isr (lo := 0) (hi := 15) rfl rfl (by decide) (by decide) (fun no => ⟨fun _ => sx_refuse O0 (h1 (fun w hw => no w (by omega) (by omega))), fun c => absurd rfl c⟩) (fun w r _ hw e hr => ⟨fun c => absurd c hr, fun _ => sx_isr (lo := 0) (hi := 5) rfl rfl (by decide) (by decide) (fun no => ⟨fun _ => sx_refuse O0 (h2 w (by omega) e (fun k hk => no k (by omega) hk)), fun c => absurd rfl c⟩) (fun k r2 _ hk e2 hr2 => ⟨fun c => absurd c hr2, fun _ => sy_ofSongNow O0 (by omega) e hk e2 (h3 w k (by omega) hk e e2 _ O0 up2_same)⟩)⟩)
theorem sy_weddingsOf {post : Nat → (Nat → Int32) → MS → Prop} {p : Nat} (O : rOk (tR x) Γ σ) (hp : p < 32) (h : ∀ f τ, rOk (tR x) Γ τ → (∀ k, k < 64 → τ k = σ k) → f 0 = nI (fb_ct (fun w => fxw x w p) Γ.2.2.1) → f 1 = nI (fb_ct (plw x p) Γ.2.2.1) → f 2 = sumI (fun w => if plw x p w = true then x (73 + w) 4 else 0) Γ.2.2.1 → post 3 f τ) : w_X11_weddingsOf Γ post σ (nI p) := by
  have hW := O.hW
  have v0 : vp_in 0 3 := vp_in_nI (n := 0) (by decide) (by decide)
  have v1 : vp_in 1 3 := vp_in_nI (n := 1) (by decide) (by decide)
  have v2 : vp_in 2 3 := vp_in_nI (n := 2) (by decide) (by decide)
  have z0 : Int32.toNatClampNeg 0 = 0 := rfl
  have z1 : Int32.toNatClampNeg 1 = 1 := rfl
  have z2 : Int32.toNatClampNeg 2 = 2 := rfl
  -- the invariant
  have step : ∀ (K : MS → Int32 → Prop) (τ : MS) (v3 : Int32) (j : Nat), j < Γ.2.2.1 → rOk (tR x) Γ τ → (∀ k, k < 64 → τ k = σ k) → bt (x (73 + j) 8) p = true →
      (∀ τ', rOk (tR x) Γ τ' → (∀ k, k < 64 → τ' k = σ k) → τ' 64 0 = τ 64 0 + (if fxw x j p = true then 1 else 0) → τ' 64 1 = τ 64 1 + (if plw x p j = true then 1 else 0) → τ' 64 2 = τ 64 2 + (if plw x p j = true then x (73 + j) 4 else 0) → K τ' (v3 + 1)) →
      (x (73 + j) 7 = 1 → u_X11_weddingsOf_63 Γ post (nI p) K τ v3 j 1 (τ 64 0) 0) ∧ (¬ x (73 + j) 7 = 1 → u_X11_weddingsOf_63 Γ post (nI p) K τ v3 j 0 (τ 64 0) 0) := by
    intro K τ v3 j hj O hlo hb hK
    have u64 : ∀ {τ : MS} {i : Nat} {v : Int32}, rOk (tR x) Γ τ → rOk (tR x) Γ (up2 τ 64 i v) := fun O => O.up (by unfold rPr; omega)
    have hf : fxw x j p = decide (x (73 + j) 7 = 1) := by unfold fxw; rw [hb, Bool.and_true]
    have hl : plw x p j = decide (x (73 + j) 7 = 2) := by unfold plw; rw [hb, Bool.and_true]
    rw [hf, hl] at hK
    have fin : ∀ t0 : Int32, t0 = (if decide (x (73 + j) 7 = 1) = true then 1 else 0) → u_X11_weddingsOf_63 Γ post (nI p) K τ v3 j t0 (τ 64 0) 0 := fun t0 e0 => by
      unfold u_X11_weddingsOf_63
      rw [z0, z1, up2_off (k := 64) (j := 0) (k' := 33 + j) (j' := 7) (by omega), O.wd (j := 7) hj (by decide)]
      have go : ∀ t1 : Int32, t1 = (if decide (x (73 + j) 7 = 2) = true then 1 else 0) → u_X11_weddingsOf_83 Γ post (nI p) K (up2 τ 64 0 (τ 64 0 + t0)) v3 j t1 (up2 τ 64 0 (τ 64 0 + t0) 64 1) 1 := fun t1 e1 => by
        unfold u_X11_weddingsOf_83
        rw [z1, z2, up2_off (k := 64) (j := 1) (k' := 33 + j) (j' := 7) (by omega), up2_off (k := 64) (j := 0) (k' := 33 + j) (j' := 7) (by omega), O.wd (j := 7) hj (by decide), up2_off (k := 64) (j := 1) (k' := 33 + j) (j' := 4) (by omega), up2_off (k := 64) (j := 0) (k' := 33 + j) (j' := 4) (by omega), O.wd (j := 4) hj (by decide), up2_off (k := 64) (j := 1) (k' := 64) (j' := 2) (by omega), up2_off (k := 64) (j := 0) (k' := 64) (j' := 2) (by omega), up2_off (k := 64) (j := 0) (k' := 64) (j' := 1) (by omega)]
        have lo : ∀ v, ∀ k, k < 64 → up2 (up2 (up2 τ 64 0 (τ 64 0 + t0)) 64 1 (τ 64 1 + t1)) 64 2 v k = σ k := fun v k hk => by
          rw [up2_ne (by omega), up2_ne (by omega), up2_ne (by omega)]
          exact hlo k hk
        refine ⟨v1, v2, fun c => ⟨v2, hK _ (u64 (u64 (u64 O))) (lo _) ?_ ?_ ?_⟩, fun c => ⟨v2, hK _ (u64 (u64 (u64 O))) (lo _) ?_ ?_ ?_⟩⟩
        · rw [up2_off (by omega), up2_off (by omega), up2_same, e0]
        · rw [up2_off (by omega), up2_same, e1]
        · rw [up2_same, decide_eq_true c, if_pos rfl]
        · rw [up2_off (by omega), up2_off (by omega), up2_same, e0]
        · rw [up2_off (by omega), up2_same, e1]
        · rw [up2_same, decide_eq_false c, if_neg Bool.false_ne_true]
      exact ⟨v0, v1, fun c => go 1 (by rw [decide_eq_true c, if_pos rfl]), fun c => go 0 (by rw [decide_eq_false c, if_neg Bool.false_ne_true])⟩
    exact ⟨fun c => fin 1 (by rw [decide_eq_true c, if_pos rfl]), fun c => fin 0 (by rw [decide_eq_false c, if_neg Bool.false_ne_true])⟩
  unfold w_X11_weddingsOf
  have O1 := O.rw0 (k := 64) (f := fun _ => 0) (by decide)
  have := inv_loop (fun k (q : MS × Int32) => u_X11_weddingsOf_6 Γ post (nI p) k q.1 q.2) (fun j q => (rOk (tR x) Γ q.1 ∧ (∀ k, k < 64 → q.1 k = σ k) ∧ q.1 64 0 = nI (fb_ct (fun w => fxw x w p) j) ∧ q.1 64 1 = nI (fb_ct (plw x p) j) ∧ q.1 64 2 = sumI (fun w => if plw x p w = true then x (73 + w) 4 else 0) j) ∧ q.2 = nI j) Γ.2.2.1 (by
    rintro ⟨τ, v⟩ ⟨⟨O, hlo, e0, e1, e2⟩, rfl⟩
    have O : rOk (tR x) Γ τ := O
    show u_X11_weddingsOf_6 Γ post (nI p) 1 τ (nI Γ.2.2.1)
    unfold u_X11_weddingsOf_6 w_lw_Jx4a65c_size_8abf5
    rw [O.w]
    dsimp only
    rw [mrg_self]
    exact ⟨fun _ => h _ _ O hlo e0 e1 e2, fun c => absurd (le_self _) c⟩) (by
    rintro j k ⟨τ, v⟩ hj ⟨⟨O, hlo, e0, e1, e2⟩, rfl⟩ ih
    have O : rOk (tR x) Γ τ := O
    have e0 : τ 64 0 = nI (fb_ct (fun w => fxw x w p) j) := e0
    have e1 : τ 64 1 = nI (fb_ct (plw x p) j) := e1
    have e2 : τ 64 2 = sumI (fun w => if plw x p w = true then x (73 + w) 4 else 0) j := e2
    have nx : ∀ τ', rOk (tR x) Γ τ' → (∀ k, k < 64 → τ' k = σ k) → τ' 64 0 = nI (fb_ct (fun w => fxw x w p) (j + 1)) → τ' 64 1 = nI (fb_ct (plw x p) (j + 1)) → τ' 64 2 = sumI (fun w => if plw x p w = true then x (73 + w) 4 else 0) (j + 1) → u_X11_weddingsOf_6 Γ post (nI p) k τ' (nI j + 1) := fun τ' O' l' a0 a1 a2 => by rw [nI_1]; exact ih (τ', nI (j + 1)) ⟨⟨O', l', a0, a1, a2⟩, rfl⟩
    have ct : ∀ (f : Nat → Bool) (u : Int32), u = nI (fb_ct f j) + (if f j = true then 1 else 0) → u = nI (fb_ct f (j + 1)) := fun f u e => by
      rw [e, fb_ct_succ]
      cases f j with
      | true => rw [if_pos rfl, if_pos rfl, nI_1]
      | false => rw [if_neg Bool.false_ne_true, if_neg Bool.false_ne_true, Int32.add_zero]; rfl
    show u_X11_weddingsOf_6 Γ post (nI p) (k + 1) τ (nI j)
    unfold u_X11_weddingsOf_6 w_lw_Jx4a65c_size_8abf5
    rw [O.w]
    dsimp only
    rw [mrg_self]
    refine ⟨fun c => absurd c (nI_ge hj (by omega)), fun _ => sf_wget O hj rfl ⟨⟨by omega, hj⟩, ?_⟩⟩
    rw [mrg_self, O.wd (j := 8) hj (by decide)]
    refine sx_isIn hp ⟨fun c => ?_, fun c => ⟨v0, ?_⟩⟩
    · rw [mrg_self]
      have nb := b01_0.mp c
      have hf : fxw x j p = false := by unfold fxw; rw [nb, Bool.and_false]
      have hl : plw x p j = false := by unfold plw; rw [nb, Bool.and_false]
      refine nx _ O hlo (ct (fun w => fxw x w p) _ ?_) (ct (plw x p) _ ?_) ?_
      · rw [e0]; show _ = _ + (if fxw x j p = true then 1 else 0); rw [hf, if_neg Bool.false_ne_true, Int32.add_zero]
      · rw [e1, hl, if_neg Bool.false_ne_true, Int32.add_zero]
      · rw [e2]
        show _ = _ + (if plw x p j = true then x (73 + j) 4 else 0)
        rw [hl, if_neg Bool.false_ne_true, Int32.add_zero]
    · rw [mrg_self, z0, O.wd (j := 7) hj (by decide)]
      exact step _ τ (nI j) j hj O hlo (b01_1.mp c) (fun τ' O' l' a0 a1 a2 => nx τ' O' l' (ct (fun w => fxw x w p) _ (by rw [a0, e0])) (ct (plw x p) _ (by rw [a1, e1])) (by rw [a2, e2]; rfl))) 0 (by omega) (rw0 σ 64 (fun _ => 0), 0) ⟨⟨O1, fun k hk => rw0_ne (by omega), by show rw0 σ 64 (fun _ => 0) 64 0 = _; rw [rw0_eq]; exact nI_0.symm, by show rw0 σ 64 (fun _ => 0) 64 1 = _; rw [rw0_eq]; exact nI_0.symm, by show rw0 σ 64 (fun _ => 0) 64 2 = _; rw [rw0_eq]; rfl⟩, nI_0.symm⟩
  exact this
theorem sy_ofPlayerNow {post : Int32 → MS → Prop} {p k : Nat} (O : rOk (tR x) Γ σ) (PL : PlI x Γ.2.2.1) (hp : p < Γ.1) (e : a1 = nI p) (hk : k ≤ 8) (e2 : a2 = nI k) (h : ∀ τ, rOk (tR x) Γ τ → (∀ k, k < 64 → τ k = σ k) → post (ofPF x Γ.2.2.1 p k) τ) : w_X11_ofPlayerNow Γ post σ a1 a2 := by
  have hP := O.hP
  subst e
  subst e2
  have kk : ∀ i, i < 9 → nI k = nI i → k = i := fun i hi q => (nI_eq (by omega) (by omega)).mp q
  unfold w_X11_ofPlayerNow
  refine sf_pget O hp rfl ⟨⟨by omega, hp⟩, ?_⟩
  rw [O.pl (j := 0) hp (by decide), O.pl (j := 1) hp (by decide), O.pl (j := 2) hp (by decide), O.pl (j := 3) hp (by decide), O.pl (j := 4) hp (by decide), O.pl (j := 5) hp (by decide)]
  refine ⟨fun c => ?_, fun c0 => ⟨fun c => ?_, fun c1 => ⟨fun c => ?_, fun c2 => ⟨fun c => ?_, fun c3 => ⟨fun c => ?_, fun c4 => ⟨fun c => ?_, fun c5 => ?_⟩⟩⟩⟩⟩⟩
  · obtain rfl := kk 0 (by decide) c; exact h _ O (fun _ _ => rfl)
  · obtain rfl := kk 1 (by decide) c; exact h _ O (fun _ _ => rfl)
  · obtain rfl := kk 2 (by decide) c; exact h _ O (fun _ _ => rfl)
  · obtain rfl := kk 3 (by decide) c; exact h _ O (fun _ _ => rfl)
  · obtain rfl := kk 4 (by decide) c; exact h _ O (fun _ _ => rfl)
  · obtain rfl := kk 5 (by decide) c; exact h _ O (fun _ _ => rfl)
  · have n : ∀ i, i < 6 → ¬ nI k = nI i → k ≠ i := fun i hi q z => q (by rw [z])
    have h6 : 6 ≤ k := by
      have := n 0 (by decide) c0
      have := n 1 (by decide) c1
      have := n 2 (by decide) c2
      have := n 3 (by decide) c3
      have := n 4 (by decide) c4
      have := n 5 (by decide) c5
      omega
    obtain ⟨m6, m7⟩ := PL p (by omega)
    refine sy_weddingsOf O (by omega) (fun f τ O' hlo f0 f1 f2 => ?_)
    have O2 : rOk (tR x) Γ (rw0 (mrg τ σ) 64 f) := O'.mrg.rw0 (by decide)
    have h2 := h _ O2 (fun k hk => by rw [rw0_ne (by omega), mrg_lo hk, hlo k hk])
    have kc : k = 6 ∨ k = 7 ∨ k = 8 := by omega
    rw [rw0_eq]
    rcases kc with rfl | rfl | rfl
    · rw [show (nI 6 - 6 : Int32) = nI 0 by decide]
      exact ⟨vp_in_nI (by decide) (by decide), by rw [nI_clamp (by decide), f0]; exact h2⟩
    · rw [show (nI 7 - 6 : Int32) = nI 1 by decide]
      have h2 : post (x (29 + p) 6) _ := h2
      rw [m6] at h2
      exact ⟨vp_in_nI (by decide) (by decide), by rw [nI_clamp (by decide), f1]; exact h2⟩
    · rw [show (nI 8 - 6 : Int32) = nI 2 by decide]
      have h2 : post (x (29 + p) 7) _ := h2
      rw [m7] at h2
      exact ⟨vp_in_nI (by decide) (by decide), by rw [nI_clamp (by decide), f2]; exact h2⟩
theorem sy_ofPlayer {post : Int32 → MS → Prop} (O : rOk (tR x) Γ σ) (PL : PlI x Γ.2.2.1)
    (h1 : (∀ w, w < Γ.1 → a1 ≠ nI w) → ∀ τ, rOk (tR x) Γ τ → τ 0 0 = 1 → post 0 τ)
    (h2 : ∀ w, w < Γ.1 → a1 = nI w → (∀ k, k ≤ 8 → a2 ≠ nI k) → ∀ τ, rOk (tR x) Γ τ → τ 0 0 = 2 → post 0 τ)
    (h3 : ∀ w k, w < Γ.1 → k ≤ 8 → a1 = nI w → a2 = nI k → ∀ τ, rOk (tR x) Γ τ → τ 0 0 = 0 → post (ofPF x Γ.2.2.1 w k) τ) : w_X11_ofPlayer Γ post σ a1 a2 := by
  unfold w_X11_ofPlayer
  have O0 := O.up (k := 0) (j := 0) (v := 0) (by unfold rPr; omega)
  exact sx_isPlayer O0 (fun no => ⟨fun _ => sx_refuse O0 (h1 no), fun c => absurd rfl c⟩) (fun w r hw e hr => ⟨fun c => absurd c hr, fun _ => sx_isr (lo := 0) (hi := 8) rfl rfl (by decide) (by decide) (fun no => ⟨fun _ => sx_refuse O0 (h2 w hw e (fun k hk => no k (by omega) hk)), fun c => absurd rfl c⟩) (fun k r2 _ hk e2 hr2 => ⟨fun c => absurd c hr2, fun _ => sy_ofPlayerNow O0 PL hw e hk e2 (fun τ O' hlo => h3 w k hw hk e e2 τ O' (by rw [hlo 0 (by decide)]; exact up2_same))⟩)⟩)
theorem sy_free {post : Int32 → MS → Prop} (O : rOk (tR x) Γ σ) (Y : Sy x)
    (h1 : ((∀ p, p < Γ.1 → a1 ≠ nI p) ∨ (∀ w, w < Γ.2.2.1 → a2 ≠ nI w)) → ∀ τ, rOk (tR x) Γ τ → τ 0 0 = 1 → post 0 τ)
    (h3 : ∀ p w, p < Γ.1 → w < Γ.2.2.1 → a1 = nI p → a2 = nI w → ∀ τ, rOk (tR x) Γ τ → τ 0 0 = 0 → post (b01 (freeB (stg x Γ.2.2.1) p w Γ.2.2.1)) τ) : w_X11_free Γ post σ a1 a2 := by
  unfold w_X11_free u_X11_free_21
  have bad : (∀ τ, rOk (tR x) Γ τ → τ 0 0 = 1 → post 0 τ) → u_X11_free_22 Γ post a1 a2 σ 1 := fun h => by
    unfold u_X11_free_22
    rw [up2_same]
    exact ⟨fun c => absurd c (by decide), fun _ => h _ (O.up (by unfold rPr; omega)) up2_same⟩
  refine sx_isPlayer O (fun no => ⟨fun _ => bad (h1 (Or.inl no)), fun c => absurd rfl c⟩) (fun p r hp e hr => ⟨fun c => absurd c hr, fun _ => sx_isWedding O (fun no => ⟨fun _ => bad (h1 (Or.inr no)), fun c => absurd rfl c⟩) (fun w r2 hw e2 hr2 => ⟨fun c => absurd c hr2, fun _ => ?_⟩)⟩)
  have O0 := O.up (k := 0) (j := 0) (v := 0) (by unfold rPr; omega)
  have h3 := h3 p w hp hw e e2 _ O0 up2_same
  unfold u_X11_free_22
  rw [up2_same]
  refine ⟨fun _ => sy_isFree O0 Y hp e hw e2 ⟨fun c => ?_, fun c => ?_⟩, fun c => absurd rfl c⟩
  · rw [b01_0.mp c] at h3; exact h3
  · rw [b01_1.mp c] at h3; exact h3
theorem sn_5 {P W : Nat} (hP : P ≤ 10) : snF x w P W 9 5 = whyR x w P (freeF (stg x W) w W P) := by
  obtain ⟨F, hF, em⟩ := freeF_lt (y := stg x W) (w := w) (W := W) P hP
  rw [(sn_9 (x := x) (w := w) (W := W) hP).2 5 (by decide), em]
  exact surv_why hP hF
theorem sy_fillingNow {post : Int32 → MS → Prop} {k : Nat} (O : rOk (tR x) Γ σ) (Y : Sy x) (S : Sh x Γ) (G : Gs x) (hw : w < Γ.2.2.1) (e : a1 = nI w) (hk : k ≤ 3) (e2 : a2 = nI k) (h : post (fillF (snF x w Γ.1 Γ.2.2.1) k) σ) : w_X11_fillingNow Γ post σ a1 a2 := by
  have hW := O.hW
  have hP := O.hP
  subst e2
  have kk : ∀ i, i < 4 → nI k = nI i → k = i := fun i hi q => (nI_eq (by omega) (by omega)).mp q
  have s0 := sn_0 (x := x) (w := w) (W := Γ.2.2.1) hP
  have s1 := sn_1 (x := x) (w := w) (W := Γ.2.2.1) hP
  unfold w_X11_fillingNow
  refine ⟨fun c => ?_, fun c2 => ⟨fun c => ?_, fun c3 => sy_best O Y S G hw e ?_⟩⟩
  · obtain rfl := kk 2 (by decide) c
    have h : post (snF x w Γ.1 Γ.2.2.1 9 3) σ := h
    rw [sn_3 hP] at h
    exact sy_fillings O Y S G hw e h
  · obtain rfl := kk 3 (by decide) c
    have h : post (snF x w Γ.1 Γ.2.2.1 9 5) σ := h
    rw [sn_5 hP] at h
    exact sy_why O Y S G hw e h
  · rw [and_all]
    unfold frR
    refine ⟨fun c => ?_, fun c => ⟨fun d => ?_, fun d => sf_wget O hw e ⟨⟨by omega, hw⟩, sy_costOf O Y hw ?_⟩⟩⟩
    · obtain rfl := kk 0 (by decide) c
      have h : post (snF x w Γ.1 Γ.2.2.1 9 0) σ := h
      rw [s0] at h
      exact h
    · have : k = 1 := by
        have q2 : k ≠ 2 := fun z => c2 (by rw [z]; rfl)
        have q3 : k ≠ 3 := fun z => c3 (by rw [z]; rfl)
        have q0 : k ≠ 0 := fun z => c (by rw [z]; rfl)
        omega
      subst this
      have h : post (snF x w Γ.1 Γ.2.2.1 9 1) σ := h
      rw [s1, if_pos d] at h
      rw [d]
      exact h
    · have : k = 1 := by
        have q2 : k ≠ 2 := fun z => c2 (by rw [z]; rfl)
        have q3 : k ≠ 3 := fun z => c3 (by rw [z]; rfl)
        have q0 : k ≠ 0 := fun z => c (by rw [z]; rfl)
        omega
      subst this
      have h : post (snF x w Γ.1 Γ.2.2.1 9 1) σ := h
      rw [s1, if_neg d] at h
      exact h
theorem sy_filling {post : Int32 → MS → Prop} (O : rOk (tR x) Γ σ) (Y : Sy x) (S : Sh x Γ) (G : Gs x)
    (h1 : (∀ w, w < Γ.2.2.1 → a1 ≠ nI w) → ∀ τ, rOk (tR x) Γ τ → τ 0 0 = 1 → post 0 τ)
    (h2 : ∀ w, w < Γ.2.2.1 → a1 = nI w → (∀ k, k ≤ 3 → a2 ≠ nI k) → ∀ τ, rOk (tR x) Γ τ → τ 0 0 = 2 → post 0 τ)
    (h3 : ∀ w k, w < Γ.2.2.1 → k ≤ 3 → a1 = nI w → a2 = nI k → ∀ τ, rOk (tR x) Γ τ → τ 0 0 = 0 → post (fillF (snF x w Γ.1 Γ.2.2.1) k) τ) : w_X11_filling Γ post σ a1 a2 := by
  unfold w_X11_filling
  have O0 := O.up (k := 0) (j := 0) (v := 0) (by unfold rPr; omega)
  exact sx_isWedding O0 (fun no => ⟨fun _ => sx_refuse O0 (h1 no), fun c => absurd rfl c⟩) (fun w r hw e hr => ⟨fun c => absurd c hr, fun _ => sx_isr (lo := 0) (hi := 3) rfl rfl (by decide) (by decide) (fun no => ⟨fun _ => sx_refuse O0 (h2 w hw e (fun k hk => no k (by omega) hk)), fun c => absurd rfl c⟩) (fun k r2 _ hk e2 hr2 => ⟨fun c => absurd c hr2, fun _ => sy_fillingNow O0 Y S G hw e hk e2 (h3 w k hw hk e e2 _ O0 up2_same)⟩)⟩)
theorem keyF_go {s : Int32} {U : Nat → Int32 → Prop} {post : Int32 → Prop} : ∀ n i, post (keyF s n i) → (∀ j k, i ≤ j → j < i + n → (bt s j = true → post (nI j)) → (¬ bt s j = true → U k (nI j + 1)) → U (k + 1) (nI j)) → (∀ k, post (-1) → U (k + 1) (nI (i + n))) → U (n + 1) (nI i)
  | 0, i, h, _, hz => hz 0 h
  | n + 1, i, h, hs, hz => by
    unfold keyF at h
    refine hs i (n + 1) (Nat.le_refl i) (by omega) (fun c => by rw [if_pos c] at h; exact h) (fun c => ?_)
    rw [if_neg c] at h
    rw [nI_1]
    exact keyF_go n (i + 1) h (fun j k h1 h2 => hs j k (by omega) (by omega)) (fun k hp => by rw [show i + 1 + n = i + (n + 1) by omega]; exact hz k hp)
theorem sy_key {post : Int32 → MS → Prop} (O : rOk (tR x) Γ σ) (Y : Sy x) (S : Sh x Γ) (G : Gs x)
    (h1 : (∀ w, w < Γ.2.2.1 → a1 ≠ nI w) → ∀ τ, rOk (tR x) Γ τ → τ 0 0 = 1 → post 0 τ)
    (h3 : ∀ w, w < Γ.2.2.1 → a1 = nI w → ∀ τ, rOk (tR x) Γ τ → τ 0 0 = 0 → post (if snF x w Γ.1 Γ.2.2.1 9 3 = 0 then -1 else keyF (snF x w Γ.1 Γ.2.2.1 9 4) Γ.1 0) τ) : w_X11_key Γ post σ a1 := by
  have hP := O.hP
  unfold w_X11_key
  have O0 := O.up (k := 0) (j := 0) (v := 0) (by unfold rPr; omega)
  refine sx_isWedding O0 (fun no => ⟨fun _ => sx_refuse O0 (h1 no), fun c => absurd rfl c⟩) (fun w r hw e hr => ⟨fun c => absurd c hr, fun _ => sy_best O0 Y S G hw e ?_⟩)
  have h3 := h3 w hw e _ O0 up2_same
  rw [and_all]
  have hno := sn_no (x := x) (w := w) (W := Γ.2.2.1) hP
  obtain ⟨F, hF, em⟩ := freeF_lt (y := stg x Γ.2.2.1) (w := w) (W := Γ.2.2.1) Γ.1 hP
  have e4 : snF x w Γ.1 Γ.2.2.1 9 4 = alR x w Γ.1 (nI F) (2 ^ Γ.1 - 1) := by
    obtain ⟨q1, q2⟩ := sn_9 (x := x) (w := w) (W := Γ.2.2.1) hP
    rw [q2 4 (by decide), ← em]
    exact q1.2.2.2.2.1
  unfold frR
  refine ⟨fun d => ?_, fun d => ⟨Γ.1 + 1, ?_⟩⟩
  · rw [if_pos (hno.mpr d)] at h3
    exact h3
  · rw [if_neg (fun z => d (hno.mp z)), e4] at h3
    refine keyF_go (s := alR x w Γ.1 (nI F) (2 ^ Γ.1 - 1)) (U := fun k v => u_X11_key_34 Γ post a1 k (up2 σ 0 0 0) v) (post := fun v => post v (up2 σ 0 0 0)) Γ.1 0 h3 (fun j k g1 g2 hp hn => ?_) (fun k hp => ?_)
    · have hj : j < Γ.1 := by omega
      show u_X11_key_34 Γ post a1 (k + 1) (up2 σ 0 0 0) (nI j)
      unfold u_X11_key_34 w_lp_Jx4a65c_size_8abf5
      rw [O0.p]
      refine ⟨fun c => absurd c (nI_ge hj (by omega)), fun _ => sy_best O0 Y S G hw e ?_⟩
      have hk := key_is (x := x) (w := w) hP hF hj
      unfold frR
      rw [em]
      exact ⟨fun c => hp (hk.mp c), fun c => hn (fun z => c (hk.mpr z))⟩
    · show u_X11_key_34 Γ post a1 (k + 1) (up2 σ 0 0 0) (nI (0 + Γ.1))
      unfold u_X11_key_34 w_lp_Jx4a65c_size_8abf5
      rw [O0.p, Nat.zero_add]
      exact ⟨fun _ => hp, fun c => absurd (le_self _) c⟩
end ASKB
end
section
/-! THE DESK, SOUNDNESS, ON BOTH SIDES -/
/-- days off of the first n players, ahead of day D -/
def offN (x : MS) (D : Nat) : Nat → Nat
  | 0 => 0
  | n + 1 => offN x D n + fb_ct (fun d => bt (x 6 d) n) D
section DESKB
variable {x y z : MS} {Tm : MS} {Γ : RG} {σ τ ρ : MS} {a a0 a1 a2 a3 a4 b c : Int32} {w P B W T : Nat}
theorem offN_s (D : Nat) : ∀ n, offN x (D + 1) n = offN x D n + fb_ct (fun p => bt (x 6 D) p) n
  | 0 => rfl
  | n + 1 => by
    show offN x (D + 1) n + fb_ct (fun d => bt (x 6 d) n) (D + 1) = offN x D n + fb_ct (fun d => bt (x 6 d) n) D + fb_ct (fun p => bt (x 6 D) p) (n + 1)
    rw [offN_s D n, fb_ct_succ, fb_ct_succ]
    omega
theorem bits_lt {v : Int32} (h : ∀ p, P ≤ p → bt v p = false) : ∃ s, s < 2 ^ P ∧ v = nI s :=
  ⟨v.toBitVec.toNat, Nat.lt_pow_two_of_testBit _ (fun i hi => h i hi), nI_bv v⟩
theorem off_sum (hP : P ≤ 10) (FOx : FO x P) : ∀ D, D ≤ 366 → sumI (fun d => bcI (x 6 d)) D = nI (offN x D P)
  | 0, _ => by
    have : ∀ n, offN x 0 n = 0 := fun n => by
      induction n with
      | zero => rfl
      | succ n ih => show offN x 0 n + fb_ct _ 0 = 0; rw [ih]; rfl
    rw [this]
    exact nI_0.symm
  | D + 1, hD => by
    obtain ⟨s, hs, es⟩ := bits_lt (FOx D (by omega))
    show sumI (fun d => bcI (x 6 d)) D + bcI (x 6 D) = _
    rw [off_sum hP FOx D (by omega), offN_s, es, bc_P hP hs, nI_add]
theorem mnI_big {f : Nat → Int32} {m : Int32} (h : f 0 < m) : ∀ n, 1 ≤ n → mnI f m n = mnI f (f 0) n
  | 0, hn => absurd hn (by omega)
  | n + 1, _ => by
    rcases Nat.eq_zero_or_pos n with e | e
    · subst e
      show (if f 0 < m then f 0 else m) = (if f 0 < f 0 then f 0 else f 0)
      rw [if_pos h]
      split <;> rfl
    · unfold mnI
      rw [mnI_big h n e]
theorem sy_apart {post : Int32 → MS → Prop} (O : rOk (tR x) Γ σ) (PL : PlI x Γ.2.2.1) (hb : Γ.1 = 0 ∨ x 29 7 < 9999) (h : ∀ τ, rOk (tR x) Γ τ → (∀ k, k < 64 → τ k = σ k) → post (gapF x Γ.1) τ) : w_X11_apart Γ post σ := by
  have hP := O.hP
  have key : ∀ m : Int32, (∀ τ, rOk (tR x) Γ τ → (∀ k, k < 64 → τ k = σ k) → post (mxI (fun p => x (29 + p) 7) 0 Γ.1 - mnI (fun p => x (29 + p) 7) m Γ.1) τ) → ∃ k, k ≤ 11 ∧ u_X11_apart_22 Γ post k σ 0 m 0 := by
    intro m h
    have := inv_loop_b (fun k (q : MS × Int32 × Int32 × Int32) => u_X11_apart_22 Γ post k q.1 q.2.1 q.2.2.1 q.2.2.2) (fun j q => (rOk (tR x) Γ q.1 ∧ (∀ k, k < 64 → q.1 k = σ k) ∧ q.2.1 = mxI (fun p => x (29 + p) 7) 0 j ∧ q.2.2.1 = mnI (fun p => x (29 + p) 7) m j) ∧ q.2.2.2 = nI j) Γ.1 11 (by omega) (by
      rintro ⟨τ, u, v, i⟩ ⟨⟨O, hlo, rfl, rfl⟩, rfl⟩
      have O : rOk (tR x) Γ τ := O
      show u_X11_apart_22 Γ post 1 τ _ _ (nI Γ.1)
      unfold u_X11_apart_22 w_lp_Jx4a65c_size_8abf5
      rw [O.p]
      exact ⟨fun _ => h _ O hlo, fun c => absurd (le_self _) c⟩) (by
      rintro j k ⟨τ, u, v, i⟩ hj ⟨⟨O, hlo, rfl, rfl⟩, rfl⟩ ih
      have O : rOk (tR x) Γ τ := O
      have hlo : ∀ k, k < 64 → τ k = σ k := hlo
      have nx : ∀ τ' u v, rOk (tR x) Γ τ' → (∀ k, k < 64 → τ' k = σ k) → u = mxI (fun p => x (29 + p) 7) 0 (j + 1) → v = mnI (fun p => x (29 + p) 7) m (j + 1) → u_X11_apart_22 Γ post k τ' u v (nI j + 1) := fun τ' u v O' l' e1 e2 => by rw [nI_1]; exact ih (τ', u, v, nI (j + 1)) ⟨⟨O', l', e1, e2⟩, rfl⟩
      have e7 := (PL j (by omega)).2
      show u_X11_apart_22 Γ post (k + 1) τ (mxI (fun p => x (29 + p) 7) 0 j) (mnI (fun p => x (29 + p) 7) m j) (nI j)
      unfold u_X11_apart_22 w_lp_Jx4a65c_size_8abf5
      rw [O.p]
      refine ⟨fun c => absurd c (nI_ge hj (by omega)), fun _ => sy_weddingsOf O (by omega) (fun f τ' O' l' f0 f1 f2 => ⟨vp_in_nI (n := 2) (by decide) (by decide), ?_⟩)⟩
      have ef : rw0 (mrg τ' τ) 64 f 64 (Int32.toNatClampNeg 2) = x (29 + j) 7 := by
        rw [rw0_eq, e7]
        exact f2
      rw [ef]
      exact nx _ _ _ (O'.mrg.rw0 (by decide)) (fun k hk => by rw [rw0_ne (by omega), mrg_lo hk, l' k hk, hlo k hk]) rfl rfl) (σ, 0, m, 0) ⟨⟨O, fun _ _ => rfl, rfl, rfl⟩, nI_0.symm⟩
    exact this
  unfold gapF at h
  unfold w_X11_apart w_lp_Jx4a65c_isEmpty_aae02
  rw [O.p]
  by_cases e : Γ.1 = 0
  · refine ⟨fun _ => ⟨fun c => absurd c (by decide), fun _ => key 0 (fun τ O' l' => ?_)⟩, fun z => absurd (show nI Γ.1 = 0 by rw [e]; exact nI_0) z⟩
    have := h τ O' l'
    rw [if_pos e] at this
    exact this
  · refine ⟨fun z => absurd ((nI_eq (by omega) (by decide)).mp (z.trans nI_0.symm)) e, fun _ => ⟨fun _ => key 9999 (fun τ O' l' => ?_), fun c => absurd rfl c⟩⟩
    have := h τ O' l'
    rw [if_neg e] at this
    rw [mnI_big (hb.resolve_left e) Γ.1 (by omega)]
    exact this
theorem sy_deskNow {post : Int32 → MS → Prop} {k : Nat} (Oc : Ok x Γ.1 Γ.2.1 Γ.2.2.1 T) (O : rOk (tR x) Γ σ) (PL : PlI x Γ.2.2.1) (FOx : FO x Γ.1) (hb : Γ.1 = 0 ∨ x 29 7 < 9999) (hk : k ≤ 12) (e : a1 = nI k) (h : ∀ τ, rOk (tR x) Γ τ → (∀ k, k < 64 → τ k = σ k) → post (deskF x Γ.1 Γ.2.2.1 k) τ) : w_X11_deskNow Γ post σ a1 := by
  have hP := O.hP
  have hW := O.hW
  subst e
  have kk : ∀ i, i < 13 → nI k = nI i → k = i := fun i hi q => (nI_eq (by omega) (by omega)).mp q
  have h0 := h σ O (fun _ _ => rfl)
  have d95 : ∀ s : Int32, nI k - 4 = s → post (nI (fb_ct (fun w => decide (x (73 + w) 7 = s)) Γ.2.2.1)) σ → ∃ n, u_X11_deskNow_95 Γ post (nI k) n σ 0 0 := fun s es h => by
    refine up_loop (fun n (q : Int32 × Int32) => u_X11_deskNow_95 Γ post (nI k) n σ q.1 q.2) (fun i => (nI (fb_ct (fun w => decide (x (73 + w) 7 = s)) i), nI i)) Γ.2.2.1 ?_ (fun i n hi hn => ?_)
    · show u_X11_deskNow_95 Γ post (nI k) 1 σ (nI (fb_ct (fun w => decide (x (73 + w) 7 = s)) Γ.2.2.1)) (nI Γ.2.2.1)
      unfold u_X11_deskNow_95 w_lw_Jx4a65c_size_8abf5
      rw [O.w]
      exact ⟨fun _ => h, fun c => absurd (le_self _) c⟩
    · have hn : ∀ u, u = nI (fb_ct (fun w => decide (x (73 + w) 7 = s)) i + (if decide (x (73 + i) 7 = s) = true then 1 else 0)) → u_X11_deskNow_95 Γ post (nI k) n σ u (nI (i + 1)) := fun u e => by rw [e]; exact hn
      show u_X11_deskNow_95 Γ post (nI k) (n + 1) σ (nI (fb_ct (fun w => decide (x (73 + w) 7 = s)) i)) (nI i)
      unfold u_X11_deskNow_95 w_lw_Jx4a65c_size_8abf5
      rw [O.w, nI_1 i, es]
      refine ⟨fun c => absurd c (nI_ge hi (by omega)), fun _ => sf_wget O hi rfl ⟨⟨by omega, hi⟩, ?_⟩⟩
      rw [O.wd (j := 7) hi (by decide)]
      refine ⟨fun c => hn _ ?_, fun c => hn _ ?_⟩
      · rw [decide_eq_true c, if_pos rfl, nI_1]
      · rw [decide_eq_false c, if_neg Bool.false_ne_true, Int32.add_zero]
        rfl
  unfold w_X11_deskNow w_lp_Jx4a65c_size_8abf5 w_lb_Jx4a65c_size_8abf5 w_lw_Jx4a65c_size_8abf5
  rw [O.p, O.b, O.w, O.tdy, O.csh]
  refine ⟨fun c => ?_, fun c0 => ⟨fun c => ?_, fun c1 => ⟨fun c => ?_, fun c2 => ⟨fun c => ?_, fun c3 => ⟨fun c => ?_, fun c4 => ⟨fun c => ?_, fun c5 => ⟨fun c => ?_, fun c6 => ⟨fun c => ?_, fun c7 => ⟨fun c => ?_, fun c8 => ⟨fun c => ?_, fun c9 => ⟨fun c => ?_, fun c10 => ⟨fun c => ?_, fun c11 => ?_⟩⟩⟩⟩⟩⟩⟩⟩⟩⟩⟩⟩
  · obtain rfl := kk 0 (by decide) c; exact h0
  · obtain rfl := kk 1 (by decide) c
    have h0 : post (x 0 6) σ := h0
    rw [Oc.h6] at h0; exact h0
  · obtain rfl := kk 2 (by decide) c
    have h0 : post (x 0 7) σ := h0
    rw [Oc.h7] at h0; exact h0
  · obtain rfl := kk 3 (by decide) c
    have h0 : post (x 0 8) σ := h0
    rw [Oc.h8] at h0; exact h0
  · obtain rfl := kk 4 (by decide) c; exact d95 0 (by decide) h0
  · obtain rfl := kk 5 (by decide) c; exact d95 1 (by decide) h0
  · obtain rfl := kk 6 (by decide) c; exact d95 2 (by decide) h0
  · obtain rfl := kk 7 (by decide) c; exact d95 3 (by decide) h0
  · obtain rfl := kk 8 (by decide) c; exact h0
  · obtain rfl := kk 9 (by decide) c
    have h0 : post (sumI (fun p => bcI (x (29 + p) 4)) Γ.1 / 2) σ := h0
    refine up_loop (fun n (q : Int32 × Int32) => u_X11_deskNow_149 Γ post (nI 9) n σ q.1 q.2) (fun i => (sumI (fun p => bcI (x (29 + p) 4)) i, nI i)) Γ.1 ?_ (fun i n hi hn => ?_)
    · show u_X11_deskNow_149 Γ post (nI 9) 1 σ (sumI (fun p => bcI (x (29 + p) 4)) Γ.1) (nI Γ.1)
      unfold u_X11_deskNow_149 w_lp_Jx4a65c_size_8abf5
      rw [O.p]
      exact ⟨fun _ => h0, fun c => absurd (le_self _) c⟩
    · show u_X11_deskNow_149 Γ post (nI 9) (n + 1) σ (sumI (fun p => bcI (x (29 + p) 4)) i) (nI i)
      unfold u_X11_deskNow_149 w_lp_Jx4a65c_size_8abf5
      rw [O.p, nI_1]
      refine ⟨fun c => absurd c (nI_ge hi (by omega)), fun _ => sf_pget O hi rfl ⟨⟨by omega, hi⟩, ?_⟩⟩
      rw [O.pl (j := 4) hi (by decide)]
      exact sx_bc hn
  · obtain rfl := kk 10 (by decide) c
    have h0 : post (sumI (fun p => x (29 + p) 5) Γ.1) σ := h0
    refine up_loop (fun n (q : Int32 × Int32) => u_X11_deskNow_192 Γ post (nI 10) n σ q.1 q.2) (fun i => (sumI (fun p => x (29 + p) 5) i, nI i)) Γ.1 ?_ (fun i n hi hn => ?_)
    · show u_X11_deskNow_192 Γ post (nI 10) 1 σ (sumI (fun p => x (29 + p) 5) Γ.1) (nI Γ.1)
      unfold u_X11_deskNow_192 w_lp_Jx4a65c_size_8abf5
      rw [O.p]
      exact ⟨fun _ => h0, fun c => absurd (le_self _) c⟩
    · show u_X11_deskNow_192 Γ post (nI 10) (n + 1) σ (sumI (fun p => x (29 + p) 5) i) (nI i)
      unfold u_X11_deskNow_192 w_lp_Jx4a65c_size_8abf5
      rw [O.p, nI_1]
      refine ⟨fun c => absurd c (nI_ge hi (by omega)), fun _ => sf_pget O hi rfl ⟨⟨by omega, hi⟩, ?_⟩⟩
      rw [O.pl (j := 5) hi (by decide)]
      exact hn
  · obtain rfl := kk 11 (by decide) c
    have h0 : post (sumI (fun d => bcI (x 6 d)) 366) σ := h0
    rw [off_sum hP FOx 366 (Nat.le_refl _)] at h0
    refine up_loop (fun n (q : Int32 × Int32) => u_X11_deskNow_230 Γ post (nI 11) n σ q.1 q.2) (fun i => (nI (offN x 366 i), nI i)) Γ.1 ?_ (fun i n hi hn => ?_)
    · show u_X11_deskNow_230 Γ post (nI 11) 1 σ (nI (offN x 366 Γ.1)) (nI Γ.1)
      unfold u_X11_deskNow_230 w_lp_Jx4a65c_size_8abf5
      rw [O.p]
      exact ⟨fun _ => h0, fun c => absurd (le_self _) c⟩
    · have hn : u_X11_deskNow_230 Γ post (nI 11) n σ (nI (offN x 366 i + fb_ct (fun d => bt (x 6 d) i) 366)) (nI (i + 1)) := hn
      show u_X11_deskNow_230 Γ post (nI 11) (n + 1) σ (nI (offN x 366 i)) (nI i)
      unfold u_X11_deskNow_230 w_lp_Jx4a65c_size_8abf5
      rw [O.p]
      refine ⟨fun c => absurd c (nI_ge hi (by omega)), fun _ => sf_pget O hi rfl ⟨⟨by omega, hi⟩, ?_⟩⟩
      refine up_loop (fun m (q : Int32 × Int32) => u_X11_deskNow_265 Γ post (nI 11) (fun σ w0 w1 => u_X11_deskNow_230 Γ post (nI 11) n σ w0 w1) m σ q.1 (nI i) i (nI 366) q.2) (fun d => (nI (offN x 366 i + fb_ct (fun d => bt (x 6 d) i) d), nI d)) 366 ?_ (fun d m hd hm => ?_)
      · show u_X11_deskNow_265 Γ post (nI 11) _ 1 σ (nI (offN x 366 i + fb_ct (fun d => bt (x 6 d) i) 366)) (nI i) i (nI 366) (nI 366)
        unfold u_X11_deskNow_265
        rw [nI_1]
        exact ⟨fun _ => hn, fun c => absurd (le_self _) c⟩
      · have hm : ∀ u, u = nI (offN x 366 i + (fb_ct (fun d => bt (x 6 d) i) d + (if bt (x 6 d) i = true then 1 else 0))) → u_X11_deskNow_265 Γ post (nI 11) (fun σ w0 w1 => u_X11_deskNow_230 Γ post (nI 11) n σ w0 w1) m σ u (nI i) i (nI 366) (nI (d + 1)) := fun u e => by rw [e]; exact hm
        show u_X11_deskNow_265 Γ post (nI 11) _ (m + 1) σ (nI (offN x 366 i + fb_ct (fun d => bt (x 6 d) i) d)) (nI i) i (nI 366) (nI d)
        unfold u_X11_deskNow_265
        rw [nI_1 d, nI_clamp (by omega), O.off hi hd]
        refine ⟨fun c => absurd c (nI_ge hd (by decide)), fun _ => ⟨vp_in_nI hd (by decide), fun c => hm _ ?_, fun c => hm _ ?_⟩⟩
        · rw [if_neg (by rw [b01_0.mp c]; exact Bool.false_ne_true), Int32.add_zero]
          rfl
        · rw [if_pos (b01_1.mp c), nI_1]
          rfl
  · have n : ∀ i, i < 13 → ¬ nI k = nI i → k ≠ i := fun i hi q z => q (by rw [z])
    have : k = 12 := by
      have := n 0 (by decide) c0
      have := n 1 (by decide) c1
      have := n 2 (by decide) c2
      have := n 3 (by decide) c3
      have := n 4 (by decide) c4
      have := n 5 (by decide) c5
      have := n 6 (by decide) c6
      have := n 7 (by decide) c7
      have := n 8 (by decide) c8
      have := n 9 (by decide) c9
      have := n 10 (by decide) c10
      have := n 11 (by decide) c11
      omega
    subst this
    exact sy_apart O PL hb h
theorem sy_desk {post : Int32 → MS → Prop} (Oc : Ok x Γ.1 Γ.2.1 Γ.2.2.1 T) (O : rOk (tR x) Γ σ) (PL : PlI x Γ.2.2.1) (FOx : FO x Γ.1) (hb : Γ.1 = 0 ∨ x 29 7 < 9999)
    (h1 : (∀ k, k ≤ 12 → a1 ≠ nI k) → ∀ τ, rOk (tR x) Γ τ → τ 0 0 = 1 → post 0 τ)
    (h3 : ∀ k, k ≤ 12 → a1 = nI k → ∀ τ, rOk (tR x) Γ τ → τ 0 0 = 0 → post (deskF x Γ.1 Γ.2.2.1 k) τ) : w_X11_desk Γ post σ a1 := by
  unfold w_X11_desk
  have O0 := O.up (k := 0) (j := 0) (v := 0) (by unfold rPr; omega)
  exact sx_isr (lo := 0) (hi := 12) rfl rfl (by decide) (by decide) (fun no => ⟨fun _ => sx_refuse O0 (h1 (fun k hk => no k (by omega) hk)), fun c => absurd rfl c⟩) (fun k r2 _ hk e2 hr2 => ⟨fun c => absurd c hr2, fun _ => sy_deskNow Oc O0 PL FOx hb hk e2 (fun τ O' hlo => h3 k hk e2 τ O' (by rw [hlo 0 (by decide)]; exact up2_same))⟩)
theorem taken_i {u v : Int32} : ∀ n, (taken x u v n = true ↔ ∃ w, w < n ∧ x (73 + w) 7 = 1 ∧ x (73 + w) 0 = u ∧ x (73 + w) 1 = v)
  | 0 => ⟨fun h => (Bool.false_ne_true h).elim, fun ⟨w, hw, _⟩ => absurd hw (by omega)⟩
  | n + 1 => by
    unfold taken
    rw [Bool.or_eq_true, taken_i n, decide_eq_true_iff]
    constructor
    · rintro (⟨w, hw, h⟩ | h)
      · exact ⟨w, by omega, h⟩
      · exact ⟨n, by omega, h⟩
    · rintro ⟨w, hw, h⟩
      by_cases e : w = n
      · subst e; exact Or.inr h
      · exact Or.inl ⟨w, by omega, h⟩
theorem hrsD_eq (σ : MS) (v : Int32) : ∀ n, hrsD σ v n = v - sumI (hoW σ) n
  | 0 => by show v = v - 0; grind
  | n + 1 => by
    unfold hrsD
    rw [hrsD_eq σ v n]
    show _ = v - (sumI (hoW σ) n + hoW σ n)
    unfold hoW
    split
    · grind
    · grind
theorem sy_isSoundNow {post : Int32 → MS → Prop} (Oc : Ok x Γ.1 Γ.2.1 Γ.2.2.1 T) (O : rOk (tR x) Γ σ) (S : Sh x Γ) (PL : PlI x Γ.2.2.1) (FOx : FO x Γ.1) (hb : Γ.1 = 0 ∨ x 29 7 < 9999) (h4 : D4 x Γ.1 Γ.2.2.1) (h : ∀ τ, rOk (tR x) Γ τ → (∀ k, k < 64 → τ k = σ k) → post (b01 (sndB x Γ.1 Γ.2.2.1)) τ) : w_X11_isSoundNow Γ post σ := by
  have hP := O.hP
  have hW := O.hW
  have hB := O.hB
  have hhr : hrsD x (hrsI x Γ.1) Γ.2.2.1 = 0 := by
    rw [hrsD_eq, show hrsI x Γ.1 = sumI (hoW x) Γ.2.2.1 from h4]
    grind
  unfold sndB at h
  rw [hhr, decide_eq_true rfl, Bool.true_and] at h
  have no : allFx x Γ.2.2.1 = false → post 0 σ := fun e => by
    have := h σ O (fun _ _ => rfl)
    rw [e] at this
    exact this
  have d158 : allFx x Γ.2.2.1 = true → ∃ k, u_X11_isSoundNow_158 Γ post k σ (paidI x Γ.2.2.1) 0 0 := fun ha => by
    rw [ha, Bool.true_and] at h
    refine up_loop (fun k (q : Int32 × Int32) => u_X11_isSoundNow_158 Γ post k σ (paidI x Γ.2.2.1) q.1 q.2) (fun i => (shrI x i, nI i)) 16 ?_ (fun i k hi hk => ?_)
    · show u_X11_isSoundNow_158 Γ post 1 σ (paidI x Γ.2.2.1) (shrI x 16) (nI 16)
      unfold u_X11_isSoundNow_158
      refine ⟨fun _ => sy_deskNow (k := 10) Oc O PL FOx hb (by decide) rfl (fun τ O' hlo => ?_), fun c => absurd (le_self (nI 16)) c⟩
      have h := h τ O' hlo
      rw [O.csh]
      have e10 : deskF x Γ.1 Γ.2.2.1 10 = earnI x Γ.1 := rfl
      rw [e10]
      refine ⟨fun c => ⟨fun d => ?_, fun d => ?_⟩, fun c => ?_⟩
      · rw [decide_eq_true c, Bool.true_and, decide_eq_false (fun z => z d)] at h; exact h
      · rw [decide_eq_true c, Bool.true_and, decide_eq_true d] at h; exact h
      · rw [decide_eq_false c, Bool.false_and] at h; exact h
    · have hk : u_X11_isSoundNow_158 Γ post k σ (paidI x Γ.2.2.1) (shrI x i + shareF x i) (nI (i + 1)) := hk
      show u_X11_isSoundNow_158 Γ post (k + 1) σ (paidI x Γ.2.2.1) (shrI x i) (nI i)
      unfold u_X11_isSoundNow_158
      rw [nI_1]
      exact ⟨fun c => absurd (show nI 16 ≤ nI i from c) (nI_ge hi (by decide)), fun _ => sy_share O hi hk⟩
  have key : ∀ n i, i + n = Γ.2.2.1 → allFx x i = true → u_X11_isSoundNow_6 Γ post (n + 1) σ (paidI x i) 0 (nI i) := by
    intro n
    induction n with
    | zero =>
      intro i hi ha
      obtain rfl : i = Γ.2.2.1 := by omega
      unfold u_X11_isSoundNow_6 w_lw_Jx4a65c_size_8abf5
      rw [O.w]
      exact ⟨fun _ => d158 ha, fun c => absurd (le_self _) c⟩
    | succ n ih =>
      intro i hi ha
      have hiW : i < Γ.2.2.1 := by omega
      have ep : paidI x (i + 1) = paidI x i + x (73 + i) 11 := rfl
      have ea : allFx x (i + 1) = (allFx x i && (!decide (x (73 + i) 7 = 1) || fixSnd x i)) := rfl
      have nx : allFx x (i + 1) = true → u_X11_isSoundNow_6 Γ post (n + 1) σ (paidI x i + x (73 + i) 11) 0 (nI i + 1) := fun g => by rw [nI_1, ← ep]; exact ih (i + 1) (by omega) g
      have nn : allFx x (i + 1) = false → post 0 σ := fun g => no (allFx_le (by omega) g)
      rw [ea, ha, Bool.true_and] at nx nn
      obtain ⟨b, m, sz, hb', eb, hbd, m2, g1, z1, g2, g3, g4⟩ := S.get O hiW
      unfold u_X11_isSoundNow_6 w_lw_Jx4a65c_size_8abf5
      rw [O.w]
      refine ⟨fun c => absurd c (nI_ge hiW (by omega)), fun _ => sf_wget O hiW rfl ⟨⟨by omega, hiW⟩, ?_⟩⟩
      rw [O.wd (j := 7) hiW (by decide), O.wd (j := 8) hiW (by decide), O.wd (j := 11) hiW (by decide)]
      refine ⟨fun c => sx_bc ?_, fun c => nx (by rw [decide_eq_false c]; rfl)⟩
      rw [O.wd (j := 0) hiW (by decide)]
      refine sf_lbget O hb' eb ⟨hb', ?_⟩
      rw [decide_eq_true c] at nx nn
      unfold w_in_J6_intValue_8abf5
      rw [g1]
      refine law_X11_needed_ ?_
      rw [g2]
      have ef : fixSnd x i = (decide (bcI (x (73 + i) 8) = nI sz) && !taken x (x (73 + i) 0) (x (73 + i) 1) i) := by
        unfold fixSnd
        rw [hbd, g3]
      rw [ef] at nx nn
      refine ⟨fun d => ?_, fun d => nn (by rw [decide_eq_false d]; rfl)⟩
      rw [decide_eq_true d, Bool.true_and] at nx nn
      have key2 : ∀ m j, j + m = i → (∀ v, v < j → ¬ (x (73 + v) 7 = 1 ∧ x (73 + v) 0 = x (73 + i) 0 ∧ x (73 + v) 1 = x (73 + i) 1)) → u_X11_isSoundNow_87 Γ post (fun σ w0 w1 w2 => u_X11_isSoundNow_6 Γ post (n + 1) σ w0 w1 w2) (m + 1) σ (paidI x i + x (73 + i) 11) 0 (nI i) i (nI j) := by
        intro m
        induction m with
        | zero =>
          intro j hj hno
          obtain rfl : j = i := by omega
          unfold u_X11_isSoundNow_87
          refine ⟨fun _ => nx ?_, fun c => absurd (le_self _) c⟩
          have : taken x (x (73 + j) 0) (x (73 + j) 1) j = false := Bool.eq_false_iff.mpr (fun z => by
            obtain ⟨v, hv, q⟩ := (taken_i j).mp z
            exact hno v hv q)
          rw [this]
          rfl
        | succ m ihm =>
          intro j hj hno
          have hjW : j < Γ.2.2.1 := by omega
          have st : ¬ (x (73 + j) 7 = 1 ∧ x (73 + j) 0 = x (73 + i) 0 ∧ x (73 + j) 1 = x (73 + i) 1) → u_X11_isSoundNow_87 Γ post (fun σ w0 w1 w2 => u_X11_isSoundNow_6 Γ post (n + 1) σ w0 w1 w2) (m + 1) σ (paidI x i + x (73 + i) 11) 0 (nI i) i (nI j + 1) := fun g => by
            rw [nI_1]
            refine ihm (j + 1) (by omega) (fun v hv => ?_)
            rcases Nat.eq_or_lt_of_le (Nat.le_of_lt_succ hv) with z | z
            · rw [z]; exact g
            · exact hno v z
          unfold u_X11_isSoundNow_87
          refine ⟨fun c => absurd c (nI_ge (by omega) (by omega)), fun _ => sf_wget O hjW rfl ⟨⟨by omega, hjW⟩, ?_⟩⟩
          rw [O.wd (j := 7) hjW (by decide), O.wd (j := 0) hjW (by decide), O.wd (j := 1) hjW (by decide), O.wd (j := 0) hiW (by decide), O.wd (j := 1) hiW (by decide)]
          refine ⟨fun e1 => ⟨fun e2 => ⟨fun e3 => nn ?_, fun e3 => st (fun q => e3 q.2.2)⟩, fun e2 => st (fun q => e2 q.2.1)⟩, fun e1 => st (fun q => e1 q.1)⟩
          rw [(taken_i i).mpr ⟨j, by omega, e1, e2, e3⟩]
          rfl
      exact ⟨i + 1, key2 i 0 (by omega) (fun v hv => absurd hv (by omega))⟩
  unfold w_X11_isSoundNow
  exact ⟨Γ.2.2.1 + 1, key Γ.2.2.1 0 (by omega) rfl⟩
theorem sy_isSound {post : Int32 → MS → Prop} (Oc : Ok x Γ.1 Γ.2.1 Γ.2.2.1 T) (O : rOk (tR x) Γ σ) (S : Sh x Γ) (PL : PlI x Γ.2.2.1) (FOx : FO x Γ.1) (hb : Γ.1 = 0 ∨ x 29 7 < 9999) (h4 : D4 x Γ.1 Γ.2.2.1) (h : ∀ τ, rOk (tR x) Γ τ → τ 0 0 = 0 → post (b01 (sndB x Γ.1 Γ.2.2.1)) τ) : w_X11_isSound Γ post σ := by
  unfold w_X11_isSound
  have O0 := O.up (k := 0) (j := 0) (v := 0) (by unfold rPr; omega)
  exact sy_isSoundNow Oc O0 S PL FOx hb h4 (fun τ O' hlo => ⟨by cases sndB x Γ.1 Γ.2.2.1 <;> rfl, h τ O' (by rw [hlo 0 (by decide)]; exact up2_same)⟩)
end DESKB
end
section
/-! WHAT ILLNESS WOULD LOSE, ON BOTH SIDES -/
/-- the first n weddings put back: players, states, what is paid -/
def rsW (y x : MS) : Nat → MS
  | 0 => y
  | n + 1 => up2 (up2 (up2 (rsW y x n) (73 + n) 8 (x (73 + n) 8)) (73 + n) 7 (x (73 + n) 7)) (73 + n) 11 (x (73 + n) 11)
/-- what was kept of the first n -/
def arW (x : MS) (n : Nat) (τ : MS) : Prop := ∀ i, i < n → τ 64 i = x (73 + i) 8 ∧ τ 65 i = x (73 + i) 7 ∧ τ 66 i = x (73 + i) 11
section LOSEB
variable {x y z : MS} {Γ : RG} {σ τ ρ : MS} {a a0 a1 a2 a3 a4 b c : Int32} {w P B W T : Nat}
theorem rsW_at : ∀ n k j, rsW y x n k j = if 73 ≤ k ∧ k < 73 + n ∧ (j = 7 ∨ j = 8 ∨ j = 11) then x k j else y k j
  | 0, k, j => (if_neg (by omega)).symm
  | n + 1, k, j => by
    unfold rsW
    by_cases c11 : k = 73 + n ∧ j = 11
    · obtain ⟨rfl, rfl⟩ := c11
      rw [up2_same, if_pos (by omega)]
    · rw [up2_off c11]
      by_cases c7 : k = 73 + n ∧ j = 7
      · obtain ⟨rfl, rfl⟩ := c7
        rw [up2_same, if_pos (by omega)]
      · rw [up2_off c7]
        by_cases c8 : k = 73 + n ∧ j = 8
        · obtain ⟨rfl, rfl⟩ := c8
          rw [up2_same, if_pos (by omega)]
        · rw [up2_off c8, rsW_at n k j]
          by_cases c : 73 ≤ k ∧ k < 73 + n ∧ (j = 7 ∨ j = 8 ∨ j = 11)
          · rw [if_pos c, if_pos (by omega)]
          · rw [if_neg c, if_neg (by omega)]
theorem arW.next {j : Nat} (h : arW x j τ) : arW x (j + 1) (up2 (up2 (up2 τ 64 j (x (73 + j) 8)) 65 j (x (73 + j) 7)) 66 j (x (73 + j) 11)) := fun i hi => by
  by_cases e : i = j
  · subst e
    exact ⟨by rw [up2_off (by omega), up2_off (by omega), up2_same], by rw [up2_off (by omega), up2_same], up2_same⟩
  · obtain ⟨g1, g2, g3⟩ := h i (by omega)
    exact ⟨by rw [up2_off (by omega), up2_off (by omega), up2_off (by omega)]; exact g1, by rw [up2_off (by omega), up2_off (by omega), up2_off (by omega)]; exact g2, by rw [up2_off (by omega), up2_off (by omega), up2_off (by omega)]; exact g3⟩
theorem vnar_b (v : Bool) : vp_nar .boolean (b01 v) = b01 v := by cases v <;> rfl
/-- all put back -/
theorem rs_back {p d : Nat} : ∀ a b, seen a b → x a b = rsW (up2 (up2 (ilR (up2 x 6 d (x 6 d ||| one p)) P W p (nI d) W).1 6 d (x 6 d)) 0 10 (x 0 10)) x W a b := by
  intro a b hs
  rw [rsW_at]
  by_cases c : 73 ≤ a ∧ a < 73 + W ∧ (b = 7 ∨ b = 8 ∨ b = 11)
  · rw [if_pos c]
  · rw [if_neg c]
    by_cases c0 : a = 0 ∧ b = 10
    · obtain ⟨rfl, rfl⟩ := c0
      rw [up2_same]
    · rw [up2_off c0]
      by_cases c6 : a = 6 ∧ b = d
      · obtain ⟨rfl, rfl⟩ := c6
        rw [up2_same]
      · rw [up2_off c6]
        by_cases g : 73 ≤ a ∧ (b = 7 ∨ b = 8 ∨ b = 11)
        · obtain ⟨m, rfl⟩ : ∃ m, a = 73 + m := ⟨a - 73, by omega⟩
          rw [ilR_m W (by omega), up2_off c6]
        · rw [ilR_k ⟨g, c0⟩ W, up2_off c6]
theorem sy_wouldLose {post : Int32 → MS → Prop} (Oc : Ok x Γ.1 B Γ.2.2.1 T) (O : rOk (tR x) Γ σ) (Y : Sy x) (S : Sh x Γ) (G : Gs x)
    (h1 : (∀ p, p < Γ.1 → a1 ≠ nI p) → ∀ τ, rOk (tR x) Γ τ → τ 0 0 = 1 → post 0 τ)
    (h2 : ∀ p, p < Γ.1 → a1 = nI p → (∀ d, T ≤ d → d ≤ 365 → a2 ≠ nI d) → ∀ τ, rOk (tR x) Γ τ → τ 0 0 = 2 → post 0 τ)
    (h3 : ∀ p d, p < Γ.1 → T ≤ d → d ≤ 365 → a1 = nI p → a2 = nI d → ∀ τ, rOk (tR x) Γ τ → τ 0 0 = 0 → post (swS x Γ.1 Γ.2.2.1 p (nI d) Γ.2.2.1).2 τ) : w_X11_wouldLose Γ post σ a1 a2 := by
  have hP := O.hP
  have hW := O.hW
  -- the weddings put back
  have d199 : ∀ (y : MS) (r : Int32) (ρ : MS), rOk (tR y) Γ ρ → ρ 0 0 = 0 → arW x Γ.2.2.1 ρ → (∀ τ, rOk (tR (rsW y x Γ.2.2.1)) Γ τ → τ 0 0 = 0 → post r τ) → ∃ k, u_X11_wouldLose_199 Γ post a1 a2 k ρ r 0 Γ.2.2.1 Γ.2.2.1 Γ.2.2.1 := by
    intro y r ρ Or z0 A hr
    have := inv_loop (fun k (q : MS × Int32) => u_X11_wouldLose_199 Γ post a1 a2 k q.1 r q.2 Γ.2.2.1 Γ.2.2.1 Γ.2.2.1) (fun j q => (rOk (tR (rsW y x j)) Γ q.1 ∧ q.1 0 0 = 0 ∧ ∀ k, 64 ≤ k → q.1 k = ρ k) ∧ q.2 = nI j) Γ.2.2.1 (by
      rintro ⟨τ, v⟩ ⟨⟨I, z, K⟩, rfl⟩
      show u_X11_wouldLose_199 Γ post a1 a2 1 τ r (nI Γ.2.2.1) Γ.2.2.1 Γ.2.2.1 Γ.2.2.1
      unfold u_X11_wouldLose_199
      exact ⟨fun _ => hr _ I z, fun c => absurd (le_self _) c⟩) (by
      rintro j k ⟨τ, v⟩ hj ⟨⟨I, z, K⟩, rfl⟩ ih
      have I : rOk (tR (rsW y x j)) Γ τ := I
      have z : τ 0 0 = 0 := z
      have K : ∀ k, 64 ≤ k → τ k = ρ k := K
      have nx : ∀ τ', rOk (tR (rsW y x (j + 1))) Γ τ' → τ' 0 0 = 0 → (∀ k, 64 ≤ k → τ' k = ρ k) → u_X11_wouldLose_199 Γ post a1 a2 k τ' r (nI j + 1) Γ.2.2.1 Γ.2.2.1 Γ.2.2.1 := fun τ' O' z' K' => by rw [nI_1]; exact ih (τ', nI (j + 1)) ⟨⟨O', z', K'⟩, rfl⟩
      have hv : vp_in (nI j) Γ.2.2.1 := vp_in_nI hj (by omega)
      have cj : (nI j).toNatClampNeg = j := nI_clamp (by omega)
      obtain ⟨g1, g2, g3⟩ := A j hj
      rw [← K 64 (by decide)] at g1
      rw [← K 65 (by decide)] at g2
      rw [← K 66 (by decide)] at g3
      have I1 := RX.wd (v := x (73 + j) 8) I hj (by decide) (show 8 < 12 by decide)
      have I2 := RX.wd (v := x (73 + j) 7) I1 hj (by decide) (show 7 < 12 by decide)
      have I3 := RX.wd (v := x (73 + j) 11) I2 hj (by decide) (show 11 < 12 by decide)
      show u_X11_wouldLose_199 Γ post a1 a2 (k + 1) τ r (nI j) Γ.2.2.1 Γ.2.2.1 Γ.2.2.1
      unfold u_X11_wouldLose_199
      refine ⟨fun c => absurd c (nI_ge hj (by omega)), fun _ => sf_wget I hj rfl ⟨⟨by omega, hj⟩, hv, ?_⟩⟩
      rw [mrg_self, cj, g1]
      refine sf_wget I1 hj rfl ⟨⟨by omega, hj⟩, hv, ?_⟩
      rw [mrg_self, up2_off (k := 33 + j) (j := 8) (k' := 65) (j' := j) (by omega), g2]
      refine sf_wget I2 hj rfl ⟨⟨by omega, hj⟩, hv, fun u hu => ?_⟩
      rw [mrg_self, up2_off (k := 33 + j) (j := 7) (k' := 66) (j' := j) (by omega), up2_off (k := 33 + j) (j := 8) (k' := 66) (j' := j) (by omega), g3] at hu
      rw [mrg_self]
      subst hu
      exact nx _ I3 (by rw [up2_off (by omega), up2_off (by omega), up2_off (by omega)]; exact z) (fun k hk => by rw [up2_ne (by omega), up2_ne (by omega), up2_ne (by omega)]; exact K k hk)) 0 (by omega) (ρ, 0) ⟨⟨Or, z0, fun _ _ => rfl⟩, nI_0.symm⟩
    exact this
  unfold w_X11_wouldLose
  have O0 := O.up (k := 0) (j := 0) (v := 0) (by unfold rPr; omega)
  refine sx_isPlayer O0 (fun no => ⟨fun _ => sx_refuse O0 (h1 no), fun c => absurd rfl c⟩) (fun p r hp e hr => ⟨fun c => absurd c hr, fun _ => sx_isDay (T := T) (by rw [O0.tdy]; exact Oc.h9) Oc.hT (fun no => ⟨fun _ => sx_refuse O0 (h2 p hp e no), fun c => absurd rfl c⟩) (fun d r2 hd1 hd2 e2 hr2 => ⟨fun c => absurd c hr2, fun _ => ?_⟩)⟩)
  have hd : d < 366 := by omega
  have hdv : vp_in a2 366 := by rw [e2]; exact vp_in_nI (by omega) (by decide)
  have hdc : a2.toNatClampNeg = d := by rw [e2]; exact nI_clamp (by omega)
  have h3 := h3 p d hp hd1 hd2 e e2
  rw [(il_sync Oc hp hd Γ.2.2.1 (Nat.le_refl _)).2] at h3
  have O1 := O0.rw0 (k := 64) (f := fun _ => 0) (by decide)
  have O2 := (O1.mrg (σ := rw0 (up2 σ 0 0 0) 64 (fun _ => 0))).rw0 (k := 65) (f := fun _ => 0) (by decide)
  unfold w_lw_Jx4a65c_size_8abf5
  refine ⟨Γ.2.2.1, O0.w, by omega, Γ.2.2.1, O1.w, by omega, Γ.2.2.1, O2.w, by omega, ?_⟩
  have O3 := (O2.mrg (σ := rw0 (mrg (rw0 (up2 σ 0 0 0) 64 (fun _ => 0)) (rw0 (up2 σ 0 0 0) 64 (fun _ => 0))) 65 (fun _ => 0))).rw0 (k := 66) (f := fun _ => 0) (by decide)
  have := inv_loop (fun k (q : MS × Int32) => u_X11_wouldLose_68 Γ post a1 a2 k q.1 q.2 Γ.2.2.1 Γ.2.2.1 Γ.2.2.1) (fun j q => (rOk (tR x) Γ q.1 ∧ q.1 0 0 = 0 ∧ arW x j q.1) ∧ q.2 = nI j) Γ.2.2.1 (by
    rintro ⟨τ, v⟩ ⟨⟨I, z, A⟩, rfl⟩
    have I : rOk (tR x) Γ τ := I
    have z : τ 0 0 = 0 := z
    have A : arW x Γ.2.2.1 τ := A
    show u_X11_wouldLose_68 Γ post a1 a2 1 τ (nI Γ.2.2.1) Γ.2.2.1 Γ.2.2.1 Γ.2.2.1
    unfold u_X11_wouldLose_68
    refine ⟨fun _ => sf_pget I hp e ⟨⟨by omega, hp⟩, hdv, ?_⟩, fun c => absurd (le_self _) c⟩
    rw [mrg_self, hdc, I.off hp hd, I.csh, vnar_b]
    refine sy_illNow I Y S G hp e hd e2 (fun τ' O' K' => sf_pget O'.mrg hp e ⟨⟨by omega, hp⟩, hdv, ?_⟩)
    rw [mrg_self]
    have O4 : rOk (tR (ilR (up2 x 6 d (x 6 d ||| one p)) Γ.1 Γ.2.2.1 p (nI d) Γ.2.2.1).1) Γ (mrg τ' τ) := O'.mrg
    have e6 : (ilR (up2 x 6 d (x 6 d ||| one p)) Γ.1 Γ.2.2.1 p (nI d) Γ.2.2.1).1 6 d = x 6 d ||| one p := (ilR_k (by omega) Γ.2.2.1).trans up2_same
    refine d199 (up2 (up2 (ilR (up2 x 6 d (x 6 d ||| one p)) Γ.1 Γ.2.2.1 p (nI d) Γ.2.2.1).1 6 d (x 6 d)) 0 10 (x 0 10)) _ _ (RX.csh (RX.dof O4 hp hd rfl (fun q hq hne => ?_))) ?_ (fun i hi => ?_) (fun τ2 O5 z5 => h3 _ (RX.cg O5 rs_back) z5)
    · rw [e6, b_or, b_one (by omega) hq, decide_eq_false hne, Bool.or_false]
    · rw [up2_off (by omega), up2_off (by omega), mrg_lo (by omega), K'.1]
      exact z
    · rw [up2_off (by omega), up2_off (by omega), up2_off (by omega), up2_off (by omega), up2_off (by omega), up2_off (by omega), mrg_hi (by omega), mrg_hi (by omega), mrg_hi (by omega)]
      exact A i hi) (by
    rintro j k ⟨τ, v⟩ hj ⟨⟨I, z, A⟩, rfl⟩ ih
    have I : rOk (tR x) Γ τ := I
    have z : τ 0 0 = 0 := z
    have A : arW x j τ := A
    have nx : ∀ τ', rOk (tR x) Γ τ' → τ' 0 0 = 0 → arW x (j + 1) τ' → u_X11_wouldLose_68 Γ post a1 a2 k τ' (nI j + 1) Γ.2.2.1 Γ.2.2.1 Γ.2.2.1 := fun τ' O' z' A' => by rw [nI_1]; exact ih (τ', nI (j + 1)) ⟨⟨O', z', A'⟩, rfl⟩
    have hv : vp_in (nI j) Γ.2.2.1 := vp_in_nI hj (by omega)
    have cj : (nI j).toNatClampNeg = j := nI_clamp (by omega)
    have I1 := I.up (k := 64) (j := j) (v := x (73 + j) 8) (by unfold rPr; omega)
    have I2 := I1.up (k := 65) (j := j) (v := x (73 + j) 7) (by unfold rPr; omega)
    have I3 := I2.up (k := 66) (j := j) (v := x (73 + j) 11) (by unfold rPr; omega)
    show u_X11_wouldLose_68 Γ post a1 a2 (k + 1) τ (nI j) Γ.2.2.1 Γ.2.2.1 Γ.2.2.1
    unfold u_X11_wouldLose_68
    refine ⟨fun c => absurd c (nI_ge hj (by omega)), fun _ => sf_wget I hj rfl ⟨⟨by omega, hj⟩, hv, ?_⟩⟩
    rw [mrg_self, cj, I.wd (j := 8) hj (by decide)]
    refine sf_wget I1 hj rfl ⟨⟨by omega, hj⟩, hv, ?_⟩
    rw [mrg_self, I1.wd (j := 7) hj (by decide)]
    refine sf_wget I2 hj rfl ⟨⟨by omega, hj⟩, fun u hu => ⟨hv, ?_⟩⟩
    rw [mrg_self, I2.wd (j := 11) hj (by decide)] at hu
    rw [mrg_self]
    subst hu
    exact nx _ I3 (by rw [up2_off (by omega), up2_off (by omega), up2_off (by omega)]; exact z) A.next) 0 (by omega) (_, 0) ⟨⟨O3, rfl, fun i hi => absurd hi (by omega)⟩, nI_0.symm⟩
  exact this
end LOSEB
end
