/-! ILLNESS, ON BOTH SIDES -/
/-- lost, as the reference reckons -/
def lsW (y : MS) (w : Nat) : MS := up2 (up2 (up2 y (73 + w) 7 3) 0 10 (y 0 10 - (y (73 + w) 11 + y (73 + w) 9 / 10))) (73 + w) 11 (-(y (73 + w) 9 / 10))
/-- the first n weddings filled anew, in place; how many are lost -/
def ilR (x : MS) (P W p : Nat) (day : Int32) : Nat → MS × Int32
  | 0 => (x, 0)
  | n + 1 =>
    let y := (ilR x P W p day n).1
    if y (73 + n) 7 = 1 ∧ y (73 + n) 1 = day ∧ bt (y (73 + n) 8) p = true then
      (if bR y n P (freeF (stg y W) n W P) (y (73 + n) 8) (2 ^ P - 1) = -1 then (lsW y n, (ilR x P W p day n).2 + 1) else (up2 y (73 + n) 8 (bR y n P (freeF (stg y W) n W P) (y (73 + n) 8) (2 ^ P - 1)), (ilR x P W p day n).2))
    else ilR x P W p day n
/-- what fillings look at: players, roads, bands, what was told of weddings -/
def flc (k j : Nat) : Prop := (17 ≤ k ∧ k < 29) ∨ (29 ≤ k ∧ k < 39 ∧ j ≤ 4) ∨ (55 ≤ k ∧ k < 73) ∨ (73 ≤ k ∧ k < 87 ∧ j ≤ 6)
def Fl (x y : MS) : Prop := ∀ k j, flc k j → y k j = x k j
section ILLB
variable {x y z : MS} {Γ : RG} {σ τ ρ : MS} {a a0 a1 a2 a3 a4 b : Int32} {w P W : Nat}
theorem Fl.rf : Fl x x := fun _ _ _ => rfl
theorem Fl.tr (h : Fl x y) (g : Fl y z) : Fl x z := fun k j hk => (g k j hk).trans (h k j hk)
theorem Fl.sy (h : Fl x y) : Fl y x := fun k j hk => (h k j hk).symm
theorem Fl.up {k j : Nat} {v : Int32} (h : ¬ flc k j) : Fl x (up2 x k j v) := fun k' j' hk => up2_off (fun z => h (by obtain ⟨rfl, rfl⟩ := z; exact hk))
theorem Fl.scr (h : Scr x y) : Fl x y := fun k j hk => by rw [h k (by unfold flc at hk; omega)]
theorem feudB_fl {s : Int32} (h : Fl x y) : ∀ n, n ≤ 10 → feudB y s n = feudB x s n
  | 0, _ => rfl
  | n + 1, hn => by
    unfold feudB
    rw [feudB_fl h n (by omega), h (29 + n) 4 (by unfold flc; omega)]
theorem kn_fl {s : Int32} (h : Fl x y) : ∀ n, n ≤ 10 → kn y s n = kn x s n
  | 0, _ => rfl
  | n + 1, hn => by
    unfold kn
    rw [kn_fl h n (by omega), h (29 + n) 1 (by unfold flc; omega)]
theorem playF_fl {s : Int32} (h : Fl x y) (hP : P ≤ 10) : playF y s P = playF x s P := by
  unfold playF
  rw [kn_fl h P hP]
theorem costsF_fl {s : Int32} {n : Nat} (h : Fl x y) (hw : w < 14) (hn : n ≤ 10) (hh : ∀ p, p < n → ∃ t, t < 6 ∧ x (29 + p) 2 = nI t) : costsF y s w n = costsF x s w n := by
  unfold costsF
  refine sumI_congr (fun p hp => ?_)
  obtain ⟨t, ht, e⟩ := hh p hp
  show (if bt s p = true then costF y p w else 0) = (if bt s p = true then costF x p w else 0)
  have : costF y p w = costF x p w := by
    unfold costF wayF
    rw [h (29 + p) 2 (by unfold flc; omega), h (29 + p) 3 (by unfold flc; omega), h (73 + w) 2 (by unfold flc; omega), h (73 + w) 4 (by unfold flc; omega), e, nI_clamp (by omega), h (23 + t) _ (by unfold flc; omega)]
  rw [this]
/-- the band of the wedding is one, of five places at most -/
def Bz (x : MS) (w : Nat) : Prop := bdOf x w < 6 ∧ ∃ sz, sz ≤ 5 ∧ x (55 + bdOf x w) 2 = nI sz
theorem stB_fl {s : Nat} (h : Fl x y) (hw : w < 14) (hP : P ≤ 10) (B : Bz x w) (hs : s < 2 ^ P) : stB y w P s = stB x w P s := by
  obtain ⟨hb, sz, hz, es⟩ := B
  have eb : bdOf y w = bdOf x w := by
    unfold bdOf
    rw [h (73 + w) 0 (by unfold flc; omega)]
  have es2 : y (55 + bdOf y w) 2 = nI sz := by rw [eb, h (55 + bdOf x w) 2 (by unfold flc; omega)]; exact es
  have h1 := stB_can (x := x) (w := w) (s := s) hP hz es hs
  have h2 := stB_can (x := y) (w := w) (s := s) hP hz es2 hs
  have ep : plcs y (bdOf y w) sz = plcs x (bdOf x w) sz := by
    unfold plcs
    rw [eb, show pl y (bdOf x w) = pl x (bdOf x w) from funext fun j => by unfold pl; rw [h (67 + bdOf x w) j (by unfold flc; omega)]]
  rw [ep] at h2
  have hc : can (inst y) P (plcs x (bdOf x w) sz) (fun q => bt (nI s) q = true) ↔ can (inst x) P (plcs x (bdOf x w) sz) (fun q => bt (nI s) q = true) := can_ci _ (fun p i hp => by
    unfold inst
    rw [h (29 + p) 0 (by unfold flc; omega)])
  rw [hc, ← h1] at h2
  exact Bool.eq_iff_iff.mpr h2
theorem filB_fl {s : Nat} (h : Fl x y) (hw : w < 14) (hP : P ≤ 10) (B : Bz x w) (hs : s < 2 ^ P) : filB y w P s = filB x w P s := by
  unfold filB knB
  rw [stB_fl h hw hP B hs, playF_fl h hP, feudB_fl h P hP, h (73 + w) 5 (by unfold flc; omega)]
theorem bR_fl {free had : Int32} (h : Fl x y) (hw : w < 14) (hP : P ≤ 10) (B : Bz x w) (hh : ∀ p, p < P → ∃ t, t < 6 ∧ x (29 + p) 2 = nI t) : ∀ n, n < 2 ^ P → bR y w P free had n = bR x w P free had n
  | 0, _ => rfl
  | n + 1, hn => by
    unfold bR
    rw [bR_fl h hw hP B hh n (by omega), filB_fl h hw hP B hn]
    have e : btr y w P had (nI (n + 1)) (bR x w P free had n) = btr x w P had (nI (n + 1)) (bR x w P free had n) := by
      unfold btr
      rw [costsF_fl h hw hP hh, costsF_fl h hw hP hh]
    rw [e]
theorem cR_fl {free : Int32} (h : Fl x y) (hw : w < 14) (hP : P ≤ 10) (B : Bz x w) : ∀ n, n < 2 ^ P → cR y w P free n = cR x w P free n
  | 0, _ => rfl
  | n + 1, hn => by
    unfold cR
    rw [cR_fl h hw hP B n (by omega), filB_fl h hw hP B hn]
/-- who is free, where the stages are one and the days off differ by one player, who is off in y -/
theorem okUp_fl {q : Nat} (h : Fl x y) (hW : W ≤ 14) (hw : w < 14) (hh : ∀ v, v < 14 → ∃ t, t < 6 ∧ x (73 + v) 2 = nI t) (h7 : ∀ j, j < W → y 7 j = x 7 j) : ∀ n, n ≤ W → okUp y q w n = okUp x q w n
  | 0, _ => rfl
  | n + 1, hn => by
    have hl : ∀ e l, e < 14 → l < 14 → lv2 y e l = lv2 x e l := fun e l he hl => by
      obtain ⟨t, ht, et⟩ := hh e he
      unfold lv2 wayF
      rw [h (73 + e) 2 (by unfold flc; omega), h (73 + l) 2 (by unfold flc; omega), h (73 + e) 3 (by unfold flc; omega), h (73 + l) 3 (by unfold flc; omega), h (73 + e) 4 (by unfold flc; omega), et, nI_clamp (by omega), h (23 + t) _ (by unfold flc; omega)]
    have hle : ∀ e l, e < 14 → l < 14 → leaveB y e l = leaveB x e l := fun e l he hl' => by
      unfold leaveB
      rw [hl e l he hl', hl l e hl' he, h (73 + e) 3 (by unfold flc; omega), h (73 + l) 3 (by unfold flc; omega)]
    unfold okUp
    rw [okUp_fl h hW hw hh h7 n (by omega), hle _ _ (by split <;> omega) (by split <;> omega)]
    unfold othB
    rw [h7 n (by omega), h (73 + n) 1 (by unfold flc; omega), h (73 + w) 1 (by unfold flc; omega)]
theorem freeB_fl {q : Nat} (h : Fl x y) (hW : W ≤ 14) (hw : w < 14) (hq : q < 10) (hh : ∀ v, v < 14 → ∃ t, t < 6 ∧ x (73 + v) 2 = nI t) (hq2 : ∃ t, t < 6 ∧ x (29 + q) 2 = nI t) (h7 : ∀ j, j < W → y 7 j = x 7 j) (h6 : ∀ d, bt (y 6 d) q = bt (x 6 d) q) : freeB y q w W = freeB x q w W := by
  obtain ⟨t, ht, et⟩ := hq2
  unfold freeB wayF
  rw [okUp_fl h hW hw hh h7 W (Nat.le_refl _), h6, h (73 + w) 1 (by unfold flc; omega), h (73 + w) 2 (by unfold flc; omega), h (29 + q) 2 (by unfold flc; omega), et, nI_clamp (by omega), h (23 + t) _ (by unfold flc; omega)]
theorem orI_bt {f : Nat → Bool} {i : Nat} (hi : i < 32) : ∀ n, n ≤ 32 → bt (orI (fun p => if f p = true then one p else 0) n) i = (decide (i < n) && f i)
  | 0, _ => by
    show bt 0 i = _
    rw [b_0, decide_eq_false (by omega)]
    rfl
  | n + 1, hn => by
    show bt (orI (fun p => if f p = true then one p else 0) n ||| (if f n = true then one n else 0)) i = _
    rw [b_or, orI_bt hi n (by omega)]
    by_cases e : i = n
    · subst e
      rw [decide_eq_false (show ¬ i < i by omega), decide_eq_true (show i < i + 1 by omega), Bool.false_and, Bool.false_or, Bool.true_and]
      cases q : f i with
      | true => rw [if_pos rfl, b_one (by omega) hi, decide_eq_true rfl]
      | false => rw [if_neg Bool.false_ne_true, b_0]
    · have h2 : bt (if f n = true then one n else 0) i = false := by
        split
        · rw [b_one (by omega) hi, decide_eq_false e]
        · exact b_0 i
      rw [h2, Bool.or_false]
      congr 1
      rw [decide_eq_decide]
      omega
theorem freeF_bt {i n : Nat} (hi : i < 32) (hn : n ≤ 10) : bt (freeF x w W n) i = (decide (i < n) && freeB x i w W) := orI_bt hi n (by omega)
/-- the day off told first, or masked out -/
theorem freeF_fl {p d : Nat} (h : Fl x y) (hP : P ≤ 10) (hW : W ≤ 14) (hw : w < 14) (hp : p < P) (hd : x (73 + w) 1 = nI d) (hd2 : d < 366) (hh : ∀ v, v < 14 → ∃ t, t < 6 ∧ x (73 + v) 2 = nI t) (hq2 : ∀ q, q < 10 → ∃ t, t < 6 ∧ x (29 + q) 2 = nI t) (h7 : ∀ j, j < W → y 7 j = x 7 j) (h6 : ∀ q, q < 32 → q ≠ p → ∀ d, bt (y 6 d) q = bt (x 6 d) q) (h6p : bt (y 6 d) p = true) : freeF y w W P = freeF x w W P &&& (one p ^^^ (-1)) := b_ext fun i hi => by
  rw [b_and, freeF_bt hi hP, freeF_bt hi hP, b_cmp hi, b_one (by omega) hi]
  by_cases e : i = p
  · subst e
    have : freeB y i w W = false := by
      unfold freeB
      rw [h (73 + w) 1 (by unfold flc; omega), hd, nI_clamp (by omega), h6p]
      rfl
    rw [this, decide_eq_true rfl, Bool.and_false, Bool.not_true, Bool.and_false]
  · rw [decide_eq_false e, Bool.not_false, Bool.and_true]
    by_cases g : i < P
    · rw [freeB_fl h hW hw (by omega) hh (hq2 i (by omega)) h7 (h6 i hi e)]
    · rw [decide_eq_false g, Bool.false_and, Bool.false_and]
/-- what the reference's walk leaves alone -/
theorem ilR_k {p : Nat} {day : Int32} {k j : Nat} (h : ¬ (73 ≤ k ∧ (j = 7 ∨ j = 8 ∨ j = 11)) ∧ ¬ (k = 0 ∧ j = 10)) : ∀ n, (ilR x P W p day n).1 k j = x k j
  | 0 => rfl
  | n + 1 => by
    have ih := ilR_k (p := p) (day := day) h n
    unfold ilR
    dsimp only
    split
    · split
      · dsimp only
        unfold lsW
        rw [up2_off (by omega), up2_off (by omega), up2_off (by omega)]
        exact ih
      · dsimp only
        rw [up2_off (by omega)]
        exact ih
    · exact ih
theorem ilR_m {p : Nat} {day : Int32} {m j : Nat} : ∀ n, n ≤ m → (ilR x P W p day n).1 (73 + m) j = x (73 + m) j
  | 0, _ => rfl
  | n + 1, hn => by
    have ih := ilR_m (p := p) (day := day) (m := m) (j := j) n (by omega)
    unfold ilR
    dsimp only
    split
    · split
      · dsimp only
        unfold lsW
        rw [up2_off (by omega), up2_off (by omega), up2_off (by omega)]
        exact ih
      · dsimp only
        rw [up2_off (by omega)]
        exact ih
    · exact ih
end ILLB
section ILLC
variable {x y z : MS} {Γ : RG} {σ τ ρ : MS} {a a0 a1 a2 a3 a4 b : Int32} {w P B W T : Nat}
theorem Sy.fl (h : Fl x y) (Y : Sy x) : Sy y := fun a b ha hb => by
  rw [h (23 + a) b (by unfold flc; omega), h (23 + b) a (by unfold flc; omega)]
  exact Y a b ha hb
theorem Gs.fl (h : Fl x y) (G : Gs x) : Gs y := fun w hw => by
  rw [h (73 + w) 5 (by unfold flc; omega)]
  exact G w hw
theorem Sh.fl (h : Fl x y) (hB : Γ.2.1 ≤ 6) (S : Sh x Γ) : Sh y Γ := fun b hb => by
  obtain ⟨m, sz, m1, m2, e1, z1, e2, e3, e4, e5⟩ := S b hb
  refine ⟨m, sz, m1, m2, e1, z1, e2, by rw [h (55 + b) 2 (by unfold flc; omega)]; exact e3, ?_, fun k hk => by rw [h (61 + b) k (by unfold flc; omega)]; exact e5 k hk⟩
  rw [← e4]
  unfold plcs
  rw [show pl y b = pl x b from funext fun j => by unfold pl; rw [h (67 + b) j (by unfold flc; omega)]]
theorem surv_no {free had : Int32} (hP : P ≤ 10) : survF x w P free had 9 3 = 0 ↔ bR x w P free had (2 ^ P - 1) = -1 := by
  obtain ⟨p1, p2⟩ := pw1024 hP
  have h := (surv_is (x := x) (w := w) (free := free) (had := had) hP).2.1
  dsimp only at h
  rw [h, bR_none _ (by omega), ← cR_none]
  have := cR_le (x := x) (w := w) (P := P) (free := free) (2 ^ P - 1)
  constructor
  · intro h; exact (nI_eq (by omega) (by decide)).mp (h.trans nI_0.symm)
  · intro h; rw [h]; exact nI_0
theorem surv_0 {free had : Int32} (hP : P ≤ 10) : survF x w P free had 9 0 = bR x w P free had (2 ^ P - 1) := (surv_is (x := x) (w := w) (free := free) (had := had) hP).1
theorem surv_7 {free had : Int32} : survF x w P free had 7 = x 7 := by
  unfold survF svAll
  rw [up2_ne (by decide), sv_7]
  unfold svIn
  rw [sat_7]
  exact clear_7 _
/-- what an agency's numbers say for fillings -/
theorem Ok.bz (O : Ok x P B W T) (hw : w < 14) : Bz x w := ⟨O.bd hw, by
  obtain ⟨s, h1, h2⟩ := O.size (bdOf x w) (O.bd hw)
  exact ⟨s, h1, h2⟩⟩
theorem vp_ex {v : Int32} {n : Nat} (hn : n < 2 ^ 31) (h : vp_in v n) : ∃ t, t < n ∧ v = nI t := by
  have h0 : ¬ v < 0 := fun q => h (Or.inl q)
  obtain ⟨t, ht, rfl⟩ := nI_of h0
  have := vlt h
  rw [nI_clamp ht] at this
  exact ⟨t, this, rfl⟩
theorem Ok.hom (O : Ok x P B W T) {p : Nat} (hp : p < 10) : ∃ t, t < 6 ∧ x (29 + p) 2 = nI t := vp_ex (by decide) (O.home p hp)
theorem Ok.twn (O : Ok x P B W T) {v : Nat} (hv : v < 14) : ∃ t, t < 6 ∧ x (73 + v) 2 = nI t := vp_ex (by decide) (O.town v hv)
theorem Ok.dy (O : Ok x P B W T) {v : Nat} (hv : v < 14) : ∃ t, t < 366 ∧ x (73 + v) 1 = nI t := vp_ex (by decide) (O.day v hv)
/-- the class's stages are the reference's weddings as its walk has them -/
theorem il_sync {p d : Nat} (O : Ok x P B W T) (hp : p < P) (hd : d < 366) : ∀ n, n ≤ W →
    (∀ j, j < W → (swS x P W p (nI d) n).1 7 j = if (ilR (up2 x 6 d (x 6 d ||| one p)) P W p (nI d) n).1 (73 + j) 7 = 1 then (ilR (up2 x 6 d (x 6 d ||| one p)) P W p (nI d) n).1 (73 + j) 8 else 0) ∧ (swS x P W p (nI d) n).2 = (ilR (up2 x 6 d (x 6 d ||| one p)) P W p (nI d) n).2
  | 0, _ => ⟨fun j hj => by
      show stg x W 7 j = if up2 x 6 d (x 6 d ||| one p) (73 + j) 7 = 1 then up2 x 6 d (x 6 d ||| one p) (73 + j) 8 else 0
      rw [stg_at hj, up2_off (by omega), up2_off (by omega)], rfl⟩
  | n + 1, hn => by
    have hW := O.hW
    have hP := O.hP
    obtain ⟨p1, p2⟩ := pw1024 hP
    obtain ⟨i1, i2⟩ := il_sync O hp hd n (by omega)
    have hs := Scr.sw x P W p (nI d) n
    have hm : ∀ j, (ilR (up2 x 6 d (x 6 d ||| one p)) P W p (nI d) n).1 (73 + n) j = x (73 + n) j := fun j => (ilR_m n (Nat.le_refl n)).trans (up2_off (by omega))
    have hk : ∀ k j, ¬ (73 ≤ k ∧ (j = 7 ∨ j = 8 ∨ j = 11)) ∧ ¬ (k = 0 ∧ j = 10) → (ilR (up2 x 6 d (x 6 d ||| one p)) P W p (nI d) n).1 k j = up2 x 6 d (x 6 d ||| one p) k j := fun k j h => ilR_k h n
    unfold swS ilR
    dsimp only
    generalize swS x P W p (nI d) n = Z at i1 i2 hs ⊢
    generalize ilR (up2 x 6 d (x 6 d ||| one p)) P W p (nI d) n = Y at i1 i2 hm hk ⊢
    have f1 : Fl Z.1 Y.1 := (Fl.scr hs).sy.tr (fun k j hf => by
      rw [hk k j (by unfold flc at hf; omega), up2_off (by unfold flc at hf; omega)])
    have hcond : (Z.1 (73 + n) 1 = nI d ∧ bt (Z.1 7 n) p = true) ↔ (Y.1 (73 + n) 7 = 1 ∧ Y.1 (73 + n) 1 = nI d ∧ bt (Y.1 (73 + n) 8) p = true) := by
      rw [i1 n (by omega), hs.c73, hm 1]
      by_cases c : Y.1 (73 + n) 7 = 1
      · rw [if_pos c]
        exact ⟨fun q => ⟨c, q⟩, fun q => q.2⟩
      · rw [if_neg c, b_0]
        exact ⟨fun q => absurd q.2 Bool.false_ne_true, fun q => absurd q.1 c⟩
    by_cases c : Y.1 (73 + n) 7 = 1 ∧ Y.1 (73 + n) 1 = nI d ∧ bt (Y.1 (73 + n) 8) p = true
    · rw [if_pos (hcond.mpr c), if_pos c]
      have hst : Z.1 7 n = Y.1 (73 + n) 8 := by rw [i1 n (by omega), if_pos c.1]
      have f2 : Fl Z.1 (stg Y.1 W) := f1.tr (Fl.scr (Scr.stg Y.1 W))
      have hfr : freeF (stg Y.1 W) n W P = freeF Z.1 n W P &&& (one p ^^^ (-1)) := by
        refine freeF_fl (d := d) f2 hP hW (by omega) hp (by rw [hs.c73, ← hm 1]; exact c.2.1) hd (fun v hv => by rw [hs.c73]; exact O.twn hv) (fun q hq => by rw [hs.c29]; exact O.hom hq) (fun j hj => by rw [stg_at hj, i1 j hj]) (fun q hq hne e => ?_) ?_
        · rw [stg_k (by decide), hk 6 e (by omega), hs.c6]
          by_cases z : e = d
          · subst z
            rw [up2_same, b_or, b_one (by omega) hq, decide_eq_false hne, Bool.or_false]
          · rw [up2_off (by omega)]
        · rw [stg_k (by decide), hk 6 d (by omega), up2_same, b_or, b_one (by omega) (by omega), decide_eq_true rfl, Bool.or_true]
      have hb : bR Y.1 n P (freeF (stg Y.1 W) n W P) (Y.1 (73 + n) 8) (2 ^ P - 1) = bR Z.1 n P (freeF Z.1 n W P &&& (one p ^^^ (-1))) (Z.1 7 n) (2 ^ P - 1) := by
        rw [hfr, hst]
        refine bR_fl f1 (by omega) hP ⟨by rw [bdOf_sc hs]; exact O.bd (by omega), ?_⟩ (fun q hq => by rw [hs.c29]; exact O.hom (by omega)) _ (by omega)
        obtain ⟨sz, s1, s2⟩ := (O.bz (w := n) (by omega)).2
        exact ⟨sz, s1, by rw [bdOf_sc hs, hs.c55]; exact s2⟩
      rw [hb]
      have v0 := surv_0 (x := Z.1) (w := n) (free := freeF Z.1 n W P &&& (one p ^^^ (-1))) (had := Z.1 7 n) hP
      have vn := surv_no (x := Z.1) (w := n) (free := freeF Z.1 n W P &&& (one p ^^^ (-1))) (had := Z.1 7 n) hP
      have v7 := surv_7 (x := Z.1) (w := n) (P := P) (free := freeF Z.1 n W P &&& (one p ^^^ (-1))) (had := Z.1 7 n)
      generalize survF Z.1 n P (freeF Z.1 n W P &&& (one p ^^^ (-1))) (Z.1 7 n) = V at v0 vn v7 ⊢
      generalize bR Z.1 n P (freeF Z.1 n W P &&& (one p ^^^ (-1))) (Z.1 7 n) (2 ^ P - 1) = bb at v0 vn ⊢
      by_cases e : bb = -1
      · rw [if_pos e, if_pos (vn.mpr e), if_pos (vn.mpr e)]
        refine ⟨fun j hj => ?_, by show Z.2 + 1 = Y.2 + 1; rw [i2]⟩
        show up2 V 7 n 0 7 j = if lsW Y.1 n (73 + j) 7 = 1 then lsW Y.1 n (73 + j) 8 else 0
        unfold lsW
        rw [up2_off (k := 73 + n) (j := 11) (by omega), up2_off (k := 73 + n) (j := 11) (by omega), up2_off (k := 0) (j := 10) (by omega), up2_off (k := 0) (j := 10) (by omega), up2_off (k := 73 + n) (j := 7) (k' := 73 + j) (j' := 8) (by omega)]
        by_cases g : j = n
        · subst g
          rw [up2_same, up2_same, if_neg (by decide)]
        · rw [up2_off (by omega), up2_off (by omega), v7]
          exact i1 j hj
      · rw [if_neg e, if_neg (fun q => e (vn.mp q)), if_neg (fun q => e (vn.mp q)), v0]
        refine ⟨fun j hj => ?_, by show Z.2 + 0 = Y.2; rw [i2, Int32.add_zero]⟩
        show up2 V 7 n bb 7 j = if up2 Y.1 (73 + n) 8 bb (73 + j) 7 = 1 then up2 Y.1 (73 + n) 8 bb (73 + j) 8 else 0
        rw [up2_off (k := 73 + n) (j := 8) (j' := 7) (by omega)]
        by_cases g : j = n
        · subst g
          rw [up2_same, up2_same, if_pos c.1]
        · rw [up2_off (by omega), up2_off (by omega), v7]
          exact i1 j hj
    · rw [if_neg (fun q => c (hcond.mp q)), if_neg c]
      exact ⟨i1, i2⟩
theorem sw_stay {p : Nat} {day : Int32} {j : Nat} : ∀ n m, j < n → n ≤ m → (swS x P W p day m).1 7 j = (swS x P W p day n).1 7 j
  | n, 0, h, h2 => absurd h2 (by omega)
  | n, m + 1, h, h2 => by
    by_cases e : n = m + 1
    · rw [e]
    · have ih := sw_stay (p := p) (day := day) n m h (by omega)
      rw [← ih]
      conv => lhs; unfold swS
      dsimp only
      generalize swS x P W p day m = Z
      split
      · dsimp only
        rw [up2_off (by omega), surv_7]
      · rfl
/-- what the class's illness leaves is what the reference's leaves -/
theorem il_one {p d : Nat} (O : Ok x P B W T) (hp : p < P) (hd : d < 366) (PF : ∀ w, w < 14 → x (73 + w) 7 = 1 → x (73 + w) 11 = x (73 + w) 9 / 5) : ∀ n, n ≤ W → ∀ a b, seen a b → illS (offS x P W p d) p (nI d) n a b = (ilR (up2 x 6 d (x 6 d ||| one p)) P W p (nI d) n).1 a b
  | 0, _, a, b, hs => by
    have hsc := Scr.sw x P W p (nI d) W
    show offS x P W p d a b = up2 x 6 d (x 6 d ||| one p) a b
    unfold offS
    rw [hsc.c6]
    by_cases z : a = 6 ∧ b = d
    · obtain ⟨rfl, rfl⟩ := z; rw [up2_same, up2_same]
    · rw [up2_off z, up2_off z, hsc a (by unfold seen at hs; omega)]
  | n + 1, hn, a, b, hs => by
    have hW := O.hW
    have hP := O.hP
    obtain ⟨p1, p2⟩ := pw1024 hP
    have ih := il_one O hp hd PF n (by omega)
    have em := illS_m (z := offS x P W p d) (p := p) (day := nI d) n n (Nat.le_refl n) (by omega)
    have e7 := illS_7 (σ := offS x P W p d) (p := p) (day := nI d) n
    have hsc := Scr.sw x P W p (nI d) W
    have eo : ∀ j, offS x P W p d (73 + n) j = x (73 + n) j := fun j => by
      unfold offS
      rw [up2_off (by omega), hsc.c73]
    have eo7 : offS x P W p d 7 n = (swS x P W p (nI d) (n + 1)).1 7 n := by
      unfold offS
      rw [up2_off (by omega)]
      exact sw_stay (n + 1) W (by omega) hn
    have sy := (il_sync O hp hd (n + 1) hn).1 n (by omega)
    rw [← eo7] at sy
    have hm : ∀ j, (ilR (up2 x 6 d (x 6 d ||| one p)) P W p (nI d) n).1 (73 + n) j = x (73 + n) j := fun j => (ilR_m n (Nat.le_refl n)).trans (up2_off (by omega))
    have hbr := bR_rg (x := (ilR (up2 x 6 d (x 6 d ||| one p)) P W p (nI d) n).1) (w := n) (P := P) (free := freeF (stg (ilR (up2 x 6 d (x 6 d ||| one p)) P W p (nI d) n).1 W) n W P) (had := (ilR (up2 x 6 d (x 6 d ||| one p)) P W p (nI d) n).1 (73 + n) 8) (2 ^ P - 1) (by omega)
    unfold illS
    unfold ilR at sy ⊢
    dsimp only at sy ⊢
    rw [e7]
    generalize offS x P W p d 7 n = vv at sy ⊢
    have c1 := ih (73 + n) 1 (by unfold seen; omega)
    have c7 := ih (73 + n) 7 (by unfold seen; omega)
    have c8 := ih (73 + n) 8 (by unfold seen; omega)
    have c9 := ih (73 + n) 9 (by unfold seen; omega)
    have c11 := ih (73 + n) 11 (by unfold seen; omega)
    have c10 := ih 0 10 (by unfold seen; omega)
    have cab := ih a b hs
    generalize illS (offS x P W p d) p (nI d) n = u at c1 c7 c8 c9 c11 c10 cab em ⊢
    generalize ilR (up2 x 6 d (x 6 d ||| one p)) P W p (nI d) n = Y at c1 c7 c8 c9 c11 c10 cab hm hbr sy ⊢
    have hcond : (u (73 + n) 1 = nI d ∧ fxw u n p = true) ↔ (Y.1 (73 + n) 7 = 1 ∧ Y.1 (73 + n) 1 = nI d ∧ bt (Y.1 (73 + n) 8) p = true) := by
      unfold fxw
      rw [c1, c7, c8, Bool.and_eq_true, decide_eq_true_iff]
      exact ⟨fun q => ⟨q.2.1, q.1, q.2.2⟩, fun q => ⟨q.2.1, q.1, q.2.2⟩⟩
    by_cases c : Y.1 (73 + n) 7 = 1 ∧ Y.1 (73 + n) 1 = nI d ∧ bt (Y.1 (73 + n) 8) p = true
    · rw [if_pos (hcond.mpr c), if_pos c]
      rw [if_pos c] at sy
      generalize bR Y.1 n P (freeF (stg Y.1 W) n W P) (Y.1 (73 + n) 8) (2 ^ P - 1) = bb at hbr sy ⊢
      by_cases e : bb = -1
      · rw [if_pos e] at sy ⊢
        have v0 : vv = 0 := by
          rw [sy]
          show (if lsW Y.1 n (73 + n) 7 = 1 then _ else _) = _
          have : lsW Y.1 n (73 + n) 7 = 3 := by
            unfold lsW
            rw [up2_off (by omega), up2_off (by omega), up2_same]
          rw [this]
          exact if_neg (by decide)
        unfold putF paidF
        rw [if_pos v0]
        show _ = lsW Y.1 n a b
        unfold lsW
        have p5 : Y.1 (73 + n) 11 = Y.1 (73 + n) 9 / 5 := by rw [hm 11, hm 9]; exact PF n (by omega) (by rw [← hm 7]; exact c.1)
        rw [up2_off (k := 73 + n) (j := 7) (k' := 73 + n) (j' := 11) (by omega), up2_off (k := 73 + n) (j := 7) (k' := 0) (j' := 10) (by omega), c9, c11, c10, p5]
        generalize Y.1 (73 + n) 9 / 5 = q5
        generalize Y.1 (73 + n) 9 / 10 = q10
        by_cases z1 : a = 0 ∧ b = 10
        · obtain ⟨rfl, rfl⟩ := z1
          rw [up2_same, up2_off (by omega), up2_same]
          grind
        rw [up2_off z1]
        by_cases z2 : a = 73 + n ∧ b = 11
        · obtain ⟨rfl, rfl⟩ := z2
          rw [up2_same, up2_same]
          grind
        rw [up2_off z2, up2_off z2, up2_off z1]
        by_cases z3 : a = 73 + n ∧ b = 7
        · obtain ⟨rfl, rfl⟩ := z3; rw [up2_same, up2_same]
        · rw [up2_off z3, up2_off z3]; exact cab
      · rw [if_neg e] at sy ⊢
        have v0 : vv = bb := by
          rw [sy]
          show (if up2 Y.1 (73 + n) 8 bb (73 + n) 7 = 1 then up2 Y.1 (73 + n) 8 bb (73 + n) 8 else 0) = bb
          rw [up2_off (by omega), if_pos c.1, up2_same]
        obtain ⟨s, s1, s2, s3, -⟩ := hbr.resolve_left e
        have hne : ¬ vv = 0 := fun q => by
          rw [v0, s3] at q
          have := (nI_eq (by omega) (by decide)).mp (q.trans nI_0.symm)
          omega
        unfold putF
        rw [if_neg hne, v0]
        show up2 u (73 + n) 8 bb a b = up2 Y.1 (73 + n) 8 bb a b
        by_cases z : a = 73 + n ∧ b = 8
        · obtain ⟨rfl, rfl⟩ := z; rw [up2_same, up2_same]
        · rw [up2_off z, up2_off z]; exact cab
    · rw [if_neg (fun q => c (hcond.mp q)), if_neg c]
      exact cab
theorem sy_illNow {post : Int32 → MS → Prop} {p d : Nat} (O : rOk (tR x) Γ σ) (Y : Sy x) (S : Sh x Γ) (G : Gs x) (hp : p < Γ.1) (e : a1 = nI p) (hd : d < 366) (e2 : a2 = nI d)
    (h : ∀ τ, rOk (tR (ilR (up2 x 6 d (x 6 d ||| one p)) Γ.1 Γ.2.2.1 p (nI d) Γ.2.2.1).1) Γ τ → kq σ τ → post (ilR (up2 x 6 d (x 6 d ||| one p)) Γ.1 Γ.2.2.1 p (nI d) Γ.2.2.1).2 τ) : w_X11_illNow Γ post σ a1 a2 := by
  have hP := O.hP
  have hW := O.hW
  have hB := O.hB
  subst e
  subst e2
  unfold w_X11_illNow
  refine sf_pget O hp rfl ⟨⟨by omega, hp⟩, vp_in_nI (by omega) (by decide), ?_⟩
  rw [nI_clamp (by omega), show vp_nar .boolean 1 = b01 true from rfl]
  have O1 := RX.dof (v := x 6 d ||| one p) (c := true) O hp hd (by rw [b_or, b_one (by omega) (by omega), decide_eq_true rfl, Bool.or_true]) (fun q hq hne => by rw [b_or, b_one (by omega) hq, decide_eq_false hne, Bool.or_false])
  have k1 : kq σ (up2 σ (23 + p) d (b01 true)) := kq.rf.up (by omega)
  have f0 : Fl x (up2 x 6 d (x 6 d ||| one p)) := Fl.up (by unfold flc; omega)
  have Y1 := Y.fl f0
  have S1 := S.fl f0 hB
  have G1 := G.fl f0
  generalize up2 x 6 d (x 6 d ||| one p) = x0 at O1 Y1 S1 G1 h
  generalize up2 σ (23 + p) d (b01 true) = σ1 at O1 k1
  have := inv_loop (fun k (q : MS × Int32 × Int32) => u_X11_illNow_22 Γ post (nI p) (nI d) k q.1 q.2.1 q.2.2) (fun j q => (rOk (tR (ilR x0 Γ.1 Γ.2.2.1 p (nI d) j).1) Γ q.1 ∧ kq σ q.1 ∧ q.2.1 = (ilR x0 Γ.1 Γ.2.2.1 p (nI d) j).2) ∧ q.2.2 = nI j) Γ.2.2.1 (by
    rintro ⟨τ, s, v⟩ ⟨⟨O, K, es⟩, rfl⟩
    have O : rOk (tR (ilR x0 Γ.1 Γ.2.2.1 p (nI d) Γ.2.2.1).1) Γ τ := O
    have es : s = (ilR x0 Γ.1 Γ.2.2.1 p (nI d) Γ.2.2.1).2 := es
    show u_X11_illNow_22 Γ post (nI p) (nI d) 1 τ s (nI Γ.2.2.1)
    unfold u_X11_illNow_22 w_lw_Jx4a65c_size_8abf5
    rw [O.w, es]
    exact ⟨fun _ => h _ O K, fun c => absurd (le_self _) c⟩) (by
    rintro j k ⟨τ, s, v⟩ hj ⟨⟨O', K', es'⟩, rfl⟩ ih
    have O : rOk (tR (ilR x0 Γ.1 Γ.2.2.1 p (nI d) j).1) Γ τ := O'
    have K : kq σ τ := K'
    have es : s = (ilR x0 Γ.1 Γ.2.2.1 p (nI d) j).2 := es'
    clear O' K' es'
    have nx : ∀ τ' s', rOk (tR (ilR x0 Γ.1 Γ.2.2.1 p (nI d) (j + 1)).1) Γ τ' → kq σ τ' → s' = (ilR x0 Γ.1 Γ.2.2.1 p (nI d) (j + 1)).2 → u_X11_illNow_22 Γ post (nI p) (nI d) k τ' s' (nI j + 1) := fun τ' s' O' K' e' => by rw [nI_1]; exact ih (τ', s', nI (j + 1)) ⟨⟨O', K', e'⟩, rfl⟩
    have fj : Fl x0 (ilR x0 Γ.1 Γ.2.2.1 p (nI d) j).1 := fun k' j' hk => ilR_k (by unfold flc at hk; omega) j
    have Yj := Y1.fl fj
    have Sj := S1.fl fj hB
    have Gj := G1.fl fj
    unfold ilR at nx
    dsimp only at nx
    show u_X11_illNow_22 Γ post (nI p) (nI d) (k + 1) τ s (nI j)
    generalize ilR x0 Γ.1 Γ.2.2.1 p (nI d) j = V at O es Yj Sj Gj nx
    subst es
    have keep : ¬ (V.1 (73 + j) 7 = 1 ∧ V.1 (73 + j) 1 = nI d ∧ bt (V.1 (73 + j) 8) p = true) → u_X11_illNow_22 Γ post (nI p) (nI d) k τ V.2 (nI j + 1) := fun c => nx τ V.2 (by rw [if_neg c]; exact O) K (by rw [if_neg c])
    unfold u_X11_illNow_22 w_lw_Jx4a65c_size_8abf5
    rw [O.w]
    refine ⟨fun c => absurd c (nI_ge hj (by omega)), fun _ => sf_wget O hj rfl ⟨⟨by omega, hj⟩, ?_⟩⟩
    rw [O.wd (j := 7) hj (by decide), O.wd (j := 1) hj (by decide), O.wd (j := 8) hj (by decide)]
    refine ⟨fun c1 => ⟨fun c2 => sx_isIn (by omega) ⟨fun c3 => keep (fun q => by rw [b01_0.mp c3] at q; exact Bool.false_ne_true q.2.2), fun c3 => ?_⟩, fun c2 => keep (fun q => c2 q.2.1)⟩, fun c1 => keep (fun q => c1 q.1)⟩
    have cc : V.1 (73 + j) 7 = 1 ∧ V.1 (73 + j) 1 = nI d ∧ bt (V.1 (73 + j) 8) p = true := ⟨c1, c2, b01_1.mp c3⟩
    rw [if_pos cc] at nx
    refine sy_best O Yj Sj Gj hj rfl ?_
    rw [O.wd (j := 8) hj (by decide), and_all]
    unfold frR
    generalize bR V.1 j Γ.1 (freeF (stg V.1 Γ.2.2.1) j Γ.2.2.1 Γ.1) (V.1 (73 + j) 8) (2 ^ Γ.1 - 1) = bb at nx ⊢
    refine ⟨fun e => ?_, fun e => ?_⟩
    · rw [if_pos e] at nx
      intro y hy
      rw [up2_off (by omega), up2_off (by omega), O.wd (j := 9) hj (by decide)] at hy
      subst hy
      rw [up2_off (k' := 0) (j' := 2) (by omega), up2_off (k' := 33 + j) (j' := 11) (by omega), up2_off (k' := 33 + j) (j' := 9) (by omega), O.csh, O.wd (j := 11) hj (by decide), O.wd (j := 9) hj (by decide)]
      exact nx _ _ (RX.wd (RX.csh (RX.wd O hj (by decide) (by decide))) hj (by decide) (by decide)) (((K.up (by omega)).up (by omega)).up (by omega)) rfl
    · rw [if_neg e] at nx
      exact nx _ _ (RX.wd O hj (by decide) (by decide)) (K.up (by omega)) rfl) 0 (by omega) (σ1, 0, 0) ⟨⟨O1, k1, rfl⟩, nI_0.symm⟩
  exact this
theorem sy_ill {post : Int32 → MS → Prop} (Oc : Ok x Γ.1 B Γ.2.2.1 T) (O : rOk (tR x) Γ σ) (Y : Sy x) (S : Sh x Γ) (G : Gs x) (PF : ∀ w, w < 14 → x (73 + w) 7 = 1 → x (73 + w) 11 = x (73 + w) 9 / 5)
    (h1 : (∀ p, p < Γ.1 → a1 ≠ nI p) → ∀ τ, rOk (tR x) Γ τ → τ 0 0 = 1 → post 0 τ)
    (h2 : ∀ p, p < Γ.1 → a1 = nI p → (∀ d, T ≤ d → d ≤ 365 → a2 ≠ nI d) → ∀ τ, rOk (tR x) Γ τ → τ 0 0 = 2 → post 0 τ)
    (h3 : ∀ p d, p < Γ.1 → T ≤ d → d ≤ 365 → a1 = nI p → a2 = nI d → ∀ τ, rOk (tR (illS (offS x Γ.1 Γ.2.2.1 p d) p (nI d) Γ.2.2.1)) Γ τ → τ 0 0 = 0 → post (swS x Γ.1 Γ.2.2.1 p (nI d) Γ.2.2.1).2 τ) : w_X11_ill Γ post σ a1 a2 := by
  unfold w_X11_ill
  have O0 := O.up (k := 0) (j := 0) (v := 0) (by unfold rPr; omega)
  refine sx_isPlayer O0 (fun no => ⟨fun _ => sx_refuse O0 (h1 no), fun c => absurd rfl c⟩) (fun p r hp e hr => ⟨fun c => absurd c hr, fun _ => sx_isDay (T := T) (by rw [O0.tdy]; exact Oc.h9) Oc.hT (fun no => ⟨fun _ => sx_refuse O0 (h2 p hp e no), fun c => absurd rfl c⟩) (fun d r2 hd1 hd2 e2 hr2 => ⟨fun c => absurd c hr2, fun _ => sy_illNow O0 Y S G hp e (by omega) e2 (fun τ O' K' => ?_)⟩)⟩)
  have s := (il_sync Oc hp (show d < 366 by omega) Γ.2.2.1 (Nat.le_refl _)).2
  have := h3 p d hp hd1 hd2 e e2 τ (RX.cg O' (il_one Oc hp (by omega) PF Γ.2.2.1 (Nat.le_refl _))) (K'.1.trans up2_same)
  rw [s] at this
  exact this
end ILLC
