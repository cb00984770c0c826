/-! THE LAW, CALL BY CALL: what holds between the calls: each side's own, one state on both; what each call answers on both sides -/
/-- what holds of every state of an agency -/
def CX (x : MS) (P B W T : Nat) : Prop := Inv x P B W T ∧ EI x P B W ∧ Fe x P ∧ Td x
section FEE
variable {σ : MS} {P : Nat} {a b c d : Int32}
theorem fe_learn {p : Nat} {v : Int32} (F : Fe σ P) (hp : p < 10) : Fe (up2 σ (29 + p) 1 v) P := ⟨fun p q hp hq => by rw [up2_off (by omega), up2_off (by omega)]; exact F.1 p q hp hq, fun p h1 h2 => by rw [up2_off (by omega)]; exact F.2.1 p h1 h2, fun s hs => by rw [up2_off (by omega)]; exact F.2.2 s hs⟩
theorem fe_song {s : Nat} (F : Fe σ P) (hs : s < 16) (ok : sgOk b c d) : Fe (songS σ s b c d) P := by
  refine ⟨fun p q hp hq => ?_, fun p h1 h2 => ?_, fun i hi => ?_⟩
  · unfold songS
    rw [up2_off (by omega), up2_off (by omega), up2_off (by omega), up2_off (by omega), up2_off (by omega), up2_off (by omega)]; exact F.1 p q hp hq
  · unfold songS
    rw [up2_off (by omega), up2_off (by omega), up2_off (by omega)]; exact F.2.1 p h1 h2
  · unfold songS
    rw [up2_off (by omega)]
    by_cases z : i = s
    · subst z
      rw [up2_same]
      obtain ⟨en, hn, rfl⟩ := nI_of ok.2.2.1
      refine ⟨en, ?_, rfl⟩
      rcases Nat.lt_or_ge en 10 with d | d
      · exact d
      · exact absurd (show nI 10 ≤ nI en from nI_le0 d hn) ok.2.2.2.1
    · rw [up2_off (by omega), up2_off (by omega)]
      exact F.2.2 i hi
theorem fe_feud {p q : Nat} (F : Fe σ P) (hP : P ≤ 10) (hp : p < P) (hq : q < P) (hne : p ≠ q) : Fe (up2 (up2 σ (29 + p) 4 (fdV (σ (29 + p) 4) q c)) (29 + q) 4 (fdV (σ (29 + q) 4) p c)) P := by
  have g : ∀ i, up2 (up2 σ (29 + p) 4 (fdV (σ (29 + p) 4) q c)) (29 + q) 4 (fdV (σ (29 + q) 4) p c) (29 + i) 4 = if i = q then fdV (σ (29 + q) 4) p c else if i = p then fdV (σ (29 + p) 4) q c else σ (29 + i) 4 := fun i => by
    by_cases y : i = q
    · subst y; rw [up2_same, if_pos rfl]
    · rw [up2_off (by omega), if_neg y]
      by_cases x : i = p
      · subst x; rw [up2_same, if_pos rfl]
      · rw [up2_off (by omega), if_neg x]
  refine ⟨fun u v hu hv => ?_, fun u h1 h2 => ?_, fun s hs => ?_⟩
  · rw [g, g]
    have s1 := F.1 u v hu hv
    have s2 := F.1 u q hu (by omega)
    have s3 := F.1 v q hv (by omega)
    have s4 := F.1 u p hu (by omega)
    have s5 := F.1 v p hv (by omega)
    by_cases uq : u = q
    · by_cases vq : v = q
      · rw [uq, vq]
      · by_cases vp : v = p
        · rw [if_pos uq, if_neg vq, if_pos vp, fdV_bt (by omega) (by omega), fdV_bt (by omega) (by omega), if_pos vp, if_pos uq]
        · rw [if_pos uq, if_neg vq, if_neg vp, fdV_bt (by omega) (by omega), if_neg vp, ← uq]; exact s1
    · by_cases up : u = p
      · by_cases vq : v = q
        · rw [if_neg uq, if_pos up, if_pos vq, fdV_bt (by omega) (by omega), fdV_bt (by omega) (by omega), if_pos vq, if_pos up]
        · by_cases vp : v = p
          · rw [up, vp]
          · rw [if_neg uq, if_pos up, if_neg vq, if_neg vp, fdV_bt (by omega) (by omega), if_neg vq, ← up]; exact s1
      · by_cases vq : v = q
        · rw [if_neg uq, if_neg up, if_pos vq, fdV_bt (by omega) (by omega), if_neg up, ← vq]; exact s1
        · by_cases vp : v = p
          · rw [if_neg uq, if_neg up, if_neg vq, if_pos vp, fdV_bt (by omega) (by omega), if_neg uq, ← vp]; exact s1
          · rw [if_neg uq, if_neg up, if_neg vq, if_neg vp]; exact s1
  · rw [g, if_neg (by omega), if_neg (by omega)]; exact F.2.1 u h1 h2
  · rw [up2_off (by omega), up2_off (by omega)]; exact F.2.2 s hs
theorem fe_road {i j : Nat} {h : Int32} (F : Fe σ P) (hi : i < 6) (hj : j < 6) : Fe (layS σ i j h) P := by
  refine ⟨fun p q hp hq => ?_, fun p h1 h2 => ?_, fun s hs => ?_⟩
  · rw [tk_lay σ hi hj p 4 hp, tk_lay σ hi hj q 4 hq]; exact F.1 p q hp hq
  · rw [tk_lay σ hi hj p 4 h2]; exact F.2.1 p h1 h2
  · rw [tl_lay σ hi hj s 1]; exact F.2.2 s hs
theorem fe_player (F : Fe σ P) (hP : P < 10) : Fe (telP σ P a b c d) (P + 1) := by
  refine ⟨fun p q hp hq => ?_, fun p h4 h5 => ?_, fun s hs => ?_⟩
  · unfold telP
    rw [up2_off (by omega), up2_off (by omega), up2_off (by omega), up2_off (by omega), up2_off (by omega), up2_off (by omega), up2_off (by omega), up2_off (by omega), up2_off (by omega), up2_off (by omega)]
    exact F.1 p q hp hq
  · unfold telP
    rw [up2_off (by omega), up2_off (by omega), up2_off (by omega), up2_off (by omega), up2_off (by omega)]
    exact F.2.1 p (by omega) h5
  · unfold telP
    rw [up2_off (by omega), up2_off (by omega), up2_off (by omega), up2_off (by omega), up2_off (by omega)]
    exact F.2.2 s hs
end FEE
section CXX
variable {x y : MS} {P B W T : Nat}
theorem CX.ok (C : CX x P B W T) : Ok x P B W T := C.1.2.2.1
theorem CX.pk (C : CX x P B W T) : Pk x P := C.1.2.2.2.1
theorem CX.si (C : CX x P B W T) : SI x P B W := C.1.2.2.2.2.1
theorem CX.di (C : CX x P B W T) : DI x P W T T := C.1.2.2.2.2.2
theorem CX.ci (C : CX x P B W T) : CI x P B T := ⟨W, C.ok, C.pk, C.2.2.1⟩
theorem CX.sy (C : CX x P B W T) : Sy x := fun a b ha hb => ⟨C.2.1.1.2 a b ha hb, (C.1.1.2 a b ha hb).elim Or.inl (fun h => Or.inr (by obtain ⟨n, _, h2, h3⟩ := h; exact ⟨n, h2, h3⟩))⟩
theorem CX.gs (C : CX x P B W T) : Gs x := C.2.1.2.1
theorem CX.pd (C : CX x P B W T) : ∀ w, w < 14 → PdA x w := C.2.1.2.2.1
theorem CX.pl (C : CX x P B W T) : PlI x W := C.2.1.2.2.2.1
theorem CX.fp (C : CX x P B W T) : Fp x P := C.2.1.2.2.2.2.1
theorem CX.ft (C : CX x P B W T) : ∀ w, W ≤ w → w < 14 → x (73 + w) 10 = 0 := C.2.1.2.2.2.2.2.1
theorem CX.fo (C : CX x P B W T) : FO x P := C.2.1.2.2.2.2.2.2.1
theorem CX.fb (C : CX x P B W T) : Fb x B := C.2.1.2.2.2.2.2.2.2
theorem CX.env (C : CX x P B W T) : enV x := C.2.2.1.2.2
theorem CX.pa (C : CX x P B W T) : ∀ w, w < 14 → x (73 + w) 7 = 0 → x (73 + w) 11 = 0 := fun w hw => (C.pd w hw).1
theorem CX.pf (C : CX x P B W T) : ∀ w, w < 14 → x (73 + w) 7 = 1 → x (73 + w) 11 = x (73 + w) 9 / 5 := fun w hw => (C.pd w hw).2
theorem CX.az (C : CX x P B W T) : ∀ w, w < 14 → x (73 + w) 7 = 0 → x (73 + w) 8 = 0 ∧ x (73 + w) 9 = 0 ∧ x (73 + w) 11 = 0 := fun w hw h7 => by
  by_cases c : w < W
  · rcases C.di.2.1 w c with ⟨_, a, b, _⟩ | ⟨a, _⟩ | ⟨a, _⟩ | a
    · exact ⟨a, b, C.pa w hw h7⟩
    · rw [h7] at a; exact absurd a (by decide)
    · rw [h7] at a; exact absurd a (by decide)
    · rw [h7] at a; exact absurd a (by decide)
  · obtain ⟨_, a, b, d⟩ := C.di.1 w (by omega) hw
    exact ⟨a, b, d⟩
theorem CX.fresh (C : CX x P B W T) : ∀ w, W ≤ w → w < 14 → ∀ j, 7 ≤ j → j < 12 → x (73 + w) j = 0 := fun w h1 h2 j h3 h4 => by
  obtain ⟨a, b, c, d⟩ := C.di.1 w h1 h2
  have e := C.ft w h1 h2
  rcases (by omega : j = 7 ∨ j = 8 ∨ j = 9 ∨ j = 10 ∨ j = 11) with z | z | z | z | z <;> subst z
  · exact a
  · exact b
  · exact c
  · exact e
  · exact d
theorem CX.st (C : CX x P B W T) : ∀ w, w < W → ∃ n, n ≤ 3 ∧ x (73 + w) 7 = nI n := fun w hw => by
  rcases C.di.2.1 w hw with ⟨a, _⟩ | ⟨a, _⟩ | ⟨a, _⟩ | a
  · exact ⟨0, by omega, a⟩
  · exact ⟨1, by omega, a⟩
  · exact ⟨2, by omega, a⟩
  · exact ⟨3, by omega, a⟩
theorem CX.d4 (C : CX x P B W T) : D4 x P W := C.di.2.2.2.2.1
theorem CX.hb (C : CX x P B W T) : P = 0 ∨ x 29 7 < 9999 := by
  by_cases c : P = 0
  · exact Or.inl c
  · right
    have hW := C.ok.hW
    obtain ⟨n, m, _, e, _, h2, h3⟩ := C.di.2.2.2.2.2.1 0 (by omega)
    have h4 : nPl x W ≤ W := fb_ct_le _ _
    have e : x 29 7 = nI m := e
    rw [e]
    exact nI_lt (show m < 9999 by omega) (by decide)
theorem CX.scr (C : CX x P B W T) (h : Scr x y) : CX y P B W T := ⟨C.1.scr h, C.2.1.scr C.ok.hW h, C.2.2.1.tk (Tk.scr h), C.2.2.2.sb (Sb.scr h)⟩
/-! what each call leaves of it -/
theorem CX.learn {p : Nat} {v : Int32} (C : CX x P B W T) (hp : p < P) : CX (up2 x (29 + p) 1 v) P B W T := by
  have hP := C.ok.hP
  exact ⟨(inv_learn (by omega) C.1).1, C.2.1.up C.ok.hW (by unfold eic; omega), fe_learn C.2.2.1 (by omega), C.2.2.2.sb (Sb.up (by unfold sbC; omega))⟩
theorem CX.song {s : Nat} {k e m : Int32} (C : CX x P B W T) (hs : s < 16) (ok : sgOk k e m) : CX (songS x s k e m) P B W T :=
  ⟨inv_song hs C.1, ((C.2.1.up C.ok.hW (by unfold eic; omega)).up C.ok.hW (by unfold eic; omega)).up C.ok.hW (by unfold eic; omega), fe_song C.2.2.1 hs ok, C.2.2.2.sb (((Sb.up (by unfold sbC; omega)).tr (Sb.up (by unfold sbC; omega))).tr (Sb.up (by unfold sbC; omega)))⟩
theorem CX.feud {p q : Nat} {c : Int32} (C : CX x P B W T) (hp : p < P) (hq : q < P) (hne : p ≠ q) : CX (up2 (up2 x (29 + p) 4 (fdV (x (29 + p) 4) q c)) (29 + q) 4 (fdV (x (29 + q) 4) p c)) P B W T := by
  have hP := C.ok.hP
  exact ⟨inv_feud (by omega) (by omega) C.1, C.2.1.feud hp hq hP C.ok.hW, fe_feud C.2.2.1 hP hp hq hne, C.2.2.2.sb ((Sb.up (by unfold sbC; omega)).tr (Sb.up (by unfold sbC; omega)))⟩
theorem CX.road {i j : Nat} {h : Int32} (C : CX x P B W T) (hi : i < 6) (hj : j < 6) (hr : rg 0 9 h) : CX (layS x i j h) P B W T :=
  ⟨(inv_road hi hj hr C.1).1, C.2.1.road hi hj hr C.ok.hW C.1.1.1, fe_road C.2.2.1 hi hj, C.2.2.2.sb (Sb.lay x hi hj)⟩
theorem CX.player {a b c d : Int32} (C : CX x P B W T) (hc : 0 ≤ c ∧ c < 6) (ok : plOk a b d) (hP : P < 10) : CX (telP x P a b c d) (P + 1) B W T := by
  refine ⟨inv_player hc ok hP C.fp C.1, C.2.1.player hP C.ok.hW, fe_player C.2.2.1 hP, C.2.2.2.sb ?_⟩
  exact ((((Sb.up (by unfold sbC; omega)).tr (Sb.up (by unfold sbC; omega))).tr (Sb.up (by unfold sbC; omega))).tr (Sb.up (by unfold sbC; omega))).tr (Sb.up (by unfold sbC; omega))
theorem CX.band {m : Nat} (C : CX x P B W T) (hB : B < 6) (h1 : 1 ≤ m) (hm : m ≤ 728) : CX (bandS x B m) P (B + 1) W T :=
  ⟨inv_band hB h1 hm (C.ok.band1 hB) C.fb C.1, C.2.1.band hB C.ok.hW, C.2.2.1.tk (Tk.band x hB), fun w hw => by rw [bandS_k (by unfold bdPl; omega) (by omega)]; exact C.2.2.2 w hw⟩
theorem CX.ask {b d t s l g : Int32} (C : CX x P B W T) (hb : ∃ k, k < B ∧ b = nI k) (ht : ∃ k, k < 6 ∧ t = nI k) (ok : askOk x d s l g) (hW : W < 14) (hn : taken x b d W = false) : CX (askS x W b d t s l g) P B (W + 1) T := by
  refine ⟨(inv_ask hb ht ok hW hn C.1).1, C.2.1.ask hW (sg_bits ok.2.2.2) C.di.1, C.2.2.1.tk (tk_ask _ _ _ _ _ _), fun w hw => ?_⟩
  by_cases e : w = W
  · subst e
    refine ⟨T, C.ok.hT, ?_⟩
    rw [← C.ok.h9]
    unfold askS
    rw [up2_off (by omega), up2_same]
  · unfold askS
    rw [up2_off (by omega), up2_off (by omega), up2_off (by omega), up2_off (by omega), up2_off (by omega), up2_off (by omega), up2_off (by omega), up2_off (by omega)]
    exact C.2.2.2 w hw
theorem CX.fix {w : Nat} (C : CX x P B W T) (hw : w < W) (hf : isFst x w = true) (hc : ¬ snF x w P W 9 3 = 0) : CX (fixS x w P W) P B W T := by
  have h7 : x (73 + w) 7 = 0 := by
    unfold isFst at hf
    exact (of_decide_eq_true hf).1
  exact ⟨(inv_fix hw hf hc C.1).1, C.2.1.fix hw C.ok.hW h7, C.2.2.1.tk (Tk.fix _ _ _ _), C.2.2.2.sb (Sb.fix _ _ _ _)⟩
theorem CX.can {w : Nat} (C : CX x P B W T) (hw : w < W) (h7 : x (73 + w) 7 = 0 ∨ x (73 + w) 7 = 1) : CX (canS x w) P B W T :=
  ⟨(inv_can hw h7 C.1).1, C.2.1.can hw C.ok.hW h7, C.2.2.1.tk (Tk.can _ _), C.2.2.2.sb (Sb.can _ _)⟩
theorem CX.ill {p d : Nat} (C : CX x P B W T) (hp : p < P) : CX (illS (offS x P W p d) p (nI d) W) P B W T :=
  ⟨(inv_ill C.1).1, C.2.1.ill hp C.ok.hP C.ok.hW, C.2.2.1.tk ((Tk.off _ _ _ _ _).tr (Tk.ill _ _ _ _)), C.2.2.2.sb ((Sb.off _ _ _ _ _).tr (Sb.ill _ _ _ _))⟩
theorem CX.late {w : Nat} {m : Int32} (C : CX x P B W T) (hw : w < W) (h1 : ¬ m < 0) (h2 : m ≤ 240) (h7 : x (73 + w) 7 = 1) : CX (up2 x (73 + w) 10 m) P B W T := by
  have hW := C.ok.hW
  exact ⟨(inv_late (by omega) h1 h2 C.1).1, C.2.1.late hw hW h7, C.2.2.1.tk (Tk.up (by unfold tdC; omega)), C.2.2.2.sb (Sb.up (by unfold sbC; omega))⟩
theorem CX.pass {d : Nat} (C : CX x P B W T) (hd : T + d ≤ 365) : CX (psS x P W d) P B W (T + d) :=
  ⟨(inv_pass C.1 d hd).1, C.2.1.pass C.1 d hd, C.2.2.1.tk (tk_psS _ _ _ _), C.2.2.2.pq (pq_psS C.ok.hP C.ok.hW d)⟩
end CXX
/-- what holds between the calls -/
def LI (ea : Nat) (u : OU) (Y : RY) : Prop := ∃ T, CX u.1 Y.2.1.1 Y.2.1.2.1 Y.2.1.2.2.1 T ∧ rOk (tR u.1) Y.2.1 Y.2.2 ∧ Sh u.1 Y.2.1 ∧ Y.2.1.2.2.2.1 = ea
/-- .. with today named -/
def LIT (ea T : Nat) (u : OU) (Y : RY) : Prop := CX u.1 Y.2.1.1 Y.2.1.2.1 Y.2.1.2.2.1 T ∧ rOk (tR u.1) Y.2.1 Y.2.2 ∧ Sh u.1 Y.2.1 ∧ Y.2.1.2.2.2.1 = ea
theorem LIT.same {ea T : Nat} {u u' : OU} {Y : RY} {τ : MS} (I : LIT ea T u Y) (hs : Scr u.1 u'.1) (hO : rOk (tR u.1) Y.2.1 τ) : LI ea u' (Y.1, Y.2.1, τ) :=
  ⟨T, I.1.scr hs, RX.sc hO hs, I.2.2.1.sb (Sb.scr hs) hO.hB, I.2.2.2⟩
/-- what the class leaves of a call with outcome K (0: the answer V; else what is thrown), the state Z -/
def cQ (K V : Int32) (Z : MS) (P B W T : Nat) (r : Int32) (u : OU) : Prop := r = K ∧ (K = 0 → u.2.1 = Int32.toInt64 V) ∧ Scr Z u.1 ∧ CX Z P B W T
/-- .. and the reference -/
def rfQ (K V : Int32) (Z : MS) (P B W ea : Nat) (r : Int32) (Y : RY) : Prop := Y.2.2 0 0 = K ∧ (K = 0 → r = V) ∧ rOk (tR Z) Y.2.1 Y.2.2 ∧ Sh Z Y.2.1 ∧ Y.2.1.1 = P ∧ Y.2.1.2.1 = B ∧ Y.2.1.2.2.1 = W ∧ Y.2.1.2.2.2.1 = ea
theorem qq {K V : Int32} {Z : MS} {P B W T ea : Nat} {r1 r2 : Int32} {u : OU} {Y : RY} (h1 : cQ K V Z P B W T r1 u) (h2 : rfQ K V Z P B W ea r2 Y) : Y.2.2 0 0 = r1 ∧ (r1 = 0 → u.2.1 = Int32.toInt64 r2) ∧ LI ea u Y := by
  obtain ⟨rfl, v1, s1, c1⟩ := h1
  obtain ⟨e2, v2, o2, sh, p2, b2, w2, a2⟩ := h2
  refine ⟨e2, fun z => by rw [v2 z]; exact v1 z, T, ?_, RX.sc o2 s1, sh.sb (Sb.scr s1) o2.hB, a2⟩
  rw [p2, b2, w2]
  exact c1.scr s1
theorem sx {i L j : Nat} {v : Int32} (h : 7 * i + 7 ≤ L) (hL : L ≤ 3584) (hj : j < 7) (e : v = nI j) : vp_in (nI (7 * i) + v) L := by
  rw [e, nI_add]
  exact vp_in_nI (by omega) (by omega)
/-! one outcome of a call, whichever case -/
section OUT
variable {G : MS → Prop} {x : MS} {N M : Nat} {a b : Int32}
theorem out_I {D E F : Nat → Prop} (val : Nat → Int32) (Zs : Nat → MS) (hN : N ≤ 1000) (hx : G x) (hs : ∀ w, w < N → F w → G (Zs w)) (de : ∀ w, w < N → D w → ¬ E w) (df : ∀ w, w < N → F w → ¬ D w) (ef : ∀ w, w < N → F w → ¬ E w) :
    ∃ (K V : Int32) (Z : MS), G Z ∧ ((∀ w, w < N → a ≠ nI w) → K = 1 ∧ Z = x) ∧ (∀ w, w < N → a = nI w → D w → K = 2 ∧ Z = x) ∧ (∀ w, w < N → a = nI w → E w → K = 3 ∧ Z = x) ∧ ∀ w, w < N → a = nI w → F w → K = 0 ∧ V = val w ∧ Z = Zs w := by
  by_cases h : ∃ w, w < N ∧ a = nI w
  · obtain ⟨w, hw, e⟩ := h
    have same : ∀ v, v < N → a = nI v → v = w := fun v hv ev => (nI_eq (by omega) (by omega)).mp (ev.symm.trans e)
    have n1 : ¬ ∀ v, v < N → a ≠ nI v := fun z => z w hw e
    by_cases hd : D w
    · exact ⟨2, 0, x, hx, fun z => absurd z n1, fun v hv ev _ => ⟨rfl, rfl⟩, fun v hv ev q => absurd (same v hv ev ▸ q) (de w hw hd), fun v hv ev q => absurd hd (df w hw (same v hv ev ▸ q))⟩
    · by_cases he : E w
      · exact ⟨3, 0, x, hx, fun z => absurd z n1, fun v hv ev q => absurd (same v hv ev ▸ q) hd, fun v hv ev _ => ⟨rfl, rfl⟩, fun v hv ev q => absurd he (ef w hw (same v hv ev ▸ q))⟩
      · by_cases hf : F w
        · exact ⟨0, val w, Zs w, hs w hw hf, fun z => absurd z n1, fun v hv ev q => absurd (same v hv ev ▸ q) hd, fun v hv ev q => absurd (same v hv ev ▸ q) he, fun v hv ev _ => by rw [same v hv ev]; exact ⟨rfl, rfl, rfl⟩⟩
        · exact ⟨0, 0, x, hx, fun z => absurd z n1, fun v hv ev q => absurd (same v hv ev ▸ q) hd, fun v hv ev q => absurd (same v hv ev ▸ q) he, fun v hv ev q => absurd (same v hv ev ▸ q) hf⟩
  · exact ⟨1, 0, x, hx, fun _ => ⟨rfl, rfl⟩, fun v hv ev _ => absurd ⟨v, hv, ev⟩ h, fun v hv ev _ => absurd ⟨v, hv, ev⟩ h, fun v hv ev _ => absurd ⟨v, hv, ev⟩ h⟩
theorem out_IK {R : Nat → Prop} (val : Nat → Nat → Int32) (Zs : Nat → Nat → MS) (hN : N ≤ 1000) (hR : ∀ k, R k → k ≤ 1000) (hx : G x) (hs : ∀ p k, p < N → R k → G (Zs p k)) :
    ∃ (K V : Int32) (Z : MS), G Z ∧ ((∀ w, w < N → a ≠ nI w) → K = 1 ∧ Z = x) ∧ (∀ w, w < N → a = nI w → (∀ k, R k → b ≠ nI k) → K = 2 ∧ Z = x) ∧ ∀ p k, p < N → R k → a = nI p → b = nI k → K = 0 ∧ V = val p k ∧ Z = Zs p k := by
  by_cases h : ∃ w, w < N ∧ a = nI w
  · obtain ⟨w, hw, e⟩ := h
    have same : ∀ v, v < N → a = nI v → v = w := fun v hv ev => (nI_eq (by omega) (by omega)).mp (ev.symm.trans e)
    have n1 : ¬ ∀ v, v < N → a ≠ nI v := fun z => z w hw e
    by_cases g : ∃ k, R k ∧ b = nI k
    · obtain ⟨k, hk, e2⟩ := g
      have hk1 := hR k hk
      have same2 : ∀ v, R v → b = nI v → v = k := fun v hv ev => (nI_eq (by have := hR v hv; omega) (by omega)).mp (ev.symm.trans e2)
      exact ⟨0, val w k, Zs w k, hs w k hw hk, fun z => absurd z n1, fun v hv ev q => absurd e2 (q k hk), fun v j hv hj ev ev2 => by rw [same v hv ev, same2 j hj ev2]; exact ⟨rfl, rfl, rfl⟩⟩
    · exact ⟨2, 0, x, hx, fun z => absurd z n1, fun v hv ev _ => ⟨rfl, rfl⟩, fun v j hv hj ev ev2 => absurd ⟨j, hj, ev2⟩ g⟩
  · exact ⟨1, 0, x, hx, fun _ => ⟨rfl, rfl⟩, fun v hv ev _ => absurd ⟨v, hv, ev⟩ h, fun v j hv hj ev _ => absurd ⟨v, hv, ev⟩ h⟩
theorem out_II {D F : Nat → Nat → Prop} (val : Nat → Nat → Int32) (Zs : Nat → Nat → MS) (hN : N ≤ 1000) (hM : M ≤ 1000) (hx : G x) (hs : ∀ p q, p < N → q < M → F p q → G (Zs p q)) (df : ∀ p q, p < N → q < M → F p q → ¬ D p q) :
    ∃ (K V : Int32) (Z : MS), G Z ∧ (((∀ w, w < N → a ≠ nI w) ∨ (∀ w, w < M → b ≠ nI w)) → K = 1 ∧ Z = x) ∧ (∀ p q, p < N → q < M → a = nI p → b = nI q → D p q → K = 2 ∧ Z = x) ∧ ∀ p q, p < N → q < M → a = nI p → b = nI q → F p q → K = 0 ∧ V = val p q ∧ Z = Zs p q := by
  by_cases h : ∃ w, w < N ∧ a = nI w
  · obtain ⟨w, hw, e⟩ := h
    have same : ∀ v, v < N → a = nI v → v = w := fun v hv ev => (nI_eq (by omega) (by omega)).mp (ev.symm.trans e)
    by_cases g : ∃ k, k < M ∧ b = nI k
    · obtain ⟨k, hk, e2⟩ := g
      have same2 : ∀ v, v < M → b = nI v → v = k := fun v hv ev => (nI_eq (by omega) (by omega)).mp (ev.symm.trans e2)
      have n1 : ¬ ((∀ w, w < N → a ≠ nI w) ∨ (∀ w, w < M → b ≠ nI w)) := fun z => z.elim (fun z => z w hw e) (fun z => z k hk e2)
      by_cases hd : D w k
      · exact ⟨2, 0, x, hx, fun z => absurd z n1, fun _ _ _ _ _ _ _ => ⟨rfl, rfl⟩, fun p q hp hq ep eq f => absurd hd (df w k hw hk (by rw [← same p hp ep, ← same2 q hq eq]; exact f))⟩
      · by_cases hf : F w k
        · exact ⟨0, val w k, Zs w k, hs w k hw hk hf, fun z => absurd z n1, fun p q hp hq ep eq f => absurd (by rw [← same p hp ep, ← same2 q hq eq]; exact f) hd, fun p q hp hq ep eq _ => by rw [same p hp ep, same2 q hq eq]; exact ⟨rfl, rfl, rfl⟩⟩
        · exact ⟨0, 0, x, hx, fun z => absurd z n1, fun p q hp hq ep eq f => absurd (by rw [← same p hp ep, ← same2 q hq eq]; exact f) hd, fun p q hp hq ep eq f => absurd (by rw [← same p hp ep, ← same2 q hq eq]; exact f) hf⟩
    · exact ⟨1, 0, x, hx, fun _ => ⟨rfl, rfl⟩, fun p q hp hq ep eq f => absurd ⟨q, hq, eq⟩ g, fun p q hp hq ep eq f => absurd ⟨q, hq, eq⟩ g⟩
  · exact ⟨1, 0, x, hx, fun _ => ⟨rfl, rfl⟩, fun p q hp hq ep eq f => absurd ⟨p, hp, ep⟩ h, fun p q hp hq ep eq f => absurd ⟨p, hp, ep⟩ h⟩
end OUT
section SPEC
variable {ea T : Nat} {u : OU} {Y : RY} {a b c d : Int32}
theorem LIT.cx (I : LIT ea T u Y) : CX u.1 Y.2.1.1 Y.2.1.2.1 Y.2.1.2.2.1 T := I.1
theorem LIT.ok (I : LIT ea T u Y) : Ok u.1 Y.2.1.1 Y.2.1.2.1 Y.2.1.2.2.1 T := I.1.ok
theorem LIT.pok (I : LIT ea T u Y) : Pok u.1 Y.2.1.1 Y.2.1.2.2.1 := I.1.pk.ok I.1.ok.hW
theorem LIT.ro (I : LIT ea T u Y) : rOk (tR u.1) Y.2.1 Y.2.2 := I.2.1
theorem LIT.sh (I : LIT ea T u Y) : Sh u.1 Y.2.1 := I.2.2.1
theorem LIT.he (I : LIT ea T u Y) : Y.2.1.2.2.2.1 = ea := I.2.2.2
/-- .. of the class, of the reference, in a case -/
theorem cq_x {K V n : Int32} {Z x y : MS} {P B W T : Nat} {v : Int64 × Value} (hn : ¬ n = 0) (h : K = n ∧ Z = x) (C : CX Z P B W T) (s : Scr x y) : cQ K V Z P B W T n (y, v) := ⟨h.1.symm, fun z => absurd (h.1.symm.trans z) hn, by rw [h.2]; exact s, C⟩
theorem cq_0 {K V w : Int32} {Z x y : MS} {P B W T : Nat} {v : Int64 × Value} (h : K = 0 ∧ V = w ∧ Z = x) (C : CX Z P B W T) (s : Scr x y) (e : v.1 = Int32.toInt64 w) : cQ K V Z P B W T 0 (y, v) := ⟨h.1.symm, fun _ => by rw [h.2.1]; exact e, by rw [h.2.2]; exact s, C⟩
theorem rq_x {K V n r : Int32} {Z x τ : MS} {lay : Nat → Nat} {Γ : RG} (hn : ¬ n = 0) (h : K = n ∧ Z = x) (O : rOk (tR x) Γ τ) (z : τ 0 0 = n) (S : Sh Z Γ) (he : Γ.2.2.2.1 = ea) : rfQ K V Z Γ.1 Γ.2.1 Γ.2.2.1 ea r (lay, Γ, τ) := ⟨z.trans h.1.symm, fun q => absurd (h.1.symm.trans q) hn, by rw [h.2]; exact O, S, rfl, rfl, rfl, he⟩
theorem rq_0 {K V w : Int32} {Z x τ : MS} {lay : Nat → Nat} {Γ : RG} (h : K = 0 ∧ V = w ∧ Z = x) (O : rOk (tR x) Γ τ) (z : τ 0 0 = 0) (S : Sh Z Γ) (he : Γ.2.2.2.1 = ea) : rfQ K V Z Γ.1 Γ.2.1 Γ.2.2.1 ea w (lay, Γ, τ) := ⟨z.trans h.1.symm, fun _ => h.2.1.symm, by rw [h.2.2]; exact O, S, rfl, rfl, rfl, he⟩
theorem sp_learn (I : LIT ea T u Y) (a b : Int32) : ∃ (K V : Int32) (Z : MS) (P B W T : Nat),
    w_T_X7_learn (fun v τ => cQ K V Z P B W T 0 (τ, Int32.toInt64 v, u.2.2)) (fun E τ => (E = xIO ∧ cQ K V Z P B W T 1 (τ, u.2)) ∨ (E = xIA ∧ cQ K V Z P B W T 2 (τ, u.2))) u.1 a b ∧
    w_X11_learn Y.2.1 (fun r τ => rfQ K V Z P B W ea r (Y.1, Y.2.1, τ)) Y.2.2 a b := by
  have C := I.cx
  have O := I.ro
  have S := I.sh
  have he := I.he
  have hP := O.hP
  have hB := O.hB
  have hW := O.hW
  obtain ⟨K, V, Z, ⟨cx, sh⟩, k1, k2, k3, k0⟩ := out_I (G := fun Z => CX Z Y.2.1.1 Y.2.1.2.1 Y.2.1.2.2.1 T ∧ Sh Z Y.2.1) (x := u.1) (N := Y.2.1.1) (a := a) (D := fun w => ¬ (0 ≤ b ∧ b < 65536)) (E := fun w => False) (F := fun w => 0 ≤ b ∧ b < 65536) (fun w => bcI (u.1 (29 + w) 1 ||| b)) (fun w => up2 u.1 (29 + w) 1 (u.1 (29 + w) 1 ||| b)) (by omega) ⟨C, S⟩ (fun w hw f => ⟨C.learn hw, S.sb (Sb.up (by unfold sbC; omega)) hB⟩) (fun w hw d e => e) (fun w hw f d => d f) (fun w hw f e => e)
  exact ⟨K, V, Z, Y.2.1.1, Y.2.1.2.1, Y.2.1.2.2.1, T, law_T_learn C.ok (fun no => Or.inl ⟨rfl, cq_x (by decide) (k1 no) cx (Scr.rf _)⟩) (fun p hp e no => Or.inr (⟨rfl, cq_x (by decide) (k2 p hp e no) cx (Scr.rf _)⟩)) (fun p hp e ok => cq_0 (k0 p hp e ok) cx (Scr.rf _) rfl), sy_learn O (fun no τ O' z => rq_x (by decide) (k1 no) O' z sh he) (fun p hp e no τ O' z => rq_x (by decide) (k2 p hp e no) O' z sh he) (fun p hp e ok τ O' z => rq_0 (k0 p hp e ok) O' z sh he)⟩
theorem sg_ok {k e m : Int32} : sgOk k e m ↔ sgOkR k e m := by
  unfold sgOk sgOkR
  rw [rIsF_0, rIsF_0, rIsF_0]
  simp only [Int32.lt_iff_toInt_lt, Int32.le_iff_toInt_le]
  have e0 : (0 : Int32).toInt = 0 := by decide
  have e2 : (2 : Int32).toInt = 2 := by decide
  have e9 : (9 : Int32).toInt = 9 := by decide
  have e10 : (10 : Int32).toInt = 10 := by decide
  have e11 : (11 : Int32).toInt = 11 := by decide
  have e12 : (12 : Int32).toInt = 12 := by decide
  omega
theorem sp_song (I : LIT ea T u Y) (a b c d : Int32) : ∃ (K V : Int32) (Z : MS) (P B W T : Nat),
    w_T_X7_song (fun v τ => cQ K V Z P B W T 0 (τ, Int32.toInt64 v, u.2.2)) (fun E τ => (E = xIO ∧ cQ K V Z P B W T 1 (τ, u.2)) ∨ (E = xIA ∧ cQ K V Z P B W T 2 (τ, u.2))) u.1 a b c d ∧
    w_X11_song Y.2.1 (fun r τ => rfQ K V Z P B W ea r (Y.1, Y.2.1, τ)) Y.2.2 a b c d := by
  have C := I.cx
  have O := I.ro
  have S := I.sh
  have he := I.he
  have hP := O.hP
  have hB := O.hB
  have hW := O.hW
  obtain ⟨K, V, Z, ⟨cx, sh⟩, k1, k2, k3, k0⟩ := out_I (G := fun Z => CX Z Y.2.1.1 Y.2.1.2.1 Y.2.1.2.2.1 T ∧ Sh Z Y.2.1) (x := u.1) (N := 16) (a := a) (D := fun w => ¬ sgOk b c d) (E := fun w => False) (F := fun w => sgOk b c d) (fun w => u.1 (39 + w) 2) (fun w => songS u.1 w b c d) (by omega) ⟨C, S⟩ (fun w hw f => ⟨C.song hw f, S.sb (((Sb.up (by unfold sbC; omega)).tr (Sb.up (by unfold sbC; omega))).tr (Sb.up (by unfold sbC; omega))) hB⟩) (fun w hw d e => e) (fun w hw f d => d f) (fun w hw f e => e)
  exact ⟨K, V, Z, Y.2.1.1, Y.2.1.2.1, Y.2.1.2.2.1, T, law_T_song (fun no => Or.inl ⟨rfl, cq_x (by decide) (k1 no) cx (Scr.rf _)⟩) (fun p hp e no => Or.inr (⟨rfl, cq_x (by decide) (k2 p hp e no) cx (Scr.rf _)⟩)) (fun p hp e ok => cq_0 (k0 p hp e ok) cx (Scr.rf _) rfl), sy_song O (fun no τ O' z => rq_x (by decide) (k1 no) O' z sh he) (fun p hp e no τ O' z => rq_x (by decide) (k2 p hp e (fun q => no (sg_ok.mp q))) O' z sh he) (fun p hp e ok τ O' z => rq_0 (k0 p hp e (sg_ok.mpr ok)) O' z sh he)⟩
theorem sp_feud (I : LIT ea T u Y) (a b c : Int32) (hc : c = 0 ∨ c = 1) : ∃ (K V : Int32) (Z : MS) (P B W T : Nat),
    w_T_X7_feud (fun v τ => cQ K V Z P B W T 0 (τ, (if v = 0 then 0 else 1), u.2.2)) (fun E τ => (E = xIO ∧ cQ K V Z P B W T 1 (τ, u.2)) ∨ (E = xIA ∧ cQ K V Z P B W T 2 (τ, u.2))) u.1 a b c ∧
    w_X11_feud Y.2.1 (fun r τ => rfQ K V Z P B W ea r (Y.1, Y.2.1, τ) ∧ (r = 0 ∨ r = 1)) Y.2.2 a b c := by
  have C := I.cx
  have O := I.ro
  have S := I.sh
  have he := I.he
  have hP := O.hP
  have hB := O.hB
  have hW := O.hW
  have nb : ∀ x : Bool, b01 x = 0 ∨ b01 x = 1 := fun x => by cases x; exact Or.inl rfl; exact Or.inr rfl
  have n64 : ∀ x : Bool, (if b01 x = 0 then (0 : Int64) else 1) = Int32.toInt64 (b01 x) := fun x => by cases x <;> rfl
  obtain ⟨K, V, Z, ⟨cx, sh⟩, k1, k2, k0⟩ := out_II (G := fun Z => CX Z Y.2.1.1 Y.2.1.2.1 Y.2.1.2.2.1 T ∧ Sh Z Y.2.1) (x := u.1) (N := Y.2.1.1) (M := Y.2.1.1) (a := a) (b := b) (D := fun p q => p = q) (F := fun p q => p ≠ q) (fun p q => b01 (bt (u.1 (29 + p) 4) q)) (fun p q => up2 (up2 u.1 (29 + p) 4 (fdV (u.1 (29 + p) 4) q c)) (29 + q) 4 (fdV (u.1 (29 + q) 4) p c)) (by omega) (by omega) ⟨C, S⟩ (fun p q hp hq f => ⟨C.feud hp hq f, S.sb ((Sb.up (by unfold sbC; omega)).tr (Sb.up (by unfold sbC; omega))) hB⟩) (fun p q hp hq f d => f d)
  refine ⟨K, V, Z, Y.2.1.1, Y.2.1.2.1, Y.2.1.2.2.1, T, law_T_feud C.ok (fun no => Or.inl ⟨rfl, cq_x (by decide) (k1 no) cx (Scr.rf _)⟩) (fun p hp e e2 => Or.inr (⟨rfl, cq_x (by decide) (k2 p p hp hp e e2 rfl) cx (Scr.rf _)⟩)) (fun p q hp hq e e2 hne => ?_), sy_feud O (fun no τ O' z => ⟨rq_x (by decide) (k1 no) O' z sh he, Or.inl rfl⟩) (fun p hp e e2 τ O' z => ⟨rq_x (by decide) (k2 p p hp hp e e2 rfl) O' z sh he, Or.inl rfl⟩) (fun p q hp hq e e2 hne τ O' z => ⟨rq_0 (k0 p q hp hq e e2 hne) O' z sh he, nb _⟩)⟩
  rw [feudS_is C.2.2.1 hP hp hq hne hc]
  exact cq_0 (k0 p q hp hq e e2 hne) cx (Scr.rf _) (n64 _)
theorem rd_ok {i j : Nat} {h : Int32} (hi : i < 6) (hj : j < 6) : rdOk (nI i) (nI j) h ↔ ¬ (i = j ∨ rIsF h 0 9 = 0) := by
  unfold rdOk
  rw [nI_eq (by omega) (by omega), rIsF_0]
  simp only [Int32.lt_iff_toInt_lt, Int32.le_iff_toInt_le]
  omega
theorem rd_rg {a b h : Int32} (ok : rdOk a b h) : rg 0 9 h := by
  obtain ⟨n, hn, e⟩ := nI_of ok.2.1
  exact ⟨n, Nat.zero_le _, (nI_leI hn (by decide)).mp (show nI n ≤ nI 9 by rw [← e]; exact ok.2.2), e⟩
theorem sp_road (I : LIT ea T u Y) (a b c : Int32) : ∃ (K V : Int32) (Z : MS) (P B W T : Nat),
    w_T_X7_road (fun v τ => cQ K V Z P B W T 0 (τ, Int32.toInt64 v, u.2.2)) (fun E τ => (E = xIO ∧ cQ K V Z P B W T 1 (τ, u.2)) ∨ (E = xIA ∧ cQ K V Z P B W T 2 (τ, u.2))) u.1 a b c ∧
    w_X11_road Y.2.1 (fun r τ => rfQ K V Z P B W ea r (Y.1, Y.2.1, τ)) Y.2.2 a b c := by
  have C := I.cx
  have O := I.ro
  have S := I.sh
  have he := I.he
  have hP := O.hP
  have hB := O.hB
  have hW := O.hW
  obtain ⟨K, V, Z, ⟨cx, sh⟩, k1, k2, k0⟩ := out_II (G := fun Z => CX Z Y.2.1.1 Y.2.1.2.1 Y.2.1.2.2.1 T ∧ Sh Z Y.2.1) (x := u.1) (N := 6) (M := 6) (a := a) (b := b) (D := fun p q => ¬ rdOk a b c) (F := fun p q => rdOk a b c) (fun p q => layS u.1 p q c (23 + p) q) (fun p q => layS u.1 p q c) (by omega) (by omega) ⟨C, S⟩ (fun p q hp hq f => ⟨C.road hp hq (rd_rg f), S.sb (Sb.lay u.1 hp hq) hB⟩) (fun p q hp hq f d => d f)
  exact ⟨K, V, Z, Y.2.1.1, Y.2.1.2.1, Y.2.1.2.2.1, T, law_T_road (fun no => Or.inl ⟨rfl, cq_x (by decide) (k1 no) cx (Scr.rf _)⟩) (fun p q hp hq e e2 no => Or.inr (⟨rfl, cq_x (by decide) (k2 p q hp hq e e2 no) cx (Scr.rf _)⟩)) (fun p q hp hq e e2 ok => cq_0 (k0 p q hp hq e e2 ok) cx (Scr.rf _) rfl), sy_road O (fun no τ O' z => rq_x (by decide) (k1 no) O' z sh he) (fun p q hp hq e e2 no τ O' z => rq_x (by decide) (k2 p q hp hq e e2 (fun g => (rd_ok hp hq).mp (by rw [← e, ← e2]; exact g) no)) O' z sh he) (fun p q hp hq e e2 h1 h2 τ O' z => rq_0 (k0 p q hp hq e e2 (by rw [e, e2]; exact (rd_ok hp hq).mpr (fun g => g.elim h1 h2))) O' z sh he)⟩
theorem sp_fix (I : LIT ea T u Y) (a : Int32) : ∃ (K V : Int32) (Z : MS) (P B W T : Nat),
    w_T_X7_fix (fun v τ => cQ K V Z P B W T 0 (τ, Int32.toInt64 v, u.2.2)) (fun E τ => (E = xIO ∧ cQ K V Z P B W T 1 (τ, u.2)) ∨ (E = xIS ∧ cQ K V Z P B W T 2 (τ, u.2))) u.1 a ∧
    w_X11_fix Y.2.1 (fun r τ => rfQ K V Z P B W ea r (Y.1, Y.2.1, τ)) Y.2.2 a := by
  have C := I.cx
  have O := I.ro
  have S := I.sh
  have he := I.he
  have hP := O.hP
  have hB := O.hB
  have hW := O.hW
  obtain ⟨K, V, Z, ⟨cx, sh⟩, k1, k2, k3, k0⟩ := out_I (G := fun Z => CX Z Y.2.1.1 Y.2.1.2.1 Y.2.1.2.2.1 T ∧ Sh Z Y.2.1) (x := u.1) (N := Y.2.1.2.2.1) (a := a) (D := fun w => isFst u.1 w = false ∨ snF u.1 w Y.2.1.1 Y.2.1.2.2.1 9 3 = 0) (E := fun w => False) (F := fun w => isFst u.1 w = true ∧ ¬ snF u.1 w Y.2.1.1 Y.2.1.2.2.1 9 3 = 0) (fun w => fixS u.1 w Y.2.1.1 Y.2.1.2.2.1 (73 + w) 9) (fun w => fixS u.1 w Y.2.1.1 Y.2.1.2.2.1) (by omega) ⟨C, S⟩ (fun w hw f => ⟨C.fix hw f.1 f.2, S.sb (Sb.fix _ _ _ _) hB⟩) (fun w hw d e => e) (fun w hw f d => d.elim (fun q => Bool.false_ne_true (q.symm.trans f.1)) f.2) (fun w hw f e => e)
  exact ⟨K, V, Z, Y.2.1.1, Y.2.1.2.1, Y.2.1.2.2.1, T, law_T_fix C.ok (fun no => Or.inl ⟨rfl, cq_x (by decide) (k1 no) cx (Scr.rf _)⟩) (fun w hw e q => Or.inr (⟨rfl, cq_x (by decide) (k2 w hw e (Or.inl q)) cx (Scr.rf _)⟩)) (fun w hw e _ q => Or.inr (⟨rfl, cq_x (by decide) (k2 w hw e (Or.inr q)) cx (Scr.sn _ _ _ _)⟩)) (fun w hw e q1 q2 => cq_0 (k0 w hw e ⟨q1, q2⟩) cx (Scr.rf _) rfl), sy_fix O C.sy S C.gs C.pa (fun no τ O' z => rq_x (by decide) (k1 no) O' z sh he) (fun w hw e q τ O' z => rq_x (by decide) (k2 w hw e q) O' z sh he) (fun w hw e q1 q2 τ O' z => rq_0 (k0 w hw e ⟨q1, q2⟩) O' z sh he)⟩
theorem sp_cancel (I : LIT ea T u Y) (a : Int32) : ∃ (K V : Int32) (Z : MS) (P B W T : Nat),
    w_T_X7_cancel (fun v τ => cQ K V Z P B W T 0 (τ, Int32.toInt64 v, u.2.2)) (fun E τ => (E = xIO ∧ cQ K V Z P B W T 1 (τ, u.2)) ∨ (E = xIS ∧ cQ K V Z P B W T 2 (τ, u.2))) u.1 a ∧
    w_X11_cancel Y.2.1 (fun r τ => rfQ K V Z P B W ea r (Y.1, Y.2.1, τ)) Y.2.2 a := by
  have C := I.cx
  have O := I.ro
  have S := I.sh
  have he := I.he
  have hP := O.hP
  have hB := O.hB
  have hW := O.hW
  obtain ⟨K, V, Z, ⟨cx, sh⟩, k1, k2, k3, k0⟩ := out_I (G := fun Z => CX Z Y.2.1.1 Y.2.1.2.1 Y.2.1.2.2.1 T ∧ Sh Z Y.2.1) (x := u.1) (N := Y.2.1.2.2.1) (a := a) (D := fun w => ¬ (u.1 (73 + w) 7 = 0 ∨ u.1 (73 + w) 7 = 1)) (E := fun w => False) (F := fun w => u.1 (73 + w) 7 = 0 ∨ u.1 (73 + w) 7 = 1) (fun w => if u.1 (73 + w) 7 = 1 then owedF u.1 w else 0) (fun w => canS u.1 w) (by omega) ⟨C, S⟩ (fun w hw f => ⟨C.can hw f, S.sb (Sb.can _ _) hB⟩) (fun w hw d e => e) (fun w hw f d => d f) (fun w hw f e => e)
  exact ⟨K, V, Z, Y.2.1.1, Y.2.1.2.1, Y.2.1.2.2.1, T, law_T_cancel C.ok (fun no => Or.inl ⟨rfl, cq_x (by decide) (k1 no) cx (Scr.rf _)⟩) (fun w hw e q => Or.inr (⟨rfl, cq_x (by decide) (k2 w hw e q) cx (Scr.rf _)⟩)) (fun w hw e q => cq_0 (k0 w hw e q) cx (Scr.rf _) rfl), sy_cancel O C.pa C.st (fun no τ O' z => rq_x (by decide) (k1 no) O' z sh he) (fun w hw e q τ O' z => rq_x (by decide) (k2 w hw e q) O' z sh he) (fun w hw e q τ O' z => rq_0 (k0 w hw e q) O' z sh he)⟩
theorem sp_late (I : LIT ea T u Y) (a b : Int32) : ∃ (K V : Int32) (Z : MS) (P B W T : Nat),
    w_T_X7_late (fun v τ => cQ K V Z P B W T 0 (τ, Int32.toInt64 v, u.2.2)) (fun E τ => (E = xIO ∧ cQ K V Z P B W T 1 (τ, u.2)) ∨ (E = xIA ∧ cQ K V Z P B W T 2 (τ, u.2)) ∨ (E = xIS ∧ cQ K V Z P B W T 3 (τ, u.2))) u.1 a b ∧
    w_X11_late Y.2.1 (fun r τ => rfQ K V Z P B W ea r (Y.1, Y.2.1, τ)) Y.2.2 a b := by
  have C := I.cx
  have O := I.ro
  have S := I.sh
  have he := I.he
  have hP := O.hP
  have hB := O.hB
  have hW := O.hW
  obtain ⟨K, V, Z, ⟨cx, sh⟩, k1, k2, k3, k0⟩ := out_I (G := fun Z => CX Z Y.2.1.1 Y.2.1.2.1 Y.2.1.2.2.1 T ∧ Sh Z Y.2.1) (x := u.1) (N := Y.2.1.2.2.1) (a := a) (D := fun w => ¬ (¬ b < 0 ∧ b ≤ 240)) (E := fun w => (¬ b < 0 ∧ b ≤ 240) ∧ ¬ u.1 (73 + w) 7 = 1) (F := fun w => (¬ b < 0 ∧ b ≤ 240) ∧ u.1 (73 + w) 7 = 1) (fun w => quF (up2 u.1 (73 + w) 10 b) w) (fun w => up2 u.1 (73 + w) 10 b) (by omega) ⟨C, S⟩ (fun w hw f => ⟨C.late hw f.1.1 f.1.2 f.2, S.sb (Sb.up (by unfold sbC; omega)) hB⟩) (fun w hw d e => d e.1) (fun w hw f d => d f.1) (fun w hw f e => e.2 f.2)
  exact ⟨K, V, Z, Y.2.1.1, Y.2.1.2.1, Y.2.1.2.2.1, T, law_T_late C.ok (fun no => Or.inl ⟨rfl, cq_x (by decide) (k1 no) cx (Scr.rf _)⟩) (fun w hw e q => Or.inr (Or.inl ⟨rfl, cq_x (by decide) (k2 w hw e q) cx (Scr.rf _)⟩)) (fun w hw e q q2 => Or.inr (Or.inr (⟨rfl, cq_x (by decide) (k3 w hw e ⟨q, q2⟩) cx (Scr.rf _)⟩))) (fun w hw e q q2 => cq_0 (k0 w hw e ⟨q, q2⟩) cx (Scr.rf _) rfl), sy_late O (fun no τ O' z => rq_x (by decide) (k1 no) O' z sh he) (fun w hw e q τ O' z => rq_x (by decide) (k2 w hw e q) O' z sh he) (fun w hw e q q2 τ O' z => rq_x (by decide) (k3 w hw e ⟨q, q2⟩) O' z sh he) (fun w hw e q q2 τ O' z => rq_0 (k0 w hw e ⟨q, q2⟩) O' z sh he)⟩
theorem sp_ill (I : LIT ea T u Y) (a b : Int32) : ∃ (K V : Int32) (Z : MS) (P B W T : Nat),
    w_T_X7_ill (fun v τ => cQ K V Z P B W T 0 (τ, Int32.toInt64 v, u.2.2)) (fun E τ => (E = xIO ∧ cQ K V Z P B W T 1 (τ, u.2)) ∨ (E = xIA ∧ cQ K V Z P B W T 2 (τ, u.2))) u.1 a b ∧
    w_X11_ill Y.2.1 (fun r τ => rfQ K V Z P B W ea r (Y.1, Y.2.1, τ)) Y.2.2 a b := by
  have C := I.cx
  have O := I.ro
  have S := I.sh
  have he := I.he
  have hP := O.hP
  have hB := O.hB
  have hW := O.hW
  have hT := C.ok.hT
  obtain ⟨K, V, Z, ⟨cx, sh⟩, k1, k2, k0⟩ := out_IK (G := fun Z => CX Z Y.2.1.1 Y.2.1.2.1 Y.2.1.2.2.1 T ∧ Sh Z Y.2.1) (x := u.1) (N := Y.2.1.1) (a := a) (b := b) (R := fun k => T ≤ k ∧ k ≤ 365) (fun p k => (swS u.1 Y.2.1.1 Y.2.1.2.2.1 p (nI k) Y.2.1.2.2.1).2) (fun p k => illS (offS u.1 Y.2.1.1 Y.2.1.2.2.1 p k) p (nI k) Y.2.1.2.2.1) (by omega) (fun k hk => by omega) ⟨C, S⟩ (fun p k hp hk => ⟨C.ill hp, S.sb ((Sb.off _ _ _ _ _).tr (Sb.ill _ _ _ _)) hB⟩)
  exact ⟨K, V, Z, Y.2.1.1, Y.2.1.2.1, Y.2.1.2.2.1, T, law_T_ill C.ok (fun no => Or.inl ⟨rfl, cq_x (by decide) (k1 no) cx (Scr.rf _)⟩) (fun p hp e no => Or.inr (⟨rfl, cq_x (by decide) (k2 p hp e (fun k hk => no k hk.1 hk.2)) cx (Scr.rf _)⟩)) (fun p d hp h1 h2 e e2 => cq_0 (k0 p d hp ⟨h1, h2⟩ e e2) cx (Scr.rf _) rfl), sy_ill C.ok O C.sy S C.gs C.pf (fun no τ O' z => rq_x (by decide) (k1 no) O' z sh he) (fun p hp e no τ O' z => rq_x (by decide) (k2 p hp e (fun k hk => no k hk.1 hk.2)) O' z sh he) (fun p d hp h1 h2 e e2 τ O' z => rq_0 (k0 p d hp ⟨h1, h2⟩ e e2) O' z sh he)⟩
theorem sp_wouldLose (I : LIT ea T u Y) (a b : Int32) : ∃ (K V : Int32) (Z : MS) (P B W T : Nat),
    w_T_X7_wouldLose (fun v τ => cQ K V Z P B W T 0 (τ, Int32.toInt64 v, u.2.2)) (fun E τ => (E = xIO ∧ cQ K V Z P B W T 1 (τ, u.2)) ∨ (E = xIA ∧ cQ K V Z P B W T 2 (τ, u.2))) u.1 a b ∧
    w_X11_wouldLose Y.2.1 (fun r τ => rfQ K V Z P B W ea r (Y.1, Y.2.1, τ)) Y.2.2 a b := by
  have C := I.cx
  have O := I.ro
  have S := I.sh
  have he := I.he
  have hP := O.hP
  have hB := O.hB
  have hW := O.hW
  have hT := C.ok.hT
  obtain ⟨K, V, Z, ⟨cx, sh⟩, k1, k2, k0⟩ := out_IK (G := fun Z => CX Z Y.2.1.1 Y.2.1.2.1 Y.2.1.2.2.1 T ∧ Sh Z Y.2.1) (x := u.1) (N := Y.2.1.1) (a := a) (b := b) (R := fun k => T ≤ k ∧ k ≤ 365) (fun p k => (swS u.1 Y.2.1.1 Y.2.1.2.2.1 p (nI k) Y.2.1.2.2.1).2) (fun p k => u.1) (by omega) (fun k hk => by omega) ⟨C, S⟩ (fun p k hp hk => ⟨C, S⟩)
  exact ⟨K, V, Z, Y.2.1.1, Y.2.1.2.1, Y.2.1.2.2.1, T, law_T_wouldLose C.ok (fun no => Or.inl ⟨rfl, cq_x (by decide) (k1 no) cx (Scr.rf _)⟩) (fun p hp e no => Or.inr (⟨rfl, cq_x (by decide) (k2 p hp e (fun k hk => no k hk.1 hk.2)) cx (Scr.rf _)⟩)) (fun p d hp h1 h2 e e2 => cq_0 (k0 p d hp ⟨h1, h2⟩ e e2) cx (Scr.sw _ _ _ _ _ _) rfl), sy_wouldLose C.ok O C.sy S C.gs (fun no τ O' z => rq_x (by decide) (k1 no) O' z sh he) (fun p hp e no τ O' z => rq_x (by decide) (k2 p hp e (fun k hk => no k hk.1 hk.2)) O' z sh he) (fun p d hp h1 h2 e e2 τ O' z => rq_0 (k0 p d hp ⟨h1, h2⟩ e e2) O' z sh he)⟩
theorem sp_ofPlayer (I : LIT ea T u Y) (a b : Int32) : ∃ (K V : Int32) (Z : MS) (P B W T : Nat),
    w_T_X7_ofPlayer (fun v τ => cQ K V Z P B W T 0 (τ, Int32.toInt64 v, u.2.2)) (fun E τ => (E = xIO ∧ cQ K V Z P B W T 1 (τ, u.2)) ∨ (E = xIA ∧ cQ K V Z P B W T 2 (τ, u.2))) u.1 a b ∧
    w_X11_ofPlayer Y.2.1 (fun r τ => rfQ K V Z P B W ea r (Y.1, Y.2.1, τ)) Y.2.2 a b := by
  have C := I.cx
  have O := I.ro
  have S := I.sh
  have he := I.he
  have hP := O.hP
  have hB := O.hB
  have hW := O.hW
  obtain ⟨K, V, Z, ⟨cx, sh⟩, k1, k2, k0⟩ := out_IK (G := fun Z => CX Z Y.2.1.1 Y.2.1.2.1 Y.2.1.2.2.1 T ∧ Sh Z Y.2.1) (x := u.1) (N := Y.2.1.1) (a := a) (b := b) (R := fun k => k ≤ 8) (fun p k => ofPF u.1 Y.2.1.2.2.1 p k) (fun p k => u.1) (by omega) (fun k hk => by omega) ⟨C, S⟩ (fun p k hp hk => ⟨C, S⟩)
  exact ⟨K, V, Z, Y.2.1.1, Y.2.1.2.1, Y.2.1.2.2.1, T, law_T_ofPlayer C.ok (fun no => Or.inl ⟨rfl, cq_x (by decide) (k1 no) cx (Scr.rf _)⟩) (fun p hp e no => Or.inr (⟨rfl, cq_x (by decide) (k2 p hp e no) cx (Scr.rf _)⟩)) (fun p k hp hk e e2 => cq_0 (k0 p k hp hk e e2) cx (Scr.rf _) rfl), sy_ofPlayer O C.pl (fun no τ O' z => rq_x (by decide) (k1 no) O' z sh he) (fun p hp e no τ O' z => rq_x (by decide) (k2 p hp e no) O' z sh he) (fun p k hp hk e e2 τ O' z => rq_0 (k0 p k hp hk e e2) O' z sh he)⟩
theorem sp_ofSong (I : LIT ea T u Y) (a b : Int32) : ∃ (K V : Int32) (Z : MS) (P B W T : Nat),
    w_T_X7_ofSong (fun v τ => cQ K V Z P B W T 0 (τ, Int32.toInt64 v, u.2.2)) (fun E τ => (E = xIO ∧ cQ K V Z P B W T 1 (τ, u.2)) ∨ (E = xIA ∧ cQ K V Z P B W T 2 (τ, u.2))) u.1 a b ∧
    w_X11_ofSong Y.2.1 (fun r τ => rfQ K V Z P B W ea r (Y.1, Y.2.1, τ)) Y.2.2 a b := by
  have C := I.cx
  have O := I.ro
  have S := I.sh
  have he := I.he
  have hP := O.hP
  have hB := O.hB
  have hW := O.hW
  obtain ⟨K, V, Z, ⟨cx, sh⟩, k1, k2, k0⟩ := out_IK (G := fun Z => CX Z Y.2.1.1 Y.2.1.2.1 Y.2.1.2.2.1 T ∧ Sh Z Y.2.1) (x := u.1) (N := 16) (a := a) (b := b) (R := fun k => k ≤ 5) (fun p k => ofSF u.1 Y.2.1.1 p k) (fun p k => u.1) (by omega) (fun k hk => by omega) ⟨C, S⟩ (fun p k hp hk => ⟨C, S⟩)
  exact ⟨K, V, Z, Y.2.1.1, Y.2.1.2.1, Y.2.1.2.2.1, T, law_T_ofSong C.ok (fun no => Or.inl ⟨rfl, cq_x (by decide) (k1 no) cx (Scr.rf _)⟩) (fun p hp e no => Or.inr (⟨rfl, cq_x (by decide) (k2 p hp e no) cx (Scr.rf _)⟩)) (fun p k hp hk e e2 => cq_0 (k0 p k hp hk e e2) cx (Scr.rf _) rfl), sy_ofSong O (fun no τ O' z => rq_x (by decide) (k1 no) O' z sh he) (fun p hp e no τ O' z => rq_x (by decide) (k2 p hp e no) O' z sh he) (fun p k hp hk e e2 τ O' z => rq_0 (k0 p k hp hk e e2) O' z sh he)⟩
theorem sp_ofBand (I : LIT ea T u Y) (a b : Int32) : ∃ (K V : Int32) (Z : MS) (P B W T : Nat),
    w_T_X7_ofBand (fun v τ => cQ K V Z P B W T 0 (τ, Int32.toInt64 v, u.2.2)) (fun E τ => (E = xIO ∧ cQ K V Z P B W T 1 (τ, u.2)) ∨ (E = xIA ∧ cQ K V Z P B W T 2 (τ, u.2))) u.1 a b ∧
    w_X11_ofBand Y.2.1 (fun r τ => rfQ K V Z P B W ea r (Y.1, Y.2.1, τ)) Y.2.2 a b := by
  have C := I.cx
  have O := I.ro
  have S := I.sh
  have he := I.he
  have hP := O.hP
  have hB := O.hB
  have hW := O.hW
  obtain ⟨K, V, Z, ⟨cx, sh⟩, k1, k2, k0⟩ := out_IK (G := fun Z => CX Z Y.2.1.1 Y.2.1.2.1 Y.2.1.2.2.1 T ∧ Sh Z Y.2.1) (x := u.1) (N := Y.2.1.2.1) (a := a) (b := b) (R := fun k => k ≤ 8) (fun p k => ofBF u.1 Y.2.1.2.2.1 p k) (fun p k => u.1) (by omega) (fun k hk => by omega) ⟨C, S⟩ (fun p k hp hk => ⟨C, S⟩)
  exact ⟨K, V, Z, Y.2.1.1, Y.2.1.2.1, Y.2.1.2.2.1, T, law_T_ofBand C.ok (fun no => Or.inl ⟨rfl, cq_x (by decide) (k1 no) cx (Scr.rf _)⟩) (fun p hp e no => Or.inr (⟨rfl, cq_x (by decide) (k2 p hp e no) cx (Scr.rf _)⟩)) (fun p k hp hk e e2 => cq_0 (k0 p k hp hk e e2) cx (Scr.rf _) rfl), sy_ofBand O S (fun no τ O' z => rq_x (by decide) (k1 no) O' z sh he) (fun p hp e no τ O' z => rq_x (by decide) (k2 p hp e no) O' z sh he) (fun p k hp hk e e2 τ O' z => rq_0 (k0 p k hp hk e e2) O' z sh he)⟩
theorem sp_ofWedding (I : LIT ea T u Y) (a b : Int32) : ∃ (K V : Int32) (Z : MS) (P B W T : Nat),
    w_T_X7_ofWedding (fun v τ => cQ K V Z P B W T 0 (τ, Int32.toInt64 v, u.2.2)) (fun E τ => (E = xIO ∧ cQ K V Z P B W T 1 (τ, u.2)) ∨ (E = xIA ∧ cQ K V Z P B W T 2 (τ, u.2))) u.1 a b ∧
    w_X11_ofWedding Y.2.1 (fun r τ => rfQ K V Z P B W ea r (Y.1, Y.2.1, τ)) Y.2.2 a b := by
  have C := I.cx
  have O := I.ro
  have S := I.sh
  have he := I.he
  have hP := O.hP
  have hB := O.hB
  have hW := O.hW
  obtain ⟨K, V, Z, ⟨cx, sh⟩, k1, k2, k0⟩ := out_IK (G := fun Z => CX Z Y.2.1.1 Y.2.1.2.1 Y.2.1.2.2.1 T ∧ Sh Z Y.2.1) (x := u.1) (N := Y.2.1.2.2.1) (a := a) (b := b) (R := fun k => k ≤ 12) (fun p k => ofWF u.1 p k) (fun p k => u.1) (by omega) (fun k hk => by omega) ⟨C, S⟩ (fun p k hp hk => ⟨C, S⟩)
  exact ⟨K, V, Z, Y.2.1.1, Y.2.1.2.1, Y.2.1.2.2.1, T, law_T_ofWedding C.ok (fun no => Or.inl ⟨rfl, cq_x (by decide) (k1 no) cx (Scr.rf _)⟩) (fun p hp e no => Or.inr (⟨rfl, cq_x (by decide) (k2 p hp e no) cx (Scr.rf _)⟩)) (fun p k hp hk e e2 => cq_0 (k0 p k hp hk e e2) cx (Scr.rf _) rfl), sy_ofWedding O (fun no τ O' z => rq_x (by decide) (k1 no) O' z sh he) (fun p hp e no τ O' z => rq_x (by decide) (k2 p hp e no) O' z sh he) (fun p k hp hk e e2 τ O' z => rq_0 (k0 p k hp hk e e2) O' z sh he)⟩
theorem sp_filling (I : LIT ea T u Y) (a b : Int32) : ∃ (K V : Int32) (Z : MS) (P B W T : Nat),
    w_T_X7_filling (fun v τ => cQ K V Z P B W T 0 (τ, Int32.toInt64 v, u.2.2)) (fun E τ => (E = xIO ∧ cQ K V Z P B W T 1 (τ, u.2)) ∨ (E = xIA ∧ cQ K V Z P B W T 2 (τ, u.2))) u.1 a b ∧
    w_X11_filling Y.2.1 (fun r τ => rfQ K V Z P B W ea r (Y.1, Y.2.1, τ)) Y.2.2 a b := by
  have C := I.cx
  have O := I.ro
  have S := I.sh
  have he := I.he
  have hP := O.hP
  have hB := O.hB
  have hW := O.hW
  obtain ⟨K, V, Z, ⟨cx, sh⟩, k1, k2, k0⟩ := out_IK (G := fun Z => CX Z Y.2.1.1 Y.2.1.2.1 Y.2.1.2.2.1 T ∧ Sh Z Y.2.1) (x := u.1) (N := Y.2.1.2.2.1) (a := a) (b := b) (R := fun k => k ≤ 3) (fun p k => fillF (snF u.1 p Y.2.1.1 Y.2.1.2.2.1) k) (fun p k => u.1) (by omega) (fun k hk => by omega) ⟨C, S⟩ (fun p k hp hk => ⟨C, S⟩)
  exact ⟨K, V, Z, Y.2.1.1, Y.2.1.2.1, Y.2.1.2.2.1, T, law_T_filling C.ok (fun no => Or.inl ⟨rfl, cq_x (by decide) (k1 no) cx (Scr.rf _)⟩) (fun p hp e no => Or.inr (⟨rfl, cq_x (by decide) (k2 p hp e no) cx (Scr.rf _)⟩)) (fun p k hp hk e e2 => cq_0 (k0 p k hp hk e e2) cx (Scr.sn _ _ _ _) rfl), sy_filling O C.sy S C.gs (fun no τ O' z => rq_x (by decide) (k1 no) O' z sh he) (fun p hp e no τ O' z => rq_x (by decide) (k2 p hp e no) O' z sh he) (fun p k hp hk e e2 τ O' z => rq_0 (k0 p k hp hk e e2) O' z sh he)⟩
theorem sp_drive (I : LIT ea T u Y) (a b : Int32) : ∃ (K V : Int32) (Z : MS) (P B W T : Nat),
    w_T_X7_drive (fun v τ => cQ K V Z P B W T 0 (τ, Int32.toInt64 v, u.2.2)) (fun E τ => (E = xIO ∧ cQ K V Z P B W T 1 (τ, u.2))) u.1 a b ∧
    w_X11_drive_ Y.2.1 (fun r τ => rfQ K V Z P B W ea r (Y.1, Y.2.1, τ)) Y.2.2 a b := by
  have C := I.cx
  have O := I.ro
  have S := I.sh
  have he := I.he
  have hP := O.hP
  have hB := O.hB
  have hW := O.hW
  have O0 := O.up (k := 0) (j := 0) (v := 0) (by unfold rPr; omega)
  obtain ⟨K, V, Z, ⟨cx, sh⟩, k1, k2, k0⟩ := out_II (G := fun Z => CX Z Y.2.1.1 Y.2.1.2.1 Y.2.1.2.2.1 T ∧ Sh Z Y.2.1) (x := u.1) (N := 6) (M := 6) (a := a) (b := b) (D := fun p q => False) (F := fun p q => True) (fun p q => u.1 (23 + p) q) (fun p q => u.1) (by omega) (by omega) ⟨C, S⟩ (fun p q hp hq f => ⟨C, S⟩) (fun p q hp hq f d => d)
  refine ⟨K, V, Z, Y.2.1.1, Y.2.1.2.1, Y.2.1.2.2.1, T, law_T_drive (fun no => ⟨rfl, cq_x (by decide) (k1 no) cx (Scr.rf _)⟩) (fun p q hp hq e e2 => cq_0 (k0 p q hp hq e e2 trivial) cx (Scr.rf _) rfl), ?_⟩
  unfold w_X11_drive_ u_X11_drive__28
  refine sx_isTown (fun no => ⟨fun _ => sx_refuse O0 (fun τ O' z => rq_x (by decide) (k1 (Or.inl no)) O' z sh he), fun z => absurd rfl z⟩) (fun i r hi e hr => ⟨fun z => absurd z hr, fun _ => sx_isTown (fun no => ⟨fun _ => sx_refuse O0 (fun τ O' z => rq_x (by decide) (k1 (Or.inr no)) O' z sh he), fun z => absurd rfl z⟩) (fun j r2 hj e2 hr2 => ⟨fun z => absurd z hr2, fun _ => ?_⟩)⟩)
  have k := k0 i j hi hj e e2 trivial
  rw [e, e2]
  refine ⟨ix36 hi hj, ?_⟩
  rw [x6 hi hj, O0.dr hi hj]
  have z : up2 Y.2.2 0 0 0 0 0 = 0 := up2_same
  exact rq_0 (k) O0 z sh he
theorem sp_free (I : LIT ea T u Y) (a b : Int32) : ∃ (K V : Int32) (Z : MS) (P B W T : Nat),
    w_T_X7_free (fun v τ => cQ K V Z P B W T 0 (τ, (if v = 0 then 0 else 1), u.2.2)) (fun E τ => (E = xIO ∧ cQ K V Z P B W T 1 (τ, u.2))) u.1 a b ∧
    w_X11_free Y.2.1 (fun r τ => rfQ K V Z P B W ea r (Y.1, Y.2.1, τ) ∧ (r = 0 ∨ r = 1)) Y.2.2 a b := by
  have C := I.cx
  have O := I.ro
  have S := I.sh
  have he := I.he
  have hP := O.hP
  have hB := O.hB
  have hW := O.hW
  have nb : ∀ x : Bool, b01 x = 0 ∨ b01 x = 1 := fun x => by cases x; exact Or.inl rfl; exact Or.inr rfl
  have n64 : ∀ x : Bool, (if b01 x = 0 then (0 : Int64) else 1) = Int32.toInt64 (b01 x) := fun x => by cases x <;> rfl
  obtain ⟨K, V, Z, ⟨cx, sh⟩, k1, k2, k0⟩ := out_II (G := fun Z => CX Z Y.2.1.1 Y.2.1.2.1 Y.2.1.2.2.1 T ∧ Sh Z Y.2.1) (x := u.1) (N := Y.2.1.1) (M := Y.2.1.2.2.1) (a := a) (b := b) (D := fun p q => False) (F := fun p q => True) (fun p q => b01 (freeB (stg u.1 Y.2.1.2.2.1) p q Y.2.1.2.2.1)) (fun p q => u.1) (by omega) (by omega) ⟨C, S⟩ (fun p q hp hq f => ⟨C, S⟩) (fun p q hp hq f d => d)
  exact ⟨K, V, Z, Y.2.1.1, Y.2.1.2.1, Y.2.1.2.2.1, T, law_T_free C.ok (fun no => ⟨rfl, cq_x (by decide) (k1 no) cx (Scr.rf _)⟩) (fun p q hp hq e e2 => cq_0 (k0 p q hp hq e e2 trivial) cx (Scr.stg _ _) (n64 _)), sy_free O C.sy (fun no τ O' z => ⟨rq_x (by decide) (k1 no) O' z sh he, Or.inl rfl⟩) (fun p q hp hq e e2 τ O' z => ⟨rq_0 (k0 p q hp hq e e2 trivial) O' z sh he, nb _⟩)⟩
theorem out_1 {G : MS → Prop} {x : MS} {c1 S : Prop} (val : Int32) (hx : G x) (n : S → ¬ c1) : ∃ (K V : Int32) (Z : MS), G Z ∧ (c1 → K = 1 ∧ Z = x) ∧ (S → K = 0 ∧ V = val ∧ Z = x) := by
  by_cases h : c1
  · exact ⟨1, 0, x, hx, fun _ => ⟨rfl, rfl⟩, fun s => absurd h (n s)⟩
  · exact ⟨0, val, x, hx, fun z => absurd z h, fun _ => ⟨rfl, rfl, rfl⟩⟩
theorem sp_set (I : LIT ea T u Y) (a b : Int32) : ∃ (K V : Int32) (Z : MS) (P B W T : Nat),
    w_T_X7_set (fun v τ => cQ K V Z P B W T 0 (τ, Int32.toInt64 v, u.2.2)) (fun E τ => (E = xIA ∧ cQ K V Z P B W T 1 (τ, u.2))) u.1 a b ∧
    w_X11_set Y.2.1 (fun r τ => rfQ K V Z P B W ea r (Y.1, Y.2.1, τ)) Y.2.2 a b := by
  have C := I.cx
  have O := I.ro
  have S := I.sh
  have he := I.he
  have hP := O.hP
  have hB := O.hB
  have hW := O.hW
  obtain ⟨K, V, Z, ⟨cx, sh⟩, k1, k0⟩ := out_1 (G := fun Z => CX Z Y.2.1.1 Y.2.1.2.1 Y.2.1.2.2.1 T ∧ Sh Z Y.2.1) (x := u.1) (c1 := ¬ (0 ≤ a ∧ a < nI (2 ^ Y.2.1.1))) (S := 0 ≤ a ∧ a < nI (2 ^ Y.2.1.1)) (setR (setS u.1 a Y.2.1.1) b) ⟨C, S⟩ (fun s c => c s)
  exact ⟨K, V, Z, Y.2.1.1, Y.2.1.2.1, Y.2.1.2.2.1, T, law_T_set C.ok (fun no => ⟨rfl, cq_x (by decide) (k1 no) cx (Scr.rf _)⟩) (fun h1 h2 => cq_0 (k0 ⟨h1, h2⟩) cx (Scr.set _ _ _) rfl), sy_set O C.env (fun no τ O' z => rq_x (by decide) (k1 no) O' z sh he) (fun h1 h2 τ O' z => rq_0 (k0 ⟨h1, h2⟩) O' z sh he)⟩
theorem sp_desk (I : LIT ea T u Y) (a : Int32) : ∃ (K V : Int32) (Z : MS) (P B W T : Nat),
    w_T_X7_desk (fun v τ => cQ K V Z P B W T 0 (τ, Int32.toInt64 v, u.2.2)) (fun E τ => (E = xIA ∧ cQ K V Z P B W T 1 (τ, u.2))) u.1 a ∧
    w_X11_desk Y.2.1 (fun r τ => rfQ K V Z P B W ea r (Y.1, Y.2.1, τ)) Y.2.2 a := by
  have C := I.cx
  have O := I.ro
  have S := I.sh
  have he := I.he
  have hP := O.hP
  have hB := O.hB
  have hW := O.hW
  obtain ⟨K, V, Z, ⟨cx, sh⟩, k1, k2, k3, k0⟩ := out_I (G := fun Z => CX Z Y.2.1.1 Y.2.1.2.1 Y.2.1.2.2.1 T ∧ Sh Z Y.2.1) (x := u.1) (N := 13) (a := a) (D := fun w => False) (E := fun w => False) (F := fun w => True) (fun w => deskF u.1 Y.2.1.1 Y.2.1.2.2.1 w) (fun w => u.1) (by omega) ⟨C, S⟩ (fun w hw f => ⟨C, S⟩) (fun w hw d e => d) (fun w hw f d => d) (fun w hw f e => e)
  exact ⟨K, V, Z, Y.2.1.1, Y.2.1.2.1, Y.2.1.2.2.1, T, law_T_desk C.ok (fun no => ⟨rfl, cq_x (by decide) (k1 (fun w hw => no w (by omega))) cx (Scr.rf _)⟩) (fun k hk e => cq_0 (k0 k (by omega) e trivial) cx (Scr.rf _) rfl), sy_desk C.ok O C.pl C.fo C.hb (fun no τ O' z => rq_x (by decide) (k1 (fun w hw => no w (by omega))) O' z sh he) (fun k hk e τ O' z => rq_0 (k0 k (by omega) e trivial) O' z sh he)⟩
theorem sp_plan (I : LIT ea T u Y) (a b : Int32) : ∃ (K V : Int32) (Z : MS) (P B W T : Nat),
    w_T_X7_plan (fun v τ => cQ K V Z P B W T 0 (τ, Int32.toInt64 v, u.2.2)) (fun E τ => (E = xIA ∧ cQ K V Z P B W T 1 (τ, u.2))) u.1 a b ∧
    w_X11_plan Y.2.1 (fun r τ => rfQ K V Z P B W ea r (Y.1, Y.2.1, τ)) Y.2.2 a b := by
  have C := I.cx
  have O := I.ro
  have S := I.sh
  have he := I.he
  have hP := O.hP
  have hB := O.hB
  have hW := O.hW
  obtain ⟨K, V, Z, ⟨cx, sh⟩, k1, k2, k3, k0⟩ := out_I (G := fun Z => CX Z Y.2.1.1 Y.2.1.2.1 Y.2.1.2.2.1 T ∧ Sh Z Y.2.1) (x := u.1) (N := 366) (a := a) (D := fun w => False) (E := fun w => False) (F := fun w => True) (fun w => if b = 0 then (plF u.1 Y.2.1.1 Y.2.1.2.2.1 a).2.2 else (plF u.1 Y.2.1.1 Y.2.1.2.2.1 a).2.1) (fun w => u.1) (by omega) ⟨C, S⟩ (fun w hw f => ⟨C, S⟩) (fun w hw d e => d) (fun w hw f d => d) (fun w hw f e => e)
  exact ⟨K, V, Z, Y.2.1.1, Y.2.1.2.1, Y.2.1.2.2.1, T, law_T_plan C.ok (fun no => ⟨rfl, cq_x (by decide) (k1 (fun w hw => no w (by omega))) cx (Scr.rf _)⟩) (fun k hk e => cq_0 (k0 k (by omega) e trivial) cx (Scr.pl _ _ _ _ _) rfl), sy_plan C.ok O C.sy S C.gs C.si C.az (fun no τ O' z => rq_x (by decide) (k1 (fun w hw => no w (by omega))) O' z sh he) (fun k hk e τ O' z => rq_0 (k0 k (by omega) e trivial) O' z sh he)⟩
theorem sp_wouldCancel (I : LIT ea T u Y) (a : Int32) : ∃ (K V : Int32) (Z : MS) (P B W T : Nat),
    w_T_X7_wouldCancel (fun v τ => cQ K V Z P B W T 0 (τ, Int32.toInt64 v, u.2.2)) (fun E τ => (E = xIO ∧ cQ K V Z P B W T 1 (τ, u.2)) ∨ (E = xIS ∧ cQ K V Z P B W T 2 (τ, u.2))) u.1 a ∧
    w_X11_wouldCancel Y.2.1 (fun r τ => rfQ K V Z P B W ea r (Y.1, Y.2.1, τ)) Y.2.2 a := by
  have C := I.cx
  have O := I.ro
  have S := I.sh
  have he := I.he
  have hP := O.hP
  have hB := O.hB
  have hW := O.hW
  obtain ⟨K, V, Z, ⟨cx, sh⟩, k1, k2, k3, k0⟩ := out_I (G := fun Z => CX Z Y.2.1.1 Y.2.1.2.1 Y.2.1.2.2.1 T ∧ Sh Z Y.2.1) (x := u.1) (N := Y.2.1.2.2.1) (a := a) (D := fun w => ¬ u.1 (73 + w) 7 = 1) (E := fun w => False) (F := fun w => u.1 (73 + w) 7 = 1) (fun w => wcF u.1 w Y.2.1.1) (fun w => u.1) (by omega) ⟨C, S⟩ (fun w hw f => ⟨C, S⟩) (fun w hw d e => e) (fun w hw f d => d f) (fun w hw f e => e)
  exact ⟨K, V, Z, Y.2.1.1, Y.2.1.2.1, Y.2.1.2.2.1, T, law_T_wouldCancel C.ok (fun no => Or.inl ⟨rfl, cq_x (by decide) (k1 no) cx (Scr.rf _)⟩) (fun w hw e q => Or.inr (⟨rfl, cq_x (by decide) (k2 w hw e q) cx (Scr.rf _)⟩)) (fun w hw e q => cq_0 (k0 w hw e q) cx (Scr.rf _) rfl), sy_wouldCancel O C.sy (fun no τ O' z => rq_x (by decide) (k1 no) O' z sh he) (fun w hw e q τ O' z => rq_x (by decide) (k2 w hw e q) O' z sh he) (fun w hw e q τ O' z => rq_0 (k0 w hw e q) O' z sh he)⟩
theorem sp_key (I : LIT ea T u Y) (a : Int32) : ∃ (K V : Int32) (Z : MS) (P B W T : Nat),
    w_T_X7_key (fun v τ => cQ K V Z P B W T 0 (τ, Int32.toInt64 v, u.2.2)) (fun E τ => (E = xIO ∧ cQ K V Z P B W T 1 (τ, u.2))) u.1 a ∧
    w_X11_key Y.2.1 (fun r τ => rfQ K V Z P B W ea r (Y.1, Y.2.1, τ)) Y.2.2 a := by
  have C := I.cx
  have O := I.ro
  have S := I.sh
  have he := I.he
  have hP := O.hP
  have hB := O.hB
  have hW := O.hW
  obtain ⟨K, V, Z, ⟨cx, sh⟩, k1, k2, k3, k0⟩ := out_I (G := fun Z => CX Z Y.2.1.1 Y.2.1.2.1 Y.2.1.2.2.1 T ∧ Sh Z Y.2.1) (x := u.1) (N := Y.2.1.2.2.1) (a := a) (D := fun w => False) (E := fun w => False) (F := fun w => True) (fun w => if snF u.1 w Y.2.1.1 Y.2.1.2.2.1 9 3 = 0 then -1 else keyF (snF u.1 w Y.2.1.1 Y.2.1.2.2.1 9 4) Y.2.1.1 0) (fun w => u.1) (by omega) ⟨C, S⟩ (fun w hw f => ⟨C, S⟩) (fun w hw d e => d) (fun w hw f d => d) (fun w hw f e => e)
  exact ⟨K, V, Z, Y.2.1.1, Y.2.1.2.1, Y.2.1.2.2.1, T, law_T_key C.ok (fun no => ⟨rfl, cq_x (by decide) (k1 no) cx (Scr.rf _)⟩) (fun w hw e => cq_0 (k0 w hw e trivial) cx (Scr.sn _ _ _ _) rfl), sy_key O C.sy S C.gs (fun no τ O' z => rq_x (by decide) (k1 no) O' z sh he) (fun w hw e τ O' z => rq_0 (k0 w hw e trivial) O' z sh he)⟩
theorem out_P (C : CX u.1 Y.2.1.1 Y.2.1.2.1 Y.2.1.2.2.1 T) (S : Sh u.1 Y.2.1) : ∃ (K V : Int32) (Z : MS), (∃ T', CX Z Y.2.1.1 Y.2.1.2.1 Y.2.1.2.2.1 T' ∧ Sh Z Y.2.1) ∧ ((∀ d, 1 ≤ d → d ≤ 60 → a ≠ nI d) → K = 1 ∧ Z = u.1) ∧ (∀ d, 1 ≤ d → d ≤ 60 → a = nI d → 365 < T + d → K = 2 ∧ Z = u.1) ∧ ∀ d, 1 ≤ d → d ≤ 60 → a = nI d → T + d ≤ 365 → K = 0 ∧ V = nI (T + d) ∧ Z = psS u.1 Y.2.1.1 Y.2.1.2.2.1 d := by
  by_cases h : ∃ d, 1 ≤ d ∧ d ≤ 60 ∧ a = nI d
  · obtain ⟨d, h1, h2, e⟩ := h
    have same : ∀ v, v ≤ 60 → a = nI v → v = d := fun v hv ev => (nI_eq (by omega) (by omega)).mp (ev.symm.trans e)
    by_cases q : T + d ≤ 365
    · exact ⟨0, nI (T + d), psS u.1 Y.2.1.1 Y.2.1.2.2.1 d, ⟨T + d, C.pass q, S.sb (Sb.pq (pq_psS C.ok.hP C.ok.hW d)) C.ok.hB⟩, fun z => absurd e (z d h1 h2), fun v g1 g2 ev z => by rw [same v g2 ev] at z; omega, fun v g1 g2 ev _ => by rw [same v g2 ev]; exact ⟨rfl, rfl, rfl⟩⟩
    · exact ⟨2, 0, u.1, ⟨T, C, S⟩, fun z => absurd e (z d h1 h2), fun _ _ _ _ _ => ⟨rfl, rfl⟩, fun v g1 g2 ev z => by rw [same v g2 ev] at z; exact absurd z q⟩
  · exact ⟨1, 0, u.1, ⟨T, C, S⟩, fun _ => ⟨rfl, rfl⟩, fun v g1 g2 ev _ => absurd ⟨v, g1, g2, ev⟩ h, fun v g1 g2 ev _ => absurd ⟨v, g1, g2, ev⟩ h⟩
theorem sp_pass (I : LIT ea T u Y) (a : Int32) : ∃ (K V : Int32) (Z : MS) (P B W T : Nat),
    w_T_X7_pass (fun v τ => cQ K V Z P B W T 0 (τ, Int32.toInt64 v, u.2.2)) (fun E τ => (E = xIA ∧ cQ K V Z P B W T 1 (τ, u.2)) ∨ (E = xIS ∧ cQ K V Z P B W T 2 (τ, u.2))) u.1 a ∧
    w_X11_pass Y.2.1 (fun r τ => rfQ K V Z P B W ea r (Y.1, Y.2.1, τ)) Y.2.2 a := by
  have C := I.cx
  have O := I.ro
  have S := I.sh
  have he := I.he
  have hP := O.hP
  have hB := O.hB
  have hW := O.hW
  obtain ⟨K, V, Z, ⟨T2, cx, sh⟩, k1, k2, k0⟩ := out_P (u := u) (Y := Y) (T := T) (a := a) C S
  exact ⟨K, V, Z, Y.2.1.1, Y.2.1.2.1, Y.2.1.2.2.1, T2, law_T_pass C.ok (fun no => Or.inl ⟨rfl, cq_x (by decide) (k1 no) cx (Scr.rf _)⟩) (fun d h1 h2 e q => Or.inr (⟨rfl, cq_x (by decide) (k2 d h1 h2 e q) cx (Scr.rf _)⟩)) (fun d h1 h2 e q => cq_0 (k0 d h1 h2 e q) cx (Scr.rf _) rfl), sy_pass C.ok O C.sy C.env C.2.2.2 (fun no τ O' z => rq_x (by decide) (k1 no) O' z sh he) (fun d h1 h2 e q τ O' z => rq_x (by decide) (k2 d h1 h2 e q) O' z sh he) (fun d h1 h2 e q τ O' z => rq_0 (k0 d h1 h2 e q) O' z sh he)⟩
theorem pl_c {c : Int32} : (c < 0 ∨ 5 < c) ↔ ¬ (0 ≤ c ∧ c < 6) := by
  rw [Int32.lt_iff_toInt_lt, Int32.lt_iff_toInt_lt, Int32.lt_iff_toInt_lt, Int32.le_iff_toInt_le]
  have e0 : (0 : Int32).toInt = 0 := by decide
  have e5 : (5 : Int32).toInt = 5 := by decide
  have e6 : (6 : Int32).toInt = 6 := by decide
  omega
theorem pl_o {a b d : Int32} : ((a < 1 ∨ 63 < a) ∨ (b < 0 ∨ 65535 < b) ∨ (d < 1 ∨ 99 < d)) ↔ ¬ plOk a b d := by
  unfold plOk
  simp only [Int32.lt_iff_toInt_lt, Int32.le_iff_toInt_le]
  have e0 : (0 : Int32).toInt = 0 := by decide
  have e1 : (1 : Int32).toInt = 1 := by decide
  have e2 : (63 : Int32).toInt = 63 := by decide
  have e3 : (64 : Int32).toInt = 64 := by decide
  have e4 : (65535 : Int32).toInt = 65535 := by decide
  have e5 : (65536 : Int32).toInt = 65536 := by decide
  have e6 : (99 : Int32).toInt = 99 := by decide
  omega
/-- a call refused, whichever case -/
theorem out_R {G : MS → Prop} {x : MS} {c1 c2 c3 : Prop} (hx : G x) (n12 : c1 → ¬ c2) (n13 : c1 → ¬ c3) (n23 : c2 → ¬ c3) : ∃ (K : Int32) (Z : MS), G Z ∧ (c1 → K = 1 ∧ Z = x) ∧ (c2 → K = 2 ∧ Z = x) ∧ (c3 → K = 3 ∧ Z = x) := by
  by_cases h1 : c1
  · exact ⟨1, x, hx, fun _ => ⟨rfl, rfl⟩, fun z => absurd z (n12 h1), fun z => absurd z (n13 h1)⟩
  · by_cases h2 : c2
    · exact ⟨2, x, hx, fun z => absurd z h1, fun _ => ⟨rfl, rfl⟩, fun z => absurd z (n23 h2)⟩
    · exact ⟨3, x, hx, fun z => absurd z h1, fun z => absurd z h2, fun _ => ⟨rfl, rfl⟩⟩
theorem sp_player (I : LIT ea T u Y) (a b c d : Int32) : ∃ (K V : Int32) (Z : MS) (P B W T : Nat),
    w_T_X7_player (fun v τ => cQ K V Z P B W T 0 (τ, Int32.toInt64 v, u.2.2)) (fun E τ => (E = xIO ∧ cQ K V Z P B W T 1 (τ, u.2)) ∨ (E = xIA ∧ cQ K V Z P B W T 2 (τ, u.2)) ∨ (E = xIS ∧ cQ K V Z P B W T 3 (τ, u.2))) u.1 a b c d ∧
    w_X11_player Y.1 Y.2.1 (fun r Y' => rfQ K V Z P B W ea r Y' ∧ Y'.2.1.2.1 = Y.2.1.2.1 ∧ Y'.2.1.2.2.2 = Y.2.1.2.2.2) Y.2.2 a b c d := by
  have C := I.cx
  have O := I.ro
  have S := I.sh
  have he := I.he
  have hP := O.hP
  have hB := O.hB
  have f4 : ∀ p, Y.2.1.1 ≤ p → p < 10 → u.1 (29 + p) 4 = 0 ∧ u.1 (29 + p) 5 = 0 := fun p h1 h2 => ⟨(C.fp p h1 h2).1, (C.fp p h1 h2).2.1⟩
  have m1 : ¬ (c < 0 ∨ 5 < c) → 0 ≤ c ∧ c < 6 := fun z => Decidable.byContradiction (fun q => z (pl_c.mpr q))
  have m2 : ¬ ((a < 1 ∨ 63 < a) ∨ (b < 0 ∨ 65535 < b) ∨ (d < 1 ∨ 99 < d)) → plOk a b d := fun z => Classical.byContradiction (fun q => z (pl_o.mpr q))
  by_cases s : (0 ≤ c ∧ c < 6) ∧ plOk a b d ∧ Y.2.1.1 < 10
  · have cx := C.player s.1 s.2.1 s.2.2
    have sh' : Sh (telP u.1 Y.2.1.1 a b c d) Y.2.1 := S.sb (((((Sb.up (by unfold sbC; omega)).tr (Sb.up (by unfold sbC; omega))).tr (Sb.up (by unfold sbC; omega))).tr (Sb.up (by unfold sbC; omega))).tr (Sb.up (by unfold sbC; omega))) hB
    have sh : Sh (telP u.1 Y.2.1.1 a b c d) (Y.2.1.1 + 1, Y.2.1.2) := fun b hb => sh' b hb
    exact ⟨0, nI Y.2.1.1, telP u.1 Y.2.1.1 a b c d, Y.2.1.1 + 1, Y.2.1.2.1, Y.2.1.2.2.1, T, law_T_player C.ok (fun no => absurd s.1 no) (fun _ no => absurd s.2.1 no) (fun _ _ e => absurd s.2.2 (by omega)) (fun _ _ _ => cq_0 ⟨rfl, rfl, rfl⟩ cx (Scr.rf _) rfl), sy_player O f4 C.fo (fun m => absurd s.1 (pl_c.mp m)) (fun _ m => absurd s.2.1 (pl_o.mp m)) (fun _ _ e => absurd s.2.2 (by omega)) (fun _ _ _ lay' τ O' z => ⟨rq_0 ⟨rfl, rfl, rfl⟩ O' z sh he, rfl, rfl⟩)⟩
  · obtain ⟨K, Z, ⟨cx, sh⟩, k1, k2, k3⟩ := out_R (G := fun Z => CX Z Y.2.1.1 Y.2.1.2.1 Y.2.1.2.2.1 T ∧ Sh Z Y.2.1) (x := u.1) (c1 := ¬ (0 ≤ c ∧ c < 6)) (c2 := (0 ≤ c ∧ c < 6) ∧ ¬ plOk a b d) (c3 := (0 ≤ c ∧ c < 6) ∧ plOk a b d) ⟨C, S⟩ (fun h1 h2 => h1 h2.1) (fun h1 h2 => h1 h2.1) (fun h1 h2 => h1.2 h2.2)
    exact ⟨K, 0, Z, Y.2.1.1, Y.2.1.2.1, Y.2.1.2.2.1, T, law_T_player C.ok (fun no => Or.inl ⟨rfl, cq_x (by decide) (k1 no) cx (Scr.rf _)⟩) (fun h no => Or.inr (Or.inl ⟨rfl, cq_x (by decide) (k2 ⟨h, no⟩) cx (Scr.rf _)⟩)) (fun h ok _ => Or.inr (Or.inr ⟨rfl, cq_x (by decide) (k3 ⟨h, ok⟩) cx (Scr.rf _)⟩)) (fun h1 h2 h3 => absurd ⟨h1, h2, h3⟩ s), sy_player O f4 C.fo (fun m τ O' z => ⟨rq_x (by decide) (k1 (pl_c.mp m)) O' z sh he, rfl, rfl⟩) (fun n1 m τ O' z => ⟨rq_x (by decide) (k2 ⟨m1 n1, pl_o.mp m⟩) O' z sh he, rfl, rfl⟩) (fun n1 n2 _ τ O' z => ⟨rq_x (by decide) (k3 ⟨m1 n1, m2 n2⟩) O' z sh he, rfl, rfl⟩) (fun n1 n2 n3 => absurd ⟨m1 n1, m2 n2, n3⟩ s)⟩
theorem sp_ask (I : LIT ea T u Y) (a b c d e f : Int32) : ∃ (K V : Int32) (Z : MS) (P B W T : Nat),
    w_T_X7_ask (fun v τ => cQ K V Z P B W T 0 (τ, Int32.toInt64 v, u.2.2)) (fun E τ => (E = xIO ∧ cQ K V Z P B W T 1 (τ, u.2)) ∨ (E = xIA ∧ cQ K V Z P B W T 2 (τ, u.2)) ∨ (E = xIS ∧ cQ K V Z P B W T 3 (τ, u.2))) u.1 a b c d e f ∧
    w_X11_ask Y.1 Y.2.1 (fun r Y' => rfQ K V Z P B W ea r Y' ∧ Y'.2.1.2.1 = Y.2.1.2.1 ∧ Y'.2.1.2.2.2 = Y.2.1.2.2.2) Y.2.2 a b c d e f := by
  have C := I.cx
  have O := I.ro
  have S := I.sh
  have he := I.he
  have hB := O.hB
  have hW := O.hW
  by_cases s : (∃ k, k < Y.2.1.2.1 ∧ a = nI k) ∧ (∃ t, t < 6 ∧ c = nI t) ∧ askOk u.1 b d e f ∧ Y.2.1.2.2.1 < 14 ∧ taken u.1 a b Y.2.1.2.2.1 = false
  · obtain ⟨g1, g2, g3, g4, g5⟩ := s
    have cx := C.ask g1 g2 g3 g4 g5 (l := e)
    have n1 : ¬ ((∀ k, k < Y.2.1.2.1 → a ≠ nI k) ∨ (∀ t, t < 6 → c ≠ nI t)) := by
      obtain ⟨k, hk, e1⟩ := g1
      obtain ⟨t, ht, e2⟩ := g2
      exact fun z => z.elim (fun z => z k hk e1) (fun z => z t ht e2)
    have n3 : ¬ (Y.2.1.2.2.1 = 14 ∨ taken u.1 a b Y.2.1.2.2.1 = true) := fun z => z.elim (fun z => by omega) (fun z => by rw [g5] at z; exact Bool.false_ne_true z)
    have sh' : Sh (askS u.1 Y.2.1.2.2.1 a b c d e f) Y.2.1 := fun i hi => by
      obtain ⟨m, sz, q1, q2, q3, q4, q5, q6, q7, q8⟩ := S i hi
      have ne : ∀ k j, 55 ≤ k → k < 73 → askS u.1 Y.2.1.2.2.1 a b c d e f k j = u.1 k j := fun k j h1 h2 => by
        unfold askS
        rw [up2_off (by omega), up2_off (by omega), up2_off (by omega), up2_off (by omega), up2_off (by omega), up2_off (by omega), up2_off (by omega), up2_off (by omega)]
      refine ⟨m, sz, q1, q2, q3, q4, q5, (ne _ _ (by omega) (by omega)).trans q6, ?_, fun k hk => (ne _ _ (by omega) (by omega)).trans (q8 k hk)⟩
      rw [← q7]
      exact plcs_cg (fun j _ => by unfold pl; rw [ne _ _ (by omega) (by omega)])
    have sh : Sh (askS u.1 Y.2.1.2.2.1 a b c d e f) (Y.2.1.1, Y.2.1.2.1, Y.2.1.2.2.1 + 1, Y.2.1.2.2.2) := fun b hb => sh' b hb
    exact ⟨0, nI Y.2.1.2.2.1, askS u.1 Y.2.1.2.2.1 a b c d e f, Y.2.1.1, Y.2.1.2.1, Y.2.1.2.2.1 + 1, T, law_T_ask C.ok (fun no => absurd no n1) (fun _ _ no => absurd g3 no) (fun _ _ _ z => absurd z n3) (fun _ _ _ _ _ => cq_0 ⟨rfl, rfl, rfl⟩ cx (Scr.rf _) rfl), sy_ask C.ok O C.fresh (fun no => absurd no n1) (fun _ _ no => absurd g3 no) (fun _ _ _ z => absurd z n3) (fun _ _ _ _ _ lay' τ O' z => ⟨rq_0 ⟨rfl, rfl, rfl⟩ O' z sh he, rfl, rfl⟩)⟩
  · obtain ⟨K, Z, ⟨cx, sh⟩, k1, k2, k3⟩ := out_R (G := fun Z => CX Z Y.2.1.1 Y.2.1.2.1 Y.2.1.2.2.1 T ∧ Sh Z Y.2.1) (x := u.1) (c1 := (∀ k, k < Y.2.1.2.1 → a ≠ nI k) ∨ (∀ t, t < 6 → c ≠ nI t)) (c2 := ((∃ k, k < Y.2.1.2.1 ∧ a = nI k) ∧ (∃ t, t < 6 ∧ c = nI t)) ∧ ¬ askOk u.1 b d e f) (c3 := ((∃ k, k < Y.2.1.2.1 ∧ a = nI k) ∧ (∃ t, t < 6 ∧ c = nI t)) ∧ askOk u.1 b d e f) ⟨C, S⟩ (fun h1 h2 => by
      obtain ⟨⟨⟨k, hk, e1⟩, ⟨t, ht, e2⟩⟩, _⟩ := h2
      exact h1.elim (fun z => z k hk e1) (fun z => z t ht e2)) (fun h1 h2 => by
      obtain ⟨⟨⟨k, hk, e1⟩, ⟨t, ht, e2⟩⟩, _⟩ := h2
      exact h1.elim (fun z => z k hk e1) (fun z => z t ht e2)) (fun h1 h2 => h1.2 h2.2)
    exact ⟨K, 0, Z, Y.2.1.1, Y.2.1.2.1, Y.2.1.2.2.1, T, law_T_ask C.ok (fun no => Or.inl ⟨rfl, cq_x (by decide) (k1 no) cx (Scr.rf _)⟩) (fun h1 h2 no => Or.inr (Or.inl ⟨rfl, cq_x (by decide) (k2 ⟨⟨h1, h2⟩, no⟩) cx (Scr.rf _)⟩)) (fun h1 h2 ok _ => Or.inr (Or.inr ⟨rfl, cq_x (by decide) (k3 ⟨⟨h1, h2⟩, ok⟩) cx (Scr.rf _)⟩)) (fun h1 h2 h3 h4 h5 => absurd ⟨h1, h2, h3, h4, h5⟩ s), sy_ask C.ok O C.fresh (fun no τ O' z => ⟨rq_x (by decide) (k1 no) O' z sh he, rfl, rfl⟩) (fun h1 h2 no τ O' z => ⟨rq_x (by decide) (k2 ⟨⟨h1, h2⟩, no⟩) O' z sh he, rfl, rfl⟩) (fun h1 h2 ok _ τ O' z => ⟨rq_x (by decide) (k3 ⟨⟨h1, h2⟩, ok⟩) O' z sh he, rfl, rfl⟩) (fun h1 h2 h3 h4 h5 => absurd ⟨h1, h2, h3, h4, h5⟩ s)⟩
theorem sp_band (I : LIT ea T u Y) (a : Int32) : ∃ (K V : Int32) (Z : MS) (P B W T : Nat),
    w_T_X7_band (fun v τ => cQ K V Z P B W T 0 (τ, Int32.toInt64 v, u.2.2)) (fun E τ => (E = xIA ∧ cQ K V Z P B W T 1 (τ, u.2)) ∨ (E = xIS ∧ cQ K V Z P B W T 2 (τ, u.2))) u.1 a ∧
    w_X11_band Y.1 Y.2.1 (fun r Y' => rfQ K V Z P B W ea r Y' ∧ Y'.2.1.2.2.2.1 = Y.2.1.2.2.2.1) Y.2.2 a := by
  have C := I.cx
  have O := I.ro
  have S := I.sh
  have he := I.he
  have hB := O.hB
  have rn : ∀ m, 1 ≤ m → m ≤ 728 → a = nI m → ¬ rIsF a 1 728 = 0 := fun m h1 h2 e z => rIs_nor (lo := 1) (hi := 728) (by decide) z m h1 h2 e
  by_cases s : ∃ m, 1 ≤ m ∧ m ≤ 728 ∧ a = nI m ∧ rNeeds a 6 ≤ 5 ∧ Y.2.1.2.1 < 6
  · obtain ⟨m, h1, h2, rfl, h5, h6⟩ := s
    have cx := C.band h6 h1 h2
    have same : ∀ {q}, q ≤ 728 → nI m = nI q → q = m := fun hq e => ((nI_eq (by omega) (by omega)).mp e).symm
    refine ⟨0, nI Y.2.1.2.1, bandS u.1 Y.2.1.2.1 m, Y.2.1.1, Y.2.1.2.1 + 1, Y.2.1.2.2.1, T, law_T_band C.ok (fun no => absurd h5 ?_) (fun q g1 g2 e _ z => absurd h6 (by omega)) (fun q g1 g2 e _ _ => ?_), sy_band O (fun no => absurd no ?_) (fun _ _ z => absurd h6 (show ¬ Y.2.1.2.1 < 6 by omega)) (fun q g1 g2 e _ _ lay' y τ O' z => ?_)⟩
    · have := no m h1 h2 rfl
      rw [sz_need] at this
      exact this
    · obtain rfl := same g2 e
      exact cq_0 ⟨rfl, rfl, rfl⟩ cx (Scr.rf _) rfl
    · exact fun z => z.elim (rn m h1 h2 rfl) (fun z => z h5)
    · obtain rfl := same g2 e
      exact ⟨rq_0 ⟨rfl, rfl, rfl⟩ O' z (S.band h6 h1 h2 h5 (C.fb _ (Nat.le_refl _) h6)) he, rfl⟩
  · obtain ⟨K, Z, ⟨cx, sh⟩, k1, k2, _⟩ := out_R (G := fun Z => CX Z Y.2.1.1 Y.2.1.2.1 Y.2.1.2.2.1 T ∧ Sh Z Y.2.1) (x := u.1) (c1 := rIsF a 1 728 = 0 ∨ ¬ rNeeds a 6 ≤ 5) (c2 := ¬ rIsF a 1 728 = 0 ∧ rNeeds a 6 ≤ 5) (c3 := False) ⟨C, S⟩ (fun h1 h2 => h1.elim h2.1 (fun z => z h2.2)) (fun _ h => h) (fun _ h => h)
    exact ⟨K, 0, Z, Y.2.1.1, Y.2.1.2.1, Y.2.1.2.2.1, T, law_T_band C.ok (fun hno => Or.inl ⟨rfl, cq_x (by decide) (k1 (by
      by_cases r : rIsF a 1 728 = 0
      · exact Or.inl r
      · obtain ⟨m, m1, m2, em⟩ := rIs_rg (lo := 1) (hi := 728) (by decide) r (by decide)
        right
        have := hno m m1 m2 em
        rw [sz_need] at this
        rw [em]
        exact this)) cx (Scr.rf _)⟩) (fun m m1 m2 em ok _ => Or.inr ⟨rfl, cq_x (by decide) (k2 ⟨rn m m1 m2 em, by rw [sz_need] at ok; rw [em]; exact ok⟩) cx (Scr.rf _)⟩) (fun m m1 m2 em ok hB6 => absurd ⟨m, m1, m2, em, by rw [sz_need] at ok; rw [em]; exact ok, hB6⟩ s), sy_band O (fun no τ O' z => ⟨rq_x (by decide) (k1 no) O' z sh he, rfl⟩) (fun n1 n2 _ τ O' z => ⟨rq_x (by decide) (k2 ⟨n1, n2⟩) O' z sh he, rfl⟩) (fun m m1 m2 em n2 hB6 => absurd ⟨m, m1, m2, em, n2, hB6⟩ s)⟩
theorem sp_songs (I : LIT ea T u Y) (a : Int32) : w_T_X7_songs (fun τ => ∀ _ : Nat, Scr u.1 τ) (fun E τ => E = xIO ∧ Scr u.1 τ) u.1 a := law_T_songs I.ok (fun _ => ⟨rfl, Scr.rf u.1⟩) (fun w _ _ _ => Scr.set u.1 (u.1 (73 + w) 8) Y.2.1.1)
theorem sp_tell (I : LIT ea T u Y) (a : Int32) : w_T_X7_tell (fun τ => ∀ _ : Nat, Scr u.1 τ) (fun E τ => E = xIO ∧ Scr u.1 τ) u.1 a := law_T_tell I.ok (fun _ => ⟨rfl, Scr.rf u.1⟩) (fun _ _ _ _ => Scr.rf u.1)
theorem sp_isSound (I : LIT ea T u Y) : ∃ V : Int32, w_X7_isSound (fun v τ => v = V ∧ Scr u.1 τ) u.1 ∧ w_X11_isSound Y.2.1 (fun r τ => r = V ∧ rOk (tR u.1) Y.2.1 τ) Y.2.2 :=
  ⟨b01 (sndB u.1 Y.2.1.1 Y.2.1.2.2.1), law_isSound I.ok ⟨rfl, Scr.rf _⟩, sy_isSound I.ok I.ro I.sh I.1.pl I.1.fo I.1.hb I.1.d4 (fun τ O' _ => ⟨rfl, O'⟩)⟩
theorem sp_digest (I : LIT ea T u Y) : ∃ V : Int64, w_N_X7_digest (fun v τ => v = V ∧ Scr u.1 τ) u.1 ∧ w_X11_digest Y.2.1 (fun r τ => r = V ∧ rOk (tR u.1) Y.2.1 τ) Y.2.2 :=
  ⟨digF u.1 Y.2.1.1 Y.2.1.2.1 Y.2.1.2.2.1, law_N_digest I.ok I.pok (fun τ s => ⟨rfl, s⟩), sy_digest I.ok I.ro I.1.sy I.1.env I.sh I.1.gs I.1.pl I.1.fo I.1.hb I.1.d4 (fun τ O' _ => ⟨rfl, O'⟩)⟩
end SPEC
theorem i_L_law_X8 : ∀ w ∈ wsX80, w ∈ wsL_law ++ lkL := fun w h => List.mem_append_left _ (by unfold wsL_law wsL_law0; simp only [List.mem_append, h, true_or, or_true])
section PLQ
variable {p : Program} {l : Launch} {e : Env} {R : Room} {s : State} {m : MethodId} {args : Array Value} {below : List Frame} {meth : Method} {c : Code} {H : Heap} {locs : List Loc} {cells slots : Nat} {Q : State → Prop}
variable {cc : ByteArray} {pc nL index : Nat} {ls : Array Slot} {rest : List Value} {D : va_G} {cy : Nat → ClassId} {lay : Nat → Nat} {o : Nat} {u : OU} {Y : RY} {Ts : List Cond} {own host : String}
theorem lw_getn (hC : CallFix p m c cc nL s args Ts own) (hK : va_K D vwCl (fdT cy) s) (G : lwG D cy lay o u Y s H locs) (hin : ∀ w ∈ wsX80, w ∈ Ts) (hl : (Cond.fieldLinkNest own index "FirstdanceAgencyLaw$Out" "n" "J" host).before args s = true) (hdg : decode cc pc = .ok (.getfield index, 3))
    (kk : W p l e R s m args below meth c H locs cells slots Q (F0 m (pc + 3) ls (.long u.2.1 :: rest))) : W p l e R s m args below meth c H locs cells slots Q (F0 m pc ls (.ref o :: rest)) :=
  va_getN hC.1 hC.2.1 hC.2.2.2.2 hin hC.2.2.2.1 hK G.1.1 87 wo_87 k_X8.1 0 (by decide) hl (fun _ h => h) rfl hdg kk
end PLQ
theorem hdV_X11_player : yX11_player.cls = RX11 ∧ yX11_player.cls ≠ "java/lang/invoke/MethodHandle" ∧ yX11_player.cls ≠ "java/lang/invoke/VarHandle" ∧ (parseMethodDescriptor yX11_player.desc).map (fun d => d.parameters.length) = some 4 := by decide +kernel
theorem hdV_X11_band : yX11_band.cls = RX11 ∧ yX11_band.cls ≠ "java/lang/invoke/MethodHandle" ∧ yX11_band.cls ≠ "java/lang/invoke/VarHandle" ∧ (parseMethodDescriptor yX11_band.desc).map (fun d => d.parameters.length) = some 1 := by decide +kernel
theorem hdV_X11_ask : yX11_ask.cls = RX11 ∧ yX11_ask.cls ≠ "java/lang/invoke/MethodHandle" ∧ yX11_ask.cls ≠ "java/lang/invoke/VarHandle" ∧ (parseMethodDescriptor yX11_ask.desc).map (fun d => d.parameters.length) = some 6 := by decide +kernel
theorem hdV_X11_songs : yX11_songs.cls = RX11 ∧ yX11_songs.cls ≠ "java/lang/invoke/MethodHandle" ∧ yX11_songs.cls ≠ "java/lang/invoke/VarHandle" ∧ (parseMethodDescriptor yX11_songs.desc).map (fun d => d.parameters.length) = some 1 := by decide +kernel
theorem hdV_X11_tell : yX11_tell.cls = RX11 ∧ yX11_tell.cls ≠ "java/lang/invoke/MethodHandle" ∧ yX11_tell.cls ≠ "java/lang/invoke/VarHandle" ∧ (parseMethodDescriptor yX11_tell.desc).map (fun d => d.parameters.length) = some 1 := by decide +kernel
