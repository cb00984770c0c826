/-! THE CLASS IS SAFE: whatever the call, it ends, throws what its caller catches, and keeps what holds of every state; what was told stays but where a call tells it -/
/-- where what is told lies: roads and ways, what players know, feuds, songs -/
def tdC (k j : Nat) : Prop := (17 ≤ k ∧ k < 29) ∨ (29 ≤ k ∧ k < 39 ∧ (j = 1 ∨ j = 4)) ∨ (39 ≤ k ∧ k < 55 ∧ j ≤ 2)
def Tk (σ τ : MS) : Prop := ∀ k j, tdC k j → τ k j = σ k j
theorem Tk.rf (σ : MS) : Tk σ σ := fun _ _ _ => rfl
theorem Tk.tr {a b c : MS} (h : Tk a b) (g : Tk b c) : Tk a c := fun k j hk => (g k j hk).trans (h k j hk)
theorem Tk.up {σ : MS} {k j : Nat} {v : Int32} (h : ¬ tdC k j) : Tk σ (up2 σ k j v) := fun k' j' hk => up2_at (by
  by_cases e : k' = k
  · by_cases e2 : j' = j
    · subst e; subst e2; exact absurd hk h
    · exact Or.inr e2
  · exact Or.inl e)
theorem Tk.scr {σ τ : MS} (h : Scr σ τ) : Tk σ τ := fun k j hk => by rw [h k (by unfold tdC at hk; omega)]
theorem Tk.paid (σ : MS) (w : Nat) (a : Int32) : Tk σ (paidF σ w a) := (Tk.up (by unfold tdC; omega)).tr (Tk.up (by unfold tdC; omega))
theorem Tk.lose (σ : MS) (a n : Nat) : Tk σ (loseQ σ a n) := fun k j hk => if_neg (by unfold tdC at hk; omega)
theorem Tk.wait (σ : MS) (n : Nat) : Tk σ (waitL σ n) := fun k j hk => if_neg (by unfold tdC at hk; omega)
theorem Tk.py (x : MS) (w : Nat) : ∀ n, Tk x (pyS x w n)
  | 0 => Tk.rf x
  | n + 1 => by
    have ih := Tk.py x w n
    unfold pyS
    split
    · exact ih.tr ((((Tk.up (by unfold tdC; omega)).tr (Tk.up (by unfold tdC; omega))).tr (Tk.up (by unfold tdC; omega))).tr (Tk.up (by unfold tdC; omega)))
    · exact ih
theorem Tk.ply (y : MS) : ∀ n, Tk y (plyS y n)
  | 0 => Tk.rf y
  | n + 1 => (Tk.ply y n).tr (Tk.up (by unfold tdC; omega))
theorem Tk.out (σ : MS) (w P : Nat) : Tk σ (outS σ w P) := ((((Tk.paid σ w _).tr (Tk.py _ w P)).tr (Tk.scr (Scr.set _ _ _))).tr (Tk.ply _ _)).tr (Tk.up (by unfold tdC; omega))
theorem tk_edA (σ : MS) (P : Nat) : ∀ n, Tk σ (edA σ P n)
  | 0 => Tk.rf σ
  | n + 1 => by
    have ih := tk_edA σ P n
    unfold edA
    split
    · exact ih.tr (Tk.out _ _ _)
    · exact ih
theorem tk_edB (σ : MS) : ∀ n, Tk σ (edB σ n)
  | 0 => Tk.rf σ
  | n + 1 => by
    have ih := tk_edB σ n
    unfold edB
    split
    · exact ih.tr (Tk.up (by unfold tdC; omega))
    · exact ih
theorem tk_dayS (σ : MS) (P W : Nat) : Tk σ (dayS σ P W) := (((tk_edA σ P W).tr (tk_edB _ W)).tr (Tk.up (by unfold tdC; omega))).tr (Tk.wait _ W)
theorem tk_psS (σ : MS) (P W : Nat) : ∀ n, Tk σ (psS σ P W n)
  | 0 => Tk.rf σ
  | n + 1 => (tk_psS σ P W n).tr (tk_dayS _ P W)
theorem Tk.fix (σ : MS) (w P W : Nat) : Tk σ (fixS σ w P W) := by
  unfold fixS
  (try dsimp only)
  exact (((((Tk.scr (Scr.sn σ w P W)).tr (Tk.lose _ w W)).tr (Tk.up (by unfold tdC; omega))).tr (Tk.up (by unfold tdC; omega))).tr (Tk.up (by unfold tdC; omega))).tr (Tk.paid _ _ _)
theorem Tk.can (σ : MS) (w : Nat) : Tk σ (canS σ w) := by
  unfold canS
  split
  · exact (Tk.paid _ _ _).tr (Tk.up (by unfold tdC; omega))
  · exact Tk.up (by unfold tdC; omega)
theorem Tk.put (σ : MS) (w : Nat) (s : Int32) : Tk σ (putF σ w s) := by
  unfold putF
  split
  · exact (Tk.up (by unfold tdC; omega)).tr (Tk.paid _ _ _)
  · exact Tk.up (by unfold tdC; omega)
theorem Tk.ill (σ : MS) (p : Nat) (day : Int32) : ∀ n, Tk σ (illS σ p day n)
  | 0 => Tk.rf σ
  | n + 1 => by
    have ih := Tk.ill σ p day n
    unfold illS
    split
    · exact ih.tr (Tk.put _ _ _)
    · exact ih
theorem Tk.off (σ : MS) (P W p d : Nat) : Tk σ (offS σ P W p d) := (Tk.scr (Scr.sw σ P W p (nI d) W)).tr (Tk.up (by unfold tdC; omega))
/-- feuds are of both; those to come have none -/
def Fe (σ : MS) (P : Nat) : Prop := (∀ p q, p < 10 → q < 10 → bt (σ (29 + p) 4) q = bt (σ (29 + q) 4) p) ∧ (∀ p, P ≤ p → p < 10 → σ (29 + p) 4 = 0) ∧ ∀ s, s < 16 → ∃ e, e < 10 ∧ σ (39 + s) 1 = nI e
/-- what holds of every state of an agency with P players, B bands, today T -/
def CI (σ : MS) (P B T : Nat) : Prop := ∃ W, Ok σ P B W T ∧ Pk σ P ∧ Fe σ P
section CSAFE
variable {σ τ : MS} {P B T : Nat} {a b c d e f : Int32} {post : Int32 → MS → Prop} {pex : String → MS → Prop}
theorem Fe.tk (h : Fe σ P) (hk : Tk σ τ) : Fe τ P := ⟨fun p q hp hq => by rw [hk (29 + p) 4 (by unfold tdC; omega), hk (29 + q) 4 (by unfold tdC; omega)]; exact h.1 p q hp hq, fun p h1 h2 => by rw [hk (29 + p) 4 (by unfold tdC; omega)]; exact h.2.1 p h1 h2, fun s hs => by rw [hk (39 + s) 1 (by unfold tdC; omega)]; exact h.2.2 s hs⟩
theorem CI.of {W : Nat} (O : Ok σ P B W T) (K : Pk σ P) (F : Fe σ P) : CI σ P B T := ⟨W, O, K, F⟩
theorem CI.hP (C : CI σ P B T) : P ≤ 10 := by obtain ⟨W, O, -⟩ := C; exact O.hP
theorem CI.hB (C : CI σ P B T) : B ≤ 6 := by obtain ⟨W, O, -⟩ := C; exact O.hB
theorem CI.hT (C : CI σ P B T) : T ≤ 365 := by obtain ⟨W, O, -⟩ := C; exact O.hT
theorem CI.fe (C : CI σ P B T) : Fe σ P := by obtain ⟨W, O, K, F⟩ := C; exact F
theorem CI.scr (C : CI σ P B T) (h : Scr σ τ) : CI τ P B T := by obtain ⟨W, O, K, F⟩ := C; exact ⟨W, O.scr h, K.scr h, F.tk (Tk.scr h)⟩
/-- learn -/
theorem cs_learn (C : CI σ P B T) (hO : (∀ p, p < P → a ≠ nI p) → pex xIO σ) (hA : ∀ p, p < P → a = nI p → ¬ (0 ≤ b ∧ b < 65536) → pex xIA σ)
    (h : ∀ p, p < P → a = nI p → 0 ≤ b ∧ b < 65536 → ∀ τ, τ = up2 σ (29 + p) 1 (σ (29 + p) 1 ||| b) → CI τ P B T → post (bcI (σ (29 + p) 1 ||| b)) τ) : w_T_X7_learn post pex σ a b := by
  obtain ⟨W, O, K, F⟩ := C
  refine law_T_learn O hO hA (fun p hp e ok => h p hp e ok _ rfl (.of (O.up (by have := O.hP; unfold okPl; omega)) (K.kw (Kw.up (Or.inl (by have := O.hP; omega)))) ⟨fun p q hp hq => ?_, fun p h1 h2 => ?_, fun s hs => ?_⟩))
  · rw [up2_off (by omega), up2_off (by omega)]; exact F.1 p q hp hq
  · rw [up2_off (by omega)]; exact F.2.1 p h1 h2
  · rw [up2_off (by have := O.hP; omega)]; exact F.2.2 s hs
theorem cs_song (C : CI σ P B T) (hO : (∀ s, s < 16 → a ≠ nI s) → pex xIO σ) (hA : ∀ s, s < 16 → a = nI s → ¬ sgOk b c d → pex xIA σ)
    (h : ∀ s, s < 16 → a = nI s → sgOk b c d → ∀ τ, τ = songS σ s b c d → CI τ P B T → post (σ (39 + s) 2) τ) : w_T_X7_song post pex σ a b c d := by
  obtain ⟨W, O, K, F⟩ := C
  refine law_T_song hO hA (fun s hs e ok => h s hs e ok _ rfl (.of (O.song hs) (((K.kw (Kw.up (Or.inl (by omega)))).kw (Kw.up (Or.inl (by omega)))).kw (Kw.up (Or.inl (by omega)))) ⟨fun p q hp hq => ?_, fun p h1 h2 => ?_, fun i hi => ?_⟩))
  · unfold songS
    rw [up2_off (by omega), up2_off (by omega), up2_off (by omega), up2_off (by omega), up2_off (by omega), up2_off (by omega)]; exact F.1 p q hp hq
  · unfold songS
    rw [up2_off (by omega), up2_off (by omega), up2_off (by omega)]; exact F.2.1 p h1 h2
  · unfold songS
    rw [up2_off (by omega)]
    by_cases z : i = s
    · subst z
      rw [up2_same]
      obtain ⟨en, hn, rfl⟩ := nI_of ok.2.2.1
      refine ⟨en, ?_, rfl⟩
      rcases Nat.lt_or_ge en 10 with d | d
      · exact d
      · exact absurd (show nI 10 ≤ nI en from nI_le0 d hn) ok.2.2.2.1
    · rw [up2_off (by omega), up2_off (by omega)]
      exact F.2.2 i hi
/-- the feuds as they are told -/
theorem feudS_is {p q : Nat} (F : Fe σ P) (hP : P ≤ 10) (hp : p < P) (hq : q < P) (hne : p ≠ q) (hc : c = 0 ∨ c = 1) : feudS σ p q (b01 (bt (σ (29 + p) 4) q)) c = up2 (up2 σ (29 + p) 4 (fdV (σ (29 + p) 4) q c)) (29 + q) 4 (fdV (σ (29 + q) 4) p c) := by
  have sy := F.1 p q (by omega) (by omega)
  unfold feudS
  by_cases z : b01 (bt (σ (29 + p) 4) q) = c
  · rw [if_pos z]
    have e : bt (σ (29 + p) 4) q = !decide (c = 0) := by
      rw [← z]
      cases bt (σ (29 + p) 4) q <;> decide
    rw [fdV_id (by omega) e, fdV_id (by omega) (sy.symm.trans e)]
    funext k j
    by_cases y : k = 29 + q ∧ j = 4
    · obtain ⟨rfl, rfl⟩ := y
      rw [up2_same]
    · rw [up2_off y]
      by_cases x : k = 29 + p ∧ j = 4
      · obtain ⟨rfl, rfl⟩ := x
        rw [up2_same]
      · rw [up2_off x]
  · rw [if_neg z]
    have e : bt (σ (29 + p) 4) q = decide (c = 0) := by
      rcases hc with rfl | rfl
      · cases y : bt (σ (29 + p) 4) q with
        | true => rfl
        | false => rw [y] at z; exact absurd rfl z
      · cases y : bt (σ (29 + p) 4) q with
        | false => rfl
        | true => rw [y] at z; exact absurd rfl z
    rw [fdV_xor (by omega) e, fdV_xor (by omega) (sy.symm.trans e)]
theorem cs_feud (C : CI σ P B T) (hc : c = 0 ∨ c = 1) (hO : ((∀ p, p < P → a ≠ nI p) ∨ (∀ p, p < P → b ≠ nI p)) → pex xIO σ) (hA : ∀ p, p < P → a = nI p → b = nI p → pex xIA σ)
    (h : ∀ p q, p < P → q < P → a = nI p → b = nI q → p ≠ q → ∀ τ, τ = up2 (up2 σ (29 + p) 4 (fdV (σ (29 + p) 4) q c)) (29 + q) 4 (fdV (σ (29 + q) 4) p c) → CI τ P B T → post (b01 (bt (σ (29 + p) 4) q)) τ) : w_T_X7_feud post pex σ a b c := by
  obtain ⟨W, O, K, F⟩ := C
  have hP := O.hP
  refine law_T_feud O hO hA (fun p q hp hq ea eb hne => h p q hp hq ea eb hne _ (feudS_is F hP hp hq hne hc) (.of (O.feud (by omega) (by omega)) ?_ ?_))
  · unfold feudS
    split
    · exact K
    · exact (K.kw (Kw.up (Or.inl (by omega)))).kw (Kw.up (Or.inl (by omega)))
  · rw [feudS_is F hP hp hq hne hc]
    have g : ∀ i, up2 (up2 σ (29 + p) 4 (fdV (σ (29 + p) 4) q c)) (29 + q) 4 (fdV (σ (29 + q) 4) p c) (29 + i) 4 = if i = q then fdV (σ (29 + q) 4) p c else if i = p then fdV (σ (29 + p) 4) q c else σ (29 + i) 4 := fun i => by
      by_cases y : i = q
      · subst y; rw [up2_same, if_pos rfl]
      · rw [up2_off (by omega), if_neg y]
        by_cases x : i = p
        · subst x; rw [up2_same, if_pos rfl]
        · rw [up2_off (by omega), if_neg x]
    refine ⟨fun u v hu hv => ?_, fun u h1 h2 => ?_, fun s hs => ?_⟩
    · rw [g, g]
      have s1 := F.1 u v hu hv
      have s2 := F.1 u q hu (by omega)
      have s3 := F.1 v q hv (by omega)
      have s4 := F.1 u p hu (by omega)
      have s5 := F.1 v p hv (by omega)
      by_cases uq : u = q
      · by_cases vq : v = q
        · rw [uq, vq]
        · by_cases vp : v = p
          · rw [if_pos uq, if_neg vq, if_pos vp, fdV_bt (by omega) (by omega), fdV_bt (by omega) (by omega), if_pos vp, if_pos uq]
          · rw [if_pos uq, if_neg vq, if_neg vp, fdV_bt (by omega) (by omega), if_neg vp, ← uq]; exact s1
      · by_cases up : u = p
        · by_cases vq : v = q
          · rw [if_neg uq, if_pos up, if_pos vq, fdV_bt (by omega) (by omega), fdV_bt (by omega) (by omega), if_pos vq, if_pos up]
          · by_cases vp : v = p
            · rw [up, vp]
            · rw [if_neg uq, if_pos up, if_neg vq, if_neg vp, fdV_bt (by omega) (by omega), if_neg vq, ← up]; exact s1
        · by_cases vq : v = q
          · rw [if_neg uq, if_neg up, if_pos vq, fdV_bt (by omega) (by omega), if_neg up, ← vq]; exact s1
          · by_cases vp : v = p
            · rw [if_neg uq, if_neg up, if_neg vq, if_pos vp, fdV_bt (by omega) (by omega), if_neg uq, ← vp]; exact s1
            · rw [if_neg uq, if_neg up, if_neg vq, if_neg vp]; exact s1
    · rw [g, if_neg (by omega), if_neg (by omega)]; exact F.2.1 u h1 h2
    · rw [up2_off (by omega), up2_off (by omega)]; exact F.2.2 s hs
theorem kw_shB (x : MS) (o a i : Nat) (ha : a < 50) : Kw x (shB x o a i) := by
  unfold shB
  split
  · exact Kw.rf x
  · exact Kw.up (Or.inl (by omega))
theorem kw_shA (x : MS) (o a : Nat) (ha : a < 50) : ∀ n, Kw x (shA x o a n)
  | 0 => Kw.rf x
  | n + 1 => (kw_shA x o a ha n).tr (kw_shB _ o a n ha)
theorem kw_shO (x : MS) (o : Nat) : ∀ n, n ≤ 6 → Kw x (shO x o n)
  | 0, _ => Kw.rf x
  | n + 1, h => (kw_shO x o n (by omega)).tr (kw_shA _ o n (by omega) 6)
theorem kw_ov (x : MS) : ∀ n, Kw x (ovS x n)
  | 0 => Kw.rf x
  | n + 1 => (kw_ov x n).tr (kw_shO _ n 6 (by decide))
theorem kw_lyB (x : MS) {a : Nat} (ha : a < 6) : ∀ n, Kw x (lyB x a n)
  | 0 => Kw.rf x
  | n + 1 => (kw_lyB x ha n).tr (Kw.up (Or.inl (by omega)))
theorem kw_lyA (x : MS) : ∀ n, n ≤ 6 → Kw x (lyA x n)
  | 0, _ => Kw.rf x
  | n + 1, h => (kw_lyA x n (by omega)).tr (kw_lyB _ (by omega) 6)
theorem kw_lay (x : MS) {i j : Nat} {h : Int32} (hi : i < 6) (hj : j < 6) : Kw x (layS x i j h) := ((((Kw.up (Or.inl (by omega))).tr (Kw.up (Or.inl (by omega)))).tr (kw_lyA _ 6 (by decide))).tr (kw_ov _ 6))
theorem kw_tkI (x : MS) (b k : Nat) (hb : b < 6) : ∀ n, Kw x (tkI x b k n)
  | 0 => Kw.rf x
  | n + 1 => by
    have ih := kw_tkI x b k hb n
    unfold tkI
    split
    · exact ih
    · exact (ih.tr (Kw.up (Or.inl (by omega)))).tr (Kw.up (Or.inl (by omega)))
theorem kw_tkO (x : MS) (b : Nat) (a : Int32) (hb : b < 6) : ∀ n, Kw x (tkO x b a n).1
  | 0 => Kw.rf x
  | n + 1 => ((kw_tkO x b a hb n).tr (Kw.up (Or.inl (by omega)))).tr (kw_tkI _ b n hb _)
theorem kw_band (x : MS) {B m : Nat} (hB : B < 6) : Kw x (bandS x B m) := (kw_tkO x B _ hB 6).tr (Kw.up (Or.inl (by decide)))
theorem tk_shB (x : MS) (o : Nat) {a : Nat} (i : Nat) (ha : a < 6) : ∀ p j, p < 10 → shB x o a i (29 + p) j = x (29 + p) j := fun p j hp => by
  unfold shB
  split
  · rfl
  · exact up2_off (by omega)
theorem tk_shA (x : MS) (o : Nat) {a : Nat} (ha : a < 6) : ∀ n p j, p < 10 → shA x o a n (29 + p) j = x (29 + p) j
  | 0, _, _, _ => rfl
  | n + 1, p, j, hp => (tk_shB _ o n ha p j hp).trans (tk_shA x o ha n p j hp)
theorem tk_shO (x : MS) (o : Nat) : ∀ n, n ≤ 6 → ∀ p j, p < 10 → shO x o n (29 + p) j = x (29 + p) j
  | 0, _, _, _, _ => rfl
  | n + 1, h, p, j, hp => (tk_shA _ o (by omega) 6 p j hp).trans (tk_shO x o n (by omega) p j hp)
theorem tk_ov (x : MS) : ∀ n p j, p < 10 → ovS x n (29 + p) j = x (29 + p) j
  | 0, _, _, _ => rfl
  | n + 1, p, j, hp => (tk_shO _ n 6 (by decide) p j hp).trans (tk_ov x n p j hp)
theorem tk_lyB (x : MS) {a : Nat} (ha : a < 6) : ∀ n p j, p < 10 → lyB x a n (29 + p) j = x (29 + p) j
  | 0, _, _, _ => rfl
  | n + 1, p, j, hp => (up2_off (by omega)).trans (tk_lyB x ha n p j hp)
theorem tk_lyA (x : MS) : ∀ n, n ≤ 6 → ∀ p j, p < 10 → lyA x n (29 + p) j = x (29 + p) j
  | 0, _, _, _, _ => rfl
  | n + 1, h, p, j, hp => (tk_lyB _ (by omega) 6 p j hp).trans (tk_lyA x n (by omega) p j hp)
theorem tk_lay (x : MS) {i j : Nat} {h : Int32} (hi : i < 6) (hj : j < 6) (p k : Nat) (hp : p < 10) : layS x i j h (29 + p) k = x (29 + p) k := ((tk_ov _ 6 p k hp).trans (tk_lyA _ 6 (by decide) p k hp)).trans ((up2_off (by omega)).trans (up2_off (by omega)))
/-- .. and songs -/
theorem tl_lay (x : MS) {i j : Nat} {h : Int32} (hi : i < 6) (hj : j < 6) (s k : Nat) : layS x i j h (39 + s) k = x (39 + s) k := by
  have b1 : ∀ (y : MS) (o a n : Nat), a < 6 → shB y o a n (39 + s) k = y (39 + s) k := fun y o a n ha => by
    unfold shB
    split
    · rfl
    · exact up2_off (by omega)
  have b2 : ∀ (y : MS) (o a : Nat), a < 6 → ∀ n, shA y o a n (39 + s) k = y (39 + s) k := fun y o a ha n => by
    induction n with
    | zero => rfl
    | succ n ih => exact (b1 _ o a n ha).trans ih
  have b3 : ∀ (y : MS) (o : Nat), ∀ n, n ≤ 6 → shO y o n (39 + s) k = y (39 + s) k := fun y o n => by
    induction n with
    | zero => intro _; rfl
    | succ n ih => intro hn; exact (b2 _ o n (by omega) 6).trans (ih (by omega))
  have b4 : ∀ (y : MS), ∀ n, ovS y n (39 + s) k = y (39 + s) k := fun y n => by
    induction n with
    | zero => rfl
    | succ n ih => exact (b3 _ n 6 (by decide)).trans ih
  have b5 : ∀ (y : MS) (a : Nat), a < 6 → ∀ n, lyB y a n (39 + s) k = y (39 + s) k := fun y a ha n => by
    induction n with
    | zero => rfl
    | succ n ih => exact (up2_off (by omega)).trans ih
  have b6 : ∀ (y : MS), ∀ n, n ≤ 6 → lyA y n (39 + s) k = y (39 + s) k := fun y n => by
    induction n with
    | zero => intro _; rfl
    | succ n ih => intro hn; exact (b5 _ n (by omega) 6).trans (ih (by omega))
  exact ((b4 _ 6).trans (b6 _ 6 (by decide))).trans ((up2_off (by omega)).trans (up2_off (by omega)))
theorem Tk.band (x : MS) {B m : Nat} (hB : B < 6) : Tk x (bandS x B m) := by
  have i1 : ∀ k n, Tk x (tkI x B k n) := fun k n => by
    induction n with
    | zero => exact Tk.rf x
    | succ n ih =>
      unfold tkI
      split
      · exact ih
      · exact (ih.tr (Tk.up (by unfold tdC; omega))).tr (Tk.up (by unfold tdC; omega))
  have i2 : ∀ (y : MS) k n, Tk y (tkI y B k n) := fun y k n => by
    induction n with
    | zero => exact Tk.rf y
    | succ n ih =>
      unfold tkI
      split
      · exact ih
      · exact (ih.tr (Tk.up (by unfold tdC; omega))).tr (Tk.up (by unfold tdC; omega))
  have i3 : ∀ n, Tk x (tkO x B (nI m) n).1 := fun n => by
    induction n with
    | zero => exact Tk.rf x
    | succ n ih => exact (ih.tr (Tk.up (by unfold tdC; omega))).tr (i2 _ n _)
  exact (i3 6).tr (Tk.up (by unfold tdC; omega))
theorem cs_road (C : CI σ P B T) (hO : ((∀ p, p < 6 → a ≠ nI p) ∨ (∀ p, p < 6 → b ≠ nI p)) → pex xIO σ) (hA : ∀ i j, i < 6 → j < 6 → a = nI i → b = nI j → ¬ rdOk a b c → pex xIA σ)
    (h : ∀ i j, i < 6 → j < 6 → a = nI i → b = nI j → rdOk a b c → ∀ τ, τ = layS σ i j c → CI τ P B T → post (layS σ i j c (23 + i) j) τ) : w_T_X7_road post pex σ a b c := by
  obtain ⟨W, O, K, F⟩ := C
  refine law_T_road hO hA (fun i j hi hj ea eb ok => h i j hi hj ea eb ok _ rfl (.of (O.kp (Kp.lay σ hi hj)) (K.kw (kw_lay σ hi hj)) ⟨fun p q hp hq => ?_, fun p h1 h2 => ?_, fun s hs => ?_⟩))
  · rw [tk_lay σ hi hj p 4 hp, tk_lay σ hi hj q 4 hq]; exact F.1 p q hp hq
  · rw [tk_lay σ hi hj p 4 h2]; exact F.2.1 p h1 h2
  · rw [tl_lay σ hi hj s 1]; exact F.2.2 s hs
theorem cs_band (C : CI σ P B T) (hA : (∀ m, 1 ≤ m → m ≤ 728 → a = nI m → ¬ (szI (nI m) 6).1 ≤ 5) → pex xIA σ) (hS : ∀ m, 1 ≤ m → m ≤ 728 → a = nI m → (szI (nI m) 6).1 ≤ 5 → 6 ≤ B → pex xIS σ)
    (h : ∀ m, 1 ≤ m → m ≤ 728 → a = nI m → (szI (nI m) 6).1 ≤ 5 → B < 6 → ∀ τ, CI τ P (B + 1) T → Tk σ τ → post (nI B) τ) : w_T_X7_band post pex σ a := by
  obtain ⟨W, O, K, F⟩ := C
  exact law_T_band O hA hS (fun m h1 h2 e ok hB => h m h1 h2 e ok hB _ (.of (O.band1 hB) (K.kw (kw_band σ hB)) (F.tk (Tk.band σ hB))) (Tk.band σ hB))
theorem tk_ask {σ : MS} {W : Nat} (b d t s l g : Int32) : Tk σ (askS σ W b d t s l g) := ((((((((Tk.up (by unfold tdC; omega)).tr (Tk.up (by unfold tdC; omega))).tr (Tk.up (by unfold tdC; omega))).tr (Tk.up (by unfold tdC; omega))).tr (Tk.up (by unfold tdC; omega))).tr (Tk.up (by unfold tdC; omega))).tr (Tk.up (by unfold tdC; omega))).tr (Tk.up (by unfold tdC; omega)))
theorem cs_ask (C : CI σ P B T) (hO : pex xIO σ) (hA : pex xIA σ) (hS : pex xIS σ) (h : ∀ v τ, CI τ P B T → Tk σ τ → post v τ) : w_T_X7_ask post pex σ a b c d e f := by
  obtain ⟨W, O, K, F⟩ := C
  refine law_T_ask O (fun _ => hO) (fun _ _ _ => hA) (fun _ _ _ _ => hS) (fun hb ht ok hW _ => h _ _ (.of (O.ask hb ht ok hW) ?_ (F.tk (tk_ask _ _ _ _ _ _))) (tk_ask _ _ _ _ _ _))
  unfold askS
  exact K.kw ((((((((Kw.up (Or.inr (by decide))).tr (Kw.up (Or.inr (by decide)))).tr (Kw.up (Or.inr (by decide)))).tr (Kw.up (Or.inr (by decide)))).tr (Kw.up (Or.inr (by decide)))).tr (Kw.up (Or.inr (by decide)))).tr (Kw.up (Or.inr (by decide)))).tr (Kw.up (Or.inl (by decide))))
theorem cs_fix (C : CI σ P B T) (hO : pex xIO σ) (hS : ∀ τ, CI τ P B T → Tk σ τ → pex xIS τ) (h : ∀ v τ, CI τ P B T → Tk σ τ → post v τ) : w_T_X7_fix post pex σ a := by
  have C0 := C
  obtain ⟨W, O, K, F⟩ := C
  exact law_T_fix O (fun _ => hO) (fun _ _ _ _ => hS _ C0 (Tk.rf σ)) (fun w _ _ _ _ => hS _ (C0.scr (Scr.sn σ w P W)) (Tk.scr (Scr.sn σ w P W))) (fun w hw _ _ hc => h _ _ (.of (O.fix (by have := O.hW; omega)) (K.fix O.hP hc) (F.tk (Tk.fix σ w P W))) (Tk.fix σ w P W))
theorem cs_cancel (C : CI σ P B T) (hO : pex xIO σ) (hS : pex xIS σ) (h : ∀ v τ, CI τ P B T → Tk σ τ → post v τ) : w_T_X7_cancel post pex σ a := by
  obtain ⟨W, O, K, F⟩ := C
  exact law_T_cancel O (fun _ => hO) (fun _ _ _ _ => hS) (fun w hw _ _ => h _ _ (.of (O.can (by have := O.hW; omega)) K.can (F.tk (Tk.can σ w))) (Tk.can σ w))
theorem cs_ill (C : CI σ P B T) (hO : pex xIO σ) (hA : pex xIA σ) (h : ∀ v τ, CI τ P B T → Tk σ τ → post v τ) : w_T_X7_ill post pex σ a b := by
  obtain ⟨W, O, K, F⟩ := C
  refine law_T_ill O (fun _ => hO) (fun _ _ _ _ => hA) (fun p d _ _ _ _ _ => h _ _ (.of (Ok.ill (O.off (p := p) (d := d)) W O.hW) (Pk.ill (W := W) ?_ (fun j hj => ?_) W (Nat.le_refl _)) (F.tk ((Tk.off σ P W p d).tr (Tk.ill _ p (nI d) W)))) ((Tk.off σ P W p d).tr (Tk.ill _ p (nI d) W)))
  · exact (K.scr (Scr.sw σ P W p (nI d) W)).kw (Kw.up (Or.inl (by decide)))
  · unfold offS
    rw [up2_ne (by decide)]
    exact sw_in O.hP K O.hW W j hj
theorem cs_late (C : CI σ P B T) (hO : pex xIO σ) (hA : pex xIA σ) (hS : pex xIS σ) (h : ∀ v τ, CI τ P B T → Tk σ τ → post v τ) : w_T_X7_late post pex σ a b := by
  obtain ⟨W, O, K, F⟩ := C
  exact law_T_late O (fun _ => hO) (fun _ _ _ _ => hA) (fun _ _ _ _ _ => hS) (fun w hw _ _ _ => h _ _ (.of (O.up (by have := O.hW; unfold okPl; omega)) (K.kw (Kw.up (Or.inr (by decide)))) (F.tk (Tk.up (by unfold tdC; omega)))) (Tk.up (by unfold tdC; omega)))
theorem cs_pass (C : CI σ P B T) (hA : (∀ d, 1 ≤ d → d ≤ 60 → a ≠ nI d) → pex xIA σ) (hS : ∀ d, 1 ≤ d → d ≤ 60 → a = nI d → 365 < T + d → pex xIS σ)
    (h : ∀ d, 1 ≤ d → d ≤ 60 → a = nI d → T + d ≤ 365 → ∀ τ, CI τ P B (T + d) → Tk σ τ → post (nI (T + d)) τ) : w_T_X7_pass post pex σ a := by
  obtain ⟨W, O, K, F⟩ := C
  exact law_T_pass O hA hS (fun d h1 h2 e hd => h d h1 h2 e hd _ (.of (ok_psS O d hd) (K.kw (kw_psS σ P W d)) (F.tk (tk_psS σ P W d))) (tk_psS σ P W d))
theorem cs_ofPlayer (C : CI σ P B T) (hO : pex xIO σ) (hA : pex xIA σ) (h : ∀ v τ, CI τ P B T → Tk σ τ → post v τ) : w_T_X7_ofPlayer post pex σ a b := by
  have C0 := C
  obtain ⟨W, O, K, F⟩ := C
  exact law_T_ofPlayer O (fun _ => hO) (fun _ _ _ _ => hA) (fun _ _ _ _ _ _ => h _ _ C0 (Tk.rf σ))
theorem cs_ofSong (C : CI σ P B T) (hO : pex xIO σ) (hA : pex xIA σ) (h : ∀ v τ, CI τ P B T → Tk σ τ → post v τ) : w_T_X7_ofSong post pex σ a b := by
  have C0 := C
  obtain ⟨W, O, K, F⟩ := C
  exact law_T_ofSong O (fun _ => hO) (fun _ _ _ _ => hA) (fun _ _ _ _ _ _ => h _ _ C0 (Tk.rf σ))
theorem cs_ofBand (C : CI σ P B T) (hO : pex xIO σ) (hA : pex xIA σ) (h : ∀ v τ, CI τ P B T → Tk σ τ → post v τ) : w_T_X7_ofBand post pex σ a b := by
  have C0 := C
  obtain ⟨W, O, K, F⟩ := C
  exact law_T_ofBand O (fun _ => hO) (fun _ _ _ _ => hA) (fun _ _ _ _ _ _ => h _ _ C0 (Tk.rf σ))
theorem cs_ofWedding (C : CI σ P B T) (hO : pex xIO σ) (hA : pex xIA σ) (h : ∀ v τ, CI τ P B T → Tk σ τ → post v τ) : w_T_X7_ofWedding post pex σ a b := by
  have C0 := C
  obtain ⟨W, O, K, F⟩ := C
  exact law_T_ofWedding O (fun _ => hO) (fun _ _ _ _ => hA) (fun _ _ _ _ _ _ => h _ _ C0 (Tk.rf σ))
theorem cs_drive (C : CI σ P B T) (hO : ((∀ p, p < 6 → a ≠ nI p) ∨ (∀ p, p < 6 → b ≠ nI p)) → pex xIO σ) (h : ∀ i j, i < 6 → j < 6 → a = nI i → b = nI j → post (σ (23 + i) j) σ) : w_T_X7_drive post pex σ a b := law_T_drive hO h
theorem cs_free (C : CI σ P B T) (hO : pex xIO σ) (h : ∀ v τ, CI τ P B T → Tk σ τ → post v τ) : w_T_X7_free post pex σ a b := by
  have C0 := C
  obtain ⟨W, O, K, F⟩ := C
  exact law_T_free O (fun _ => hO) (fun _ _ _ _ _ _ => h _ _ (C0.scr (Scr.stg σ W)) (Tk.scr (Scr.stg σ W)))
theorem cs_filling (C : CI σ P B T) (hO : pex xIO σ) (hA : pex xIA σ) (h : ∀ v τ, CI τ P B T → Tk σ τ → post v τ) : w_T_X7_filling post pex σ a b := by
  have C0 := C
  obtain ⟨W, O, K, F⟩ := C
  exact law_T_filling O (fun _ => hO) (fun _ _ _ _ => hA) (fun w _ _ _ _ _ => h _ _ (C0.scr (Scr.sn σ w P W)) (Tk.scr (Scr.sn σ w P W)))
theorem cs_set (C : CI σ P B T) (hA : pex xIA σ) (h : ∀ v τ, CI τ P B T → Tk σ τ → post v τ) : w_T_X7_set post pex σ a b := by
  have C0 := C
  obtain ⟨W, O, K, F⟩ := C
  exact law_T_set O (fun _ => hA) (fun _ _ => h _ _ (C0.scr (Scr.set _ _ _)) (Tk.scr (Scr.set _ _ _)))
theorem cs_desk (C : CI σ P B T) (hA : pex xIA σ) (h : ∀ v τ, CI τ P B T → Tk σ τ → post v τ) : w_T_X7_desk post pex σ a := by
  have C0 := C
  obtain ⟨W, O, K, F⟩ := C
  exact law_T_desk O (fun _ => hA) (fun _ _ _ => h _ _ C0 (Tk.rf σ))
theorem cs_wouldLose (C : CI σ P B T) (hO : pex xIO σ) (hA : pex xIA σ) (h : ∀ v τ, CI τ P B T → Tk σ τ → post v τ) : w_T_X7_wouldLose post pex σ a b := by
  have C0 := C
  obtain ⟨W, O, K, F⟩ := C
  exact law_T_wouldLose O (fun _ => hO) (fun _ _ _ _ => hA) (fun p d _ _ _ _ _ => h _ _ (C0.scr (Scr.sw σ P W p (nI d) W)) (Tk.scr (Scr.sw σ P W p (nI d) W)))
theorem cs_plan (C : CI σ P B T) (hA : pex xIA σ) (h : ∀ v τ, CI τ P B T → Tk σ τ → post v τ) : w_T_X7_plan post pex σ a b := by
  have C0 := C
  obtain ⟨W, O, K, F⟩ := C
  exact law_T_plan O (fun _ => hA) (fun _ _ _ => h _ _ (C0.scr (Scr.pl σ P W _ _)) (Tk.scr (Scr.pl σ P W _ _)))
theorem cs_wouldCancel (C : CI σ P B T) (hO : pex xIO σ) (hS : pex xIS σ) (h : ∀ v τ, CI τ P B T → Tk σ τ → post v τ) : w_T_X7_wouldCancel post pex σ a := by
  have C0 := C
  obtain ⟨W, O, K, F⟩ := C
  exact law_T_wouldCancel O (fun _ => hO) (fun _ _ _ _ => hS) (fun _ _ _ _ => h _ _ C0 (Tk.rf σ))
theorem cs_key (C : CI σ P B T) (hO : pex xIO σ) (h : ∀ v τ, CI τ P B T → Tk σ τ → post v τ) : w_T_X7_key post pex σ a := by
  have C0 := C
  obtain ⟨W, O, K, F⟩ := C
  exact law_T_key O (fun _ => hO) (fun w _ _ => h _ _ (C0.scr (Scr.sn σ w P W)) (Tk.scr (Scr.sn σ w P W)))
theorem cs_isSound (C : CI σ P B T) (h : ∀ v τ, CI τ P B T → Tk σ τ → post v τ) : w_X7_isSound post σ := by
  have C0 := C
  obtain ⟨W, O, K, F⟩ := C
  exact law_isSound O (h _ _ C0 (Tk.rf σ))
theorem cs_digest {post : Int64 → MS → Prop} (C : CI σ P B T) (h : ∀ v τ, CI τ P B T → Tk σ τ → post v τ) : w_N_X7_digest post σ := by
  have C0 := C
  obtain ⟨W, O, K, F⟩ := C
  exact law_N_digest O (K.ok O.hW) (fun τ hs => h _ _ (C0.scr hs) (Tk.scr hs))
theorem vp_nat {x : Int32} {n : Nat} (h : vp_in x n) (hn : n < 2 ^ 31) : ∃ v, v < n ∧ x = nI v := by
  have h0 : ¬ x < 0 := fun z => h (Or.inl z)
  obtain ⟨v, hv, rfl⟩ := nI_of h0
  have := vlt h
  rw [nI_clamp (by omega)] at this
  exact ⟨v, this, rfl⟩
theorem cs_tell {post : MS → Prop} (C : CI σ P B T) (hO : pex xIO σ) (h : ∀ τ, CI τ P B T → Tk σ τ → post τ) : w_T_X7_tell post pex σ a := by
  have C0 := C
  obtain ⟨W, O, K, F⟩ := C
  have hW := O.hW
  unfold w_T_X7_tell
  refine law_T_checkWedding O (fun w hw ew => ?_) (fun _ => hO)
  obtain ⟨dd, hd, ed⟩ := vp_nat (O.day w (by omega)) (by decide)
  obtain ⟨t, ht, et⟩ := vp_nat (O.town w (by omega)) (by decide)
  exact ⟨w, dd, t, P, by omega, ew, by omega, ed, by omega, et, O.hP, O.h6, h _ C0 (Tk.rf σ)⟩
theorem cs_songs {post : MS → Prop} (C : CI σ P B T) (hO : pex xIO σ) (h : ∀ τ, CI τ P B T → Tk σ τ → post τ) : w_T_X7_songs post pex σ a := by
  have C0 := C
  obtain ⟨W, O, K, F⟩ := C
  have hW := O.hW
  unfold w_T_X7_songs
  refine law_T_checkWedding O (fun w hw ew => ⟨w, by omega, ew, law_playableFor O.h6 O.hP (law_choose ?_)⟩) (fun _ => hO)
  obtain ⟨l, hl, el, hr⟩ := cho_row σ (playF σ (σ (73 + w) 8) P)
  refine ⟨l, hl, el, fun j hj => ?_, h _ (C0.scr (Scr.cho _ _)) (Tk.scr (Scr.cho _ _))⟩
  obtain ⟨v, hv, e⟩ := vp_nat (hr j hj) (by decide)
  exact ⟨v, by omega, e⟩
/-- player: which of the four it is -/
theorem cs_player (C : CI σ P B T)
    (hx : ¬ (0 ≤ c ∧ c < 6) → pex xIO σ) (hq : (0 ≤ c ∧ c < 6) → ¬ plOk a b d → pex xIA σ) (hf : (0 ≤ c ∧ c < 6) → plOk a b d → P = 10 → pex xIS σ)
    (h : ∀ τ, (0 ≤ c ∧ c < 6) → plOk a b d → P < 10 → τ = telP σ P a b c d → CI τ (P + 1) B T → post (nI P) τ) : w_T_X7_player post pex σ a b c d := by
  obtain ⟨W, O, K, F⟩ := C
  refine law_T_player O hx hq hf (fun h1 h2 h3 => h _ h1 h2 h3 rfl (.of (O.tel h1 h3) (fun w hw => inP_up h3 ?_) ⟨fun p q hp hq => ?_, fun p h4 h5 => ?_, fun s hs => ?_⟩))
  · unfold telP
    rw [up2_ne (by omega), up2_ne (by omega), up2_ne (by omega), up2_ne (by omega), up2_ne (by omega)]
    exact K w hw
  · unfold telP
    rw [up2_off (by omega), up2_off (by omega), up2_off (by omega), up2_off (by omega), up2_off (by omega), up2_off (by omega), up2_off (by omega), up2_off (by omega), up2_off (by omega), up2_off (by omega)]
    exact F.1 p q hp hq
  · unfold telP
    rw [up2_off (by omega), up2_off (by omega), up2_off (by omega), up2_off (by omega), up2_off (by omega)]
    exact F.2.1 p (by omega) h5
  · unfold telP
    rw [up2_off (by omega), up2_off (by omega), up2_off (by omega), up2_off (by omega), up2_off (by omega)]
    exact F.2.2 s hs
end CSAFE
