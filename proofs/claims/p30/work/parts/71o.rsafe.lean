section
/-! THE REFERENCE IS SAFE: players, bands, weddings more; the texts; a new one -/
section RSAFE15
variable {Tm : MS} {Γ : RG} {σ τ ρ : MS} {lay : Nat → Nat} {a a0 a1 a2 a3 a4 a5 a6 b c : Int32}
theorem sz_need (a : Int32) : ∀ n, szI a n = (rNeeds a n, rD3 a n)
  | 0 => rfl
  | n + 1 => by
    unfold szI
    rw [sz_need a n]
    rfl
theorem sf_tell {post : MS → Prop} (O : rOk Tm Γ σ) (h : ∀ τ, rOk Tm Γ τ → post τ) : w_X11_tell Γ post σ a1 := by
  have hW := O.hW
  unfold w_X11_tell
  have O0 := O.up (k := 0) (j := 0) (v := 0) (by unfold rPr; omega)
  refine sf_isWedding O ⟨fun _ => h _ (O.up (by unfold rPr; omega)), fun c => absurd rfl c⟩ (fun w r hw e hr => ⟨fun c => absurd c hr, fun _ => sf_wget O0 hw e ⟨⟨by omega, hw⟩, ?_⟩⟩)
  obtain ⟨d, hd, ed⟩ := O0.day hw
  obtain ⟨t, ht, et⟩ := O0.town hw
  exact ⟨w, d, t, by omega, e, by omega, ed, by omega, et, O0.p, h _ O0⟩
theorem sf_songs {post : MS → Prop} (O : rOk Tm Γ σ) (h : ∀ τ, rOk Tm Γ τ → post τ) : w_X11_songs Γ post σ a1 := by
  have hW := O.hW
  unfold w_X11_songs
  have O0 := O.up (k := 0) (j := 0) (v := 0) (by unfold rPr; omega)
  refine sf_isWedding O ⟨fun _ => h _ (O.up (by unfold rPr; omega)), fun c => absurd rfl c⟩ (fun w r hw e hr => ⟨fun c => absurd c hr, fun _ => sf_wget O0 hw e ⟨⟨by omega, hw⟩, sf_bestSet O0 (fun len f τ O' hl hf => ⟨hl, fun i hi => ?_, h _ O'⟩)⟩⟩)
  obtain ⟨s, hs, es⟩ := hf i hi
  exact ⟨s, by omega, es⟩
/-- no roads: no ways -/
def Dg (y : MS) : Prop := ∀ a b, a < 6 → b < 6 → y (23 + a) b = if a = b then 0 else -1
theorem dg_shB {y : MS} {o a b : Nat} (h : Dg y) (ho : o < 6) (ha : a < 6) (hb : b < 6) : Dg (shB y o a b) := by
  unfold shB
  split
  · exact h
  · next c =>
    have e1 : a = o := Decidable.byContradiction fun z => c (Or.inl (by rw [h a o ha ho, if_neg z]))
    have e2 : o = b := Decidable.byContradiction fun z => c (Or.inr (by rw [h o b ho hb, if_neg z]))
    subst e1
    subst e2
    intro u v hu hv
    by_cases q : u = a ∧ v = a
    · obtain ⟨rfl, rfl⟩ := q
      rw [up2_same, h v v hv hv, if_pos rfl]
      decide
    · rw [up2_off (by omega)]
      exact h u v hu hv
theorem dg_shA {y : MS} {o a : Nat} (h : Dg y) (ho : o < 6) (ha : a < 6) : ∀ n, n ≤ 6 → Dg (shA y o a n)
  | 0, _ => h
  | n + 1, hn => dg_shB (dg_shA h ho ha n (by omega)) ho ha (by omega)
theorem dg_shO {y : MS} {o : Nat} (h : Dg y) (ho : o < 6) : ∀ n, n ≤ 6 → Dg (shO y o n)
  | 0, _ => h
  | n + 1, hn => dg_shA (dg_shO h ho n (by omega)) ho (by omega) 6 (Nat.le_refl _)
theorem dg_ov {y : MS} (h : Dg y) : ∀ n, n ≤ 6 → Dg (ovS y n)
  | 0, _ => h
  | n + 1, hn => dg_shO (dg_ov h n (by omega)) (by omega) 6 (Nat.le_refl _)
theorem lyB_17 (x : MS) (a : Nat) {c d : Nat} (hc : c < 6) : ∀ n, lyB x a n (17 + c) d = x (17 + c) d
  | 0 => rfl
  | n + 1 => by
    unfold lyB
    rw [up2_off (by omega)]
    exact lyB_17 x a hc n
theorem lyA_17 (x : MS) {c d : Nat} (hc : c < 6) : ∀ n, lyA x n (17 + c) d = x (17 + c) d
  | 0 => rfl
  | n + 1 => by
    unfold lyA
    rw [lyB_17 _ _ hc]
    exact lyA_17 x hc n
theorem lyB_ne (x : MS) {a c d : Nat} (h : c ≠ a) : ∀ n, lyB x a n (23 + c) d = x (23 + c) d
  | 0 => rfl
  | n + 1 => by
    unfold lyB
    rw [up2_off (by omega)]
    exact lyB_ne x h n
theorem lyV_17 {x y : MS} {a d : Nat} (h : y (17 + a) d = x (17 + a) d) : lyV y a d = lyV x a d := by
  unfold lyV
  rw [h]
theorem lyB_23 (x : MS) {a d : Nat} (ha : a < 6) : ∀ n, d < n → lyB x a n (23 + a) d = lyV x a d
  | 0, h => absurd h (Nat.not_lt_zero _)
  | n + 1, h => by
    unfold lyB
    by_cases q : d = n
    · subst q
      rw [up2_same]
      exact lyV_17 (lyB_17 x a ha d)
    · rw [up2_off (by omega)]
      exact lyB_23 x ha n (by omega)
theorem lyA_23 (x : MS) {c d : Nat} (hd : d < 6) : ∀ n, n ≤ 6 → c < n → lyA x n (23 + c) d = lyV x c d
  | 0, _, h => absurd h (Nat.not_lt_zero _)
  | n + 1, hn, h => by
    unfold lyA
    by_cases q : c = n
    · subst q
      rw [lyB_23 _ (by omega) 6 hd]
      exact lyV_17 (lyA_17 x (by omega) c)
    · rw [lyB_ne _ q]
      exact lyA_23 x hd n (by omega) (by omega)
theorem dg_lyA {x : MS} (h0 : ∀ c d, c < 6 → d < 6 → x (17 + c) d = 0) : Dg (lyA x 6) := fun c d hc hd => by
  rw [lyA_23 x hd 6 (Nat.le_refl _) hc]
  unfold lyV
  rw [h0 c d hc hd, if_pos rfl]
end RSAFE15
end
section
/-! THE CLASS IS SAFE: whatever the call, it ends, throws what its caller catches, and keeps what holds of every state; what was told stays but where a call tells it -/
/-- where what is told lies: roads and ways, what players know, feuds, songs -/
def tdC (k j : Nat) : Prop := (17 ≤ k ∧ k < 29) ∨ (29 ≤ k ∧ k < 39 ∧ (j = 1 ∨ j = 4)) ∨ (39 ≤ k ∧ k < 55 ∧ j ≤ 2)
def Tk (σ τ : MS) : Prop := ∀ k j, tdC k j → τ k j = σ k j
theorem Tk.rf (σ : MS) : Tk σ σ := fun _ _ _ => rfl
theorem Tk.tr {a b c : MS} (h : Tk a b) (g : Tk b c) : Tk a c := fun k j hk => (g k j hk).trans (h k j hk)
theorem Tk.up {σ : MS} {k j : Nat} {v : Int32} (h : ¬ tdC k j) : Tk σ (up2 σ k j v) := fun k' j' hk => up2_at (by
  by_cases e : k' = k
  · by_cases e2 : j' = j
    · subst e; subst e2; exact absurd hk h
    · exact Or.inr e2
  · exact Or.inl e)
theorem Tk.scr {σ τ : MS} (h : Scr σ τ) : Tk σ τ := fun k j hk => by rw [h k (by unfold tdC at hk; omega)]
theorem Tk.paid (σ : MS) (w : Nat) (a : Int32) : Tk σ (paidF σ w a) := (Tk.up (by unfold tdC; omega)).tr (Tk.up (by unfold tdC; omega))
theorem Tk.lose (σ : MS) (a n : Nat) : Tk σ (loseQ σ a n) := fun k j hk => if_neg (by unfold tdC at hk; omega)
theorem Tk.wait (σ : MS) (n : Nat) : Tk σ (waitL σ n) := fun k j hk => if_neg (by unfold tdC at hk; omega)
theorem Tk.py (x : MS) (w : Nat) : ∀ n, Tk x (pyS x w n)
  | 0 => Tk.rf x
  | n + 1 => by
    have ih := Tk.py x w n
    unfold pyS
    split
    · exact ih.tr ((((Tk.up (by unfold tdC; omega)).tr (Tk.up (by unfold tdC; omega))).tr (Tk.up (by unfold tdC; omega))).tr (Tk.up (by unfold tdC; omega)))
    · exact ih
theorem Tk.ply (y : MS) : ∀ n, Tk y (plyS y n)
  | 0 => Tk.rf y
  | n + 1 => (Tk.ply y n).tr (Tk.up (by unfold tdC; omega))
theorem Tk.out (σ : MS) (w P : Nat) : Tk σ (outS σ w P) := ((((Tk.paid σ w _).tr (Tk.py _ w P)).tr (Tk.scr (Scr.set _ _ _))).tr (Tk.ply _ _)).tr (Tk.up (by unfold tdC; omega))
theorem tk_edA (σ : MS) (P : Nat) : ∀ n, Tk σ (edA σ P n)
  | 0 => Tk.rf σ
  | n + 1 => by
    have ih := tk_edA σ P n
    unfold edA
    split
    · exact ih.tr (Tk.out _ _ _)
    · exact ih
theorem tk_edB (σ : MS) : ∀ n, Tk σ (edB σ n)
  | 0 => Tk.rf σ
  | n + 1 => by
    have ih := tk_edB σ n
    unfold edB
    split
    · exact ih.tr (Tk.up (by unfold tdC; omega))
    · exact ih
theorem tk_dayS (σ : MS) (P W : Nat) : Tk σ (dayS σ P W) := (((tk_edA σ P W).tr (tk_edB _ W)).tr (Tk.up (by unfold tdC; omega))).tr (Tk.wait _ W)
theorem tk_psS (σ : MS) (P W : Nat) : ∀ n, Tk σ (psS σ P W n)
  | 0 => Tk.rf σ
  | n + 1 => (tk_psS σ P W n).tr (tk_dayS _ P W)
theorem Tk.fix (σ : MS) (w P W : Nat) : Tk σ (fixS σ w P W) := by
  unfold fixS
  (try dsimp only)
  exact (((((Tk.scr (Scr.sn σ w P W)).tr (Tk.lose _ w W)).tr (Tk.up (by unfold tdC; omega))).tr (Tk.up (by unfold tdC; omega))).tr (Tk.up (by unfold tdC; omega))).tr (Tk.paid _ _ _)
theorem Tk.can (σ : MS) (w : Nat) : Tk σ (canS σ w) := by
  unfold canS
  split
  · exact (Tk.paid _ _ _).tr (Tk.up (by unfold tdC; omega))
  · exact Tk.up (by unfold tdC; omega)
theorem Tk.put (σ : MS) (w : Nat) (s : Int32) : Tk σ (putF σ w s) := by
  unfold putF
  split
  · exact (Tk.up (by unfold tdC; omega)).tr (Tk.paid _ _ _)
  · exact Tk.up (by unfold tdC; omega)
theorem Tk.ill (σ : MS) (p : Nat) (day : Int32) : ∀ n, Tk σ (illS σ p day n)
  | 0 => Tk.rf σ
  | n + 1 => by
    have ih := Tk.ill σ p day n
    unfold illS
    split
    · exact ih.tr (Tk.put _ _ _)
    · exact ih
theorem Tk.off (σ : MS) (P W p d : Nat) : Tk σ (offS σ P W p d) := (Tk.scr (Scr.sw σ P W p (nI d) W)).tr (Tk.up (by unfold tdC; omega))
/-- feuds are of both; those to come have none -/
def Fe (σ : MS) (P : Nat) : Prop := (∀ p q, p < 10 → q < 10 → bt (σ (29 + p) 4) q = bt (σ (29 + q) 4) p) ∧ (∀ p, P ≤ p → p < 10 → σ (29 + p) 4 = 0) ∧ ∀ s, s < 16 → ∃ e, e < 10 ∧ σ (39 + s) 1 = nI e
/-- what holds of every state of an agency with P players, B bands, today T -/
def CI (σ : MS) (P B T : Nat) : Prop := ∃ W, Ok σ P B W T ∧ Pk σ P ∧ Fe σ P
section CSAFE
variable {σ τ : MS} {P B T : Nat} {a b c d e f : Int32} {post : Int32 → MS → Prop} {pex : String → MS → Prop}
theorem Fe.tk (h : Fe σ P) (hk : Tk σ τ) : Fe τ P := ⟨fun p q hp hq => by rw [hk (29 + p) 4 (by unfold tdC; omega), hk (29 + q) 4 (by unfold tdC; omega)]; exact h.1 p q hp hq, fun p h1 h2 => by rw [hk (29 + p) 4 (by unfold tdC; omega)]; exact h.2.1 p h1 h2, fun s hs => by rw [hk (39 + s) 1 (by unfold tdC; omega)]; exact h.2.2 s hs⟩
theorem CI.of {W : Nat} (O : Ok σ P B W T) (K : Pk σ P) (F : Fe σ P) : CI σ P B T := ⟨W, O, K, F⟩
theorem CI.hP (C : CI σ P B T) : P ≤ 10 := by obtain ⟨W, O, -⟩ := C; exact O.hP
theorem CI.hB (C : CI σ P B T) : B ≤ 6 := by obtain ⟨W, O, -⟩ := C; exact O.hB
theorem CI.hT (C : CI σ P B T) : T ≤ 365 := by obtain ⟨W, O, -⟩ := C; exact O.hT
theorem CI.fe (C : CI σ P B T) : Fe σ P := by obtain ⟨W, O, K, F⟩ := C; exact F
theorem CI.scr (C : CI σ P B T) (h : Scr σ τ) : CI τ P B T := by obtain ⟨W, O, K, F⟩ := C; exact ⟨W, O.scr h, K.scr h, F.tk (Tk.scr h)⟩
/-- learn -/
theorem cs_learn (C : CI σ P B T) (hO : (∀ p, p < P → a ≠ nI p) → pex xIO σ) (hA : ∀ p, p < P → a = nI p → ¬ (0 ≤ b ∧ b < 65536) → pex xIA σ)
    (h : ∀ p, p < P → a = nI p → 0 ≤ b ∧ b < 65536 → ∀ τ, τ = up2 σ (29 + p) 1 (σ (29 + p) 1 ||| b) → CI τ P B T → post (bcI (σ (29 + p) 1 ||| b)) τ) : w_T_X7_learn post pex σ a b := by
  obtain ⟨W, O, K, F⟩ := C
  refine law_T_learn O hO hA (fun p hp e ok => h p hp e ok _ rfl (.of (O.up (by have := O.hP; unfold okPl; omega)) (K.kw (Kw.up (Or.inl (by have := O.hP; omega)))) ⟨fun p q hp hq => ?_, fun p h1 h2 => ?_, fun s hs => ?_⟩))
  · rw [up2_off (by omega), up2_off (by omega)]; exact F.1 p q hp hq
  · rw [up2_off (by omega)]; exact F.2.1 p h1 h2
  · rw [up2_off (by have := O.hP; omega)]; exact F.2.2 s hs
theorem cs_song (C : CI σ P B T) (hO : (∀ s, s < 16 → a ≠ nI s) → pex xIO σ) (hA : ∀ s, s < 16 → a = nI s → ¬ sgOk b c d → pex xIA σ)
    (h : ∀ s, s < 16 → a = nI s → sgOk b c d → ∀ τ, τ = songS σ s b c d → CI τ P B T → post (σ (39 + s) 2) τ) : w_T_X7_song post pex σ a b c d := by
  obtain ⟨W, O, K, F⟩ := C
  refine law_T_song hO hA (fun s hs e ok => h s hs e ok _ rfl (.of (O.song hs) (((K.kw (Kw.up (Or.inl (by omega)))).kw (Kw.up (Or.inl (by omega)))).kw (Kw.up (Or.inl (by omega)))) ⟨fun p q hp hq => ?_, fun p h1 h2 => ?_, fun i hi => ?_⟩))
  · unfold songS
    rw [up2_off (by omega), up2_off (by omega), up2_off (by omega), up2_off (by omega), up2_off (by omega), up2_off (by omega)]; exact F.1 p q hp hq
  · unfold songS
    rw [up2_off (by omega), up2_off (by omega), up2_off (by omega)]; exact F.2.1 p h1 h2
  · unfold songS
    rw [up2_off (by omega)]
    by_cases z : i = s
    · subst z
      rw [up2_same]
      obtain ⟨en, hn, rfl⟩ := nI_of ok.2.2.1
      refine ⟨en, ?_, rfl⟩
      rcases Nat.lt_or_ge en 10 with d | d
      · exact d
      · exact absurd (show nI 10 ≤ nI en from nI_le0 d hn) ok.2.2.2.1
    · rw [up2_off (by omega), up2_off (by omega)]
      exact F.2.2 i hi
/-- the feuds as they are told -/
theorem feudS_is {p q : Nat} (F : Fe σ P) (hP : P ≤ 10) (hp : p < P) (hq : q < P) (hne : p ≠ q) (hc : c = 0 ∨ c = 1) : feudS σ p q (b01 (bt (σ (29 + p) 4) q)) c = up2 (up2 σ (29 + p) 4 (fdV (σ (29 + p) 4) q c)) (29 + q) 4 (fdV (σ (29 + q) 4) p c) := by
  have sy := F.1 p q (by omega) (by omega)
  unfold feudS
  by_cases z : b01 (bt (σ (29 + p) 4) q) = c
  · rw [if_pos z]
    have e : bt (σ (29 + p) 4) q = !decide (c = 0) := by
      rw [← z]
      cases bt (σ (29 + p) 4) q <;> decide
    rw [fdV_id (by omega) e, fdV_id (by omega) (sy.symm.trans e)]
    funext k j
    by_cases y : k = 29 + q ∧ j = 4
    · obtain ⟨rfl, rfl⟩ := y
      rw [up2_same]
    · rw [up2_off y]
      by_cases x : k = 29 + p ∧ j = 4
      · obtain ⟨rfl, rfl⟩ := x
        rw [up2_same]
      · rw [up2_off x]
  · rw [if_neg z]
    have e : bt (σ (29 + p) 4) q = decide (c = 0) := by
      rcases hc with rfl | rfl
      · cases y : bt (σ (29 + p) 4) q with
        | true => rfl
        | false => rw [y] at z; exact absurd rfl z
      · cases y : bt (σ (29 + p) 4) q with
        | false => rfl
        | true => rw [y] at z; exact absurd rfl z
    rw [fdV_xor (by omega) e, fdV_xor (by omega) (sy.symm.trans e)]
theorem cs_feud (C : CI σ P B T) (hc : c = 0 ∨ c = 1) (hO : ((∀ p, p < P → a ≠ nI p) ∨ (∀ p, p < P → b ≠ nI p)) → pex xIO σ) (hA : ∀ p, p < P → a = nI p → b = nI p → pex xIA σ)
    (h : ∀ p q, p < P → q < P → a = nI p → b = nI q → p ≠ q → ∀ τ, τ = up2 (up2 σ (29 + p) 4 (fdV (σ (29 + p) 4) q c)) (29 + q) 4 (fdV (σ (29 + q) 4) p c) → CI τ P B T → post (b01 (bt (σ (29 + p) 4) q)) τ) : w_T_X7_feud post pex σ a b c := by
  obtain ⟨W, O, K, F⟩ := C
  have hP := O.hP
  refine law_T_feud O hO hA (fun p q hp hq ea eb hne => h p q hp hq ea eb hne _ (feudS_is F hP hp hq hne hc) (.of (O.feud (by omega) (by omega)) ?_ ?_))
  · unfold feudS
    split
    · exact K
    · exact (K.kw (Kw.up (Or.inl (by omega)))).kw (Kw.up (Or.inl (by omega)))
  · rw [feudS_is F hP hp hq hne hc]
    have g : ∀ i, up2 (up2 σ (29 + p) 4 (fdV (σ (29 + p) 4) q c)) (29 + q) 4 (fdV (σ (29 + q) 4) p c) (29 + i) 4 = if i = q then fdV (σ (29 + q) 4) p c else if i = p then fdV (σ (29 + p) 4) q c else σ (29 + i) 4 := fun i => by
      by_cases y : i = q
      · subst y; rw [up2_same, if_pos rfl]
      · rw [up2_off (by omega), if_neg y]
        by_cases x : i = p
        · subst x; rw [up2_same, if_pos rfl]
        · rw [up2_off (by omega), if_neg x]
    refine ⟨fun u v hu hv => ?_, fun u h1 h2 => ?_, fun s hs => ?_⟩
    · rw [g, g]
      have s1 := F.1 u v hu hv
      have s2 := F.1 u q hu (by omega)
      have s3 := F.1 v q hv (by omega)
      have s4 := F.1 u p hu (by omega)
      have s5 := F.1 v p hv (by omega)
      by_cases uq : u = q
      · by_cases vq : v = q
        · rw [uq, vq]
        · by_cases vp : v = p
          · rw [if_pos uq, if_neg vq, if_pos vp, fdV_bt (by omega) (by omega), fdV_bt (by omega) (by omega), if_pos vp, if_pos uq]
          · rw [if_pos uq, if_neg vq, if_neg vp, fdV_bt (by omega) (by omega), if_neg vp, ← uq]; exact s1
      · by_cases up : u = p
        · by_cases vq : v = q
          · rw [if_neg uq, if_pos up, if_pos vq, fdV_bt (by omega) (by omega), fdV_bt (by omega) (by omega), if_pos vq, if_pos up]
          · by_cases vp : v = p
            · rw [up, vp]
            · rw [if_neg uq, if_pos up, if_neg vq, if_neg vp, fdV_bt (by omega) (by omega), if_neg vq, ← up]; exact s1
        · by_cases vq : v = q
          · rw [if_neg uq, if_neg up, if_pos vq, fdV_bt (by omega) (by omega), if_neg up, ← vq]; exact s1
          · by_cases vp : v = p
            · rw [if_neg uq, if_neg up, if_neg vq, if_pos vp, fdV_bt (by omega) (by omega), if_neg uq, ← vp]; exact s1
            · rw [if_neg uq, if_neg up, if_neg vq, if_neg vp]; exact s1
    · rw [g, if_neg (by omega), if_neg (by omega)]; exact F.2.1 u h1 h2
    · rw [up2_off (by omega), up2_off (by omega)]; exact F.2.2 s hs
theorem kw_shB (x : MS) (o a i : Nat) (ha : a < 50) : Kw x (shB x o a i) := by
  unfold shB
  split
  · exact Kw.rf x
  · exact Kw.up (Or.inl (by omega))
theorem kw_shA (x : MS) (o a : Nat) (ha : a < 50) : ∀ n, Kw x (shA x o a n)
  | 0 => Kw.rf x
  | n + 1 => (kw_shA x o a ha n).tr (kw_shB _ o a n ha)
theorem kw_shO (x : MS) (o : Nat) : ∀ n, n ≤ 6 → Kw x (shO x o n)
  | 0, _ => Kw.rf x
  | n + 1, h => (kw_shO x o n (by omega)).tr (kw_shA _ o n (by omega) 6)
theorem kw_ov (x : MS) : ∀ n, Kw x (ovS x n)
  | 0 => Kw.rf x
  | n + 1 => (kw_ov x n).tr (kw_shO _ n 6 (by decide))
theorem kw_lyB (x : MS) {a : Nat} (ha : a < 6) : ∀ n, Kw x (lyB x a n)
  | 0 => Kw.rf x
  | n + 1 => (kw_lyB x ha n).tr (Kw.up (Or.inl (by omega)))
theorem kw_lyA (x : MS) : ∀ n, n ≤ 6 → Kw x (lyA x n)
  | 0, _ => Kw.rf x
  | n + 1, h => (kw_lyA x n (by omega)).tr (kw_lyB _ (by omega) 6)
theorem kw_lay (x : MS) {i j : Nat} {h : Int32} (hi : i < 6) (hj : j < 6) : Kw x (layS x i j h) := ((((Kw.up (Or.inl (by omega))).tr (Kw.up (Or.inl (by omega)))).tr (kw_lyA _ 6 (by decide))).tr (kw_ov _ 6))
theorem kw_tkI (x : MS) (b k : Nat) (hb : b < 6) : ∀ n, Kw x (tkI x b k n)
  | 0 => Kw.rf x
  | n + 1 => by
    have ih := kw_tkI x b k hb n
    unfold tkI
    split
    · exact ih
    · exact (ih.tr (Kw.up (Or.inl (by omega)))).tr (Kw.up (Or.inl (by omega)))
theorem kw_tkO (x : MS) (b : Nat) (a : Int32) (hb : b < 6) : ∀ n, Kw x (tkO x b a n).1
  | 0 => Kw.rf x
  | n + 1 => ((kw_tkO x b a hb n).tr (Kw.up (Or.inl (by omega)))).tr (kw_tkI _ b n hb _)
theorem kw_band (x : MS) {B m : Nat} (hB : B < 6) : Kw x (bandS x B m) := (kw_tkO x B _ hB 6).tr (Kw.up (Or.inl (by decide)))
theorem tk_shB (x : MS) (o : Nat) {a : Nat} (i : Nat) (ha : a < 6) : ∀ p j, p < 10 → shB x o a i (29 + p) j = x (29 + p) j := fun p j hp => by
  unfold shB
  split
  · rfl
  · exact up2_off (by omega)
theorem tk_shA (x : MS) (o : Nat) {a : Nat} (ha : a < 6) : ∀ n p j, p < 10 → shA x o a n (29 + p) j = x (29 + p) j
  | 0, _, _, _ => rfl
  | n + 1, p, j, hp => (tk_shB _ o n ha p j hp).trans (tk_shA x o ha n p j hp)
theorem tk_shO (x : MS) (o : Nat) : ∀ n, n ≤ 6 → ∀ p j, p < 10 → shO x o n (29 + p) j = x (29 + p) j
  | 0, _, _, _, _ => rfl
  | n + 1, h, p, j, hp => (tk_shA _ o (by omega) 6 p j hp).trans (tk_shO x o n (by omega) p j hp)
theorem tk_ov (x : MS) : ∀ n p j, p < 10 → ovS x n (29 + p) j = x (29 + p) j
  | 0, _, _, _ => rfl
  | n + 1, p, j, hp => (tk_shO _ n 6 (by decide) p j hp).trans (tk_ov x n p j hp)
theorem tk_lyB (x : MS) {a : Nat} (ha : a < 6) : ∀ n p j, p < 10 → lyB x a n (29 + p) j = x (29 + p) j
  | 0, _, _, _ => rfl
  | n + 1, p, j, hp => (up2_off (by omega)).trans (tk_lyB x ha n p j hp)
theorem tk_lyA (x : MS) : ∀ n, n ≤ 6 → ∀ p j, p < 10 → lyA x n (29 + p) j = x (29 + p) j
  | 0, _, _, _, _ => rfl
  | n + 1, h, p, j, hp => (tk_lyB _ (by omega) 6 p j hp).trans (tk_lyA x n (by omega) p j hp)
theorem tk_lay (x : MS) {i j : Nat} {h : Int32} (hi : i < 6) (hj : j < 6) (p k : Nat) (hp : p < 10) : layS x i j h (29 + p) k = x (29 + p) k := ((tk_ov _ 6 p k hp).trans (tk_lyA _ 6 (by decide) p k hp)).trans ((up2_off (by omega)).trans (up2_off (by omega)))
/-- .. and songs -/
theorem tl_lay (x : MS) {i j : Nat} {h : Int32} (hi : i < 6) (hj : j < 6) (s k : Nat) : layS x i j h (39 + s) k = x (39 + s) k := by
  have b1 : ∀ (y : MS) (o a n : Nat), a < 6 → shB y o a n (39 + s) k = y (39 + s) k := fun y o a n ha => by
    unfold shB
    split
    · rfl
    · exact up2_off (by omega)
  have b2 : ∀ (y : MS) (o a : Nat), a < 6 → ∀ n, shA y o a n (39 + s) k = y (39 + s) k := fun y o a ha n => by
    induction n with
    | zero => rfl
    | succ n ih => exact (b1 _ o a n ha).trans ih
  have b3 : ∀ (y : MS) (o : Nat), ∀ n, n ≤ 6 → shO y o n (39 + s) k = y (39 + s) k := fun y o n => by
    induction n with
    | zero => intro _; rfl
    | succ n ih => intro hn; exact (b2 _ o n (by omega) 6).trans (ih (by omega))
  have b4 : ∀ (y : MS), ∀ n, ovS y n (39 + s) k = y (39 + s) k := fun y n => by
    induction n with
    | zero => rfl
    | succ n ih => exact (b3 _ n 6 (by decide)).trans ih
  have b5 : ∀ (y : MS) (a : Nat), a < 6 → ∀ n, lyB y a n (39 + s) k = y (39 + s) k := fun y a ha n => by
    induction n with
    | zero => rfl
    | succ n ih => exact (up2_off (by omega)).trans ih
  have b6 : ∀ (y : MS), ∀ n, n ≤ 6 → lyA y n (39 + s) k = y (39 + s) k := fun y n => by
    induction n with
    | zero => intro _; rfl
    | succ n ih => intro hn; exact (b5 _ n (by omega) 6).trans (ih (by omega))
  exact ((b4 _ 6).trans (b6 _ 6 (by decide))).trans ((up2_off (by omega)).trans (up2_off (by omega)))
theorem Tk.band (x : MS) {B m : Nat} (hB : B < 6) : Tk x (bandS x B m) := by
  have i1 : ∀ k n, Tk x (tkI x B k n) := fun k n => by
    induction n with
    | zero => exact Tk.rf x
    | succ n ih =>
      unfold tkI
      split
      · exact ih
      · exact (ih.tr (Tk.up (by unfold tdC; omega))).tr (Tk.up (by unfold tdC; omega))
  have i2 : ∀ (y : MS) k n, Tk y (tkI y B k n) := fun y k n => by
    induction n with
    | zero => exact Tk.rf y
    | succ n ih =>
      unfold tkI
      split
      · exact ih
      · exact (ih.tr (Tk.up (by unfold tdC; omega))).tr (Tk.up (by unfold tdC; omega))
  have i3 : ∀ n, Tk x (tkO x B (nI m) n).1 := fun n => by
    induction n with
    | zero => exact Tk.rf x
    | succ n ih => exact (ih.tr (Tk.up (by unfold tdC; omega))).tr (i2 _ n _)
  exact (i3 6).tr (Tk.up (by unfold tdC; omega))
theorem cs_road (C : CI σ P B T) (hO : ((∀ p, p < 6 → a ≠ nI p) ∨ (∀ p, p < 6 → b ≠ nI p)) → pex xIO σ) (hA : ∀ i j, i < 6 → j < 6 → a = nI i → b = nI j → ¬ rdOk a b c → pex xIA σ)
    (h : ∀ i j, i < 6 → j < 6 → a = nI i → b = nI j → rdOk a b c → ∀ τ, τ = layS σ i j c → CI τ P B T → post (layS σ i j c (23 + i) j) τ) : w_T_X7_road post pex σ a b c := by
  obtain ⟨W, O, K, F⟩ := C
  refine law_T_road hO hA (fun i j hi hj ea eb ok => h i j hi hj ea eb ok _ rfl (.of (O.kp (Kp.lay σ hi hj)) (K.kw (kw_lay σ hi hj)) ⟨fun p q hp hq => ?_, fun p h1 h2 => ?_, fun s hs => ?_⟩))
  · rw [tk_lay σ hi hj p 4 hp, tk_lay σ hi hj q 4 hq]; exact F.1 p q hp hq
  · rw [tk_lay σ hi hj p 4 h2]; exact F.2.1 p h1 h2
  · rw [tl_lay σ hi hj s 1]; exact F.2.2 s hs
theorem cs_band (C : CI σ P B T) (hA : (∀ m, 1 ≤ m → m ≤ 728 → a = nI m → ¬ (szI (nI m) 6).1 ≤ 5) → pex xIA σ) (hS : ∀ m, 1 ≤ m → m ≤ 728 → a = nI m → (szI (nI m) 6).1 ≤ 5 → 6 ≤ B → pex xIS σ)
    (h : ∀ m, 1 ≤ m → m ≤ 728 → a = nI m → (szI (nI m) 6).1 ≤ 5 → B < 6 → ∀ τ, CI τ P (B + 1) T → Tk σ τ → post (nI B) τ) : w_T_X7_band post pex σ a := by
  obtain ⟨W, O, K, F⟩ := C
  exact law_T_band O hA hS (fun m h1 h2 e ok hB => h m h1 h2 e ok hB _ (.of (O.band1 hB) (K.kw (kw_band σ hB)) (F.tk (Tk.band σ hB))) (Tk.band σ hB))
theorem tk_ask {σ : MS} {W : Nat} (b d t s l g : Int32) : Tk σ (askS σ W b d t s l g) := ((((((((Tk.up (by unfold tdC; omega)).tr (Tk.up (by unfold tdC; omega))).tr (Tk.up (by unfold tdC; omega))).tr (Tk.up (by unfold tdC; omega))).tr (Tk.up (by unfold tdC; omega))).tr (Tk.up (by unfold tdC; omega))).tr (Tk.up (by unfold tdC; omega))).tr (Tk.up (by unfold tdC; omega)))
theorem cs_ask (C : CI σ P B T) (hO : pex xIO σ) (hA : pex xIA σ) (hS : pex xIS σ) (h : ∀ v τ, CI τ P B T → Tk σ τ → post v τ) : w_T_X7_ask post pex σ a b c d e f := by
  obtain ⟨W, O, K, F⟩ := C
  refine law_T_ask O (fun _ => hO) (fun _ _ _ => hA) (fun _ _ _ _ => hS) (fun hb ht ok hW _ => h _ _ (.of (O.ask hb ht ok hW) ?_ (F.tk (tk_ask _ _ _ _ _ _))) (tk_ask _ _ _ _ _ _))
  unfold askS
  exact K.kw ((((((((Kw.up (Or.inr (by decide))).tr (Kw.up (Or.inr (by decide)))).tr (Kw.up (Or.inr (by decide)))).tr (Kw.up (Or.inr (by decide)))).tr (Kw.up (Or.inr (by decide)))).tr (Kw.up (Or.inr (by decide)))).tr (Kw.up (Or.inr (by decide)))).tr (Kw.up (Or.inl (by decide))))
theorem cs_fix (C : CI σ P B T) (hO : pex xIO σ) (hS : ∀ τ, CI τ P B T → Tk σ τ → pex xIS τ) (h : ∀ v τ, CI τ P B T → Tk σ τ → post v τ) : w_T_X7_fix post pex σ a := by
  have C0 := C
  obtain ⟨W, O, K, F⟩ := C
  exact law_T_fix O (fun _ => hO) (fun _ _ _ _ => hS _ C0 (Tk.rf σ)) (fun w _ _ _ _ => hS _ (C0.scr (Scr.sn σ w P W)) (Tk.scr (Scr.sn σ w P W))) (fun w hw _ _ hc => h _ _ (.of (O.fix (by have := O.hW; omega)) (K.fix O.hP hc) (F.tk (Tk.fix σ w P W))) (Tk.fix σ w P W))
theorem cs_cancel (C : CI σ P B T) (hO : pex xIO σ) (hS : pex xIS σ) (h : ∀ v τ, CI τ P B T → Tk σ τ → post v τ) : w_T_X7_cancel post pex σ a := by
  obtain ⟨W, O, K, F⟩ := C
  exact law_T_cancel O (fun _ => hO) (fun _ _ _ _ => hS) (fun w hw _ _ => h _ _ (.of (O.can (by have := O.hW; omega)) K.can (F.tk (Tk.can σ w))) (Tk.can σ w))
theorem cs_ill (C : CI σ P B T) (hO : pex xIO σ) (hA : pex xIA σ) (h : ∀ v τ, CI τ P B T → Tk σ τ → post v τ) : w_T_X7_ill post pex σ a b := by
  obtain ⟨W, O, K, F⟩ := C
  refine law_T_ill O (fun _ => hO) (fun _ _ _ _ => hA) (fun p d _ _ _ _ _ => h _ _ (.of (Ok.ill (O.off (p := p) (d := d)) W O.hW) (Pk.ill (W := W) ?_ (fun j hj => ?_) W (Nat.le_refl _)) (F.tk ((Tk.off σ P W p d).tr (Tk.ill _ p (nI d) W)))) ((Tk.off σ P W p d).tr (Tk.ill _ p (nI d) W)))
  · exact (K.scr (Scr.sw σ P W p (nI d) W)).kw (Kw.up (Or.inl (by decide)))
  · unfold offS
    rw [up2_ne (by decide)]
    exact sw_in O.hP K O.hW W j hj
theorem cs_late (C : CI σ P B T) (hO : pex xIO σ) (hA : pex xIA σ) (hS : pex xIS σ) (h : ∀ v τ, CI τ P B T → Tk σ τ → post v τ) : w_T_X7_late post pex σ a b := by
  obtain ⟨W, O, K, F⟩ := C
  exact law_T_late O (fun _ => hO) (fun _ _ _ _ => hA) (fun _ _ _ _ _ => hS) (fun w hw _ _ _ => h _ _ (.of (O.up (by have := O.hW; unfold okPl; omega)) (K.kw (Kw.up (Or.inr (by decide)))) (F.tk (Tk.up (by unfold tdC; omega)))) (Tk.up (by unfold tdC; omega)))
theorem cs_pass (C : CI σ P B T) (hA : (∀ d, 1 ≤ d → d ≤ 60 → a ≠ nI d) → pex xIA σ) (hS : ∀ d, 1 ≤ d → d ≤ 60 → a = nI d → 365 < T + d → pex xIS σ)
    (h : ∀ d, 1 ≤ d → d ≤ 60 → a = nI d → T + d ≤ 365 → ∀ τ, CI τ P B (T + d) → Tk σ τ → post (nI (T + d)) τ) : w_T_X7_pass post pex σ a := by
  obtain ⟨W, O, K, F⟩ := C
  exact law_T_pass O hA hS (fun d h1 h2 e hd => h d h1 h2 e hd _ (.of (ok_psS O d hd) (K.kw (kw_psS σ P W d)) (F.tk (tk_psS σ P W d))) (tk_psS σ P W d))
theorem cs_ofPlayer (C : CI σ P B T) (hO : pex xIO σ) (hA : pex xIA σ) (h : ∀ v τ, CI τ P B T → Tk σ τ → post v τ) : w_T_X7_ofPlayer post pex σ a b := by
  have C0 := C
  obtain ⟨W, O, K, F⟩ := C
  exact law_T_ofPlayer O (fun _ => hO) (fun _ _ _ _ => hA) (fun _ _ _ _ _ _ => h _ _ C0 (Tk.rf σ))
theorem cs_ofSong (C : CI σ P B T) (hO : pex xIO σ) (hA : pex xIA σ) (h : ∀ v τ, CI τ P B T → Tk σ τ → post v τ) : w_T_X7_ofSong post pex σ a b := by
  have C0 := C
  obtain ⟨W, O, K, F⟩ := C
  exact law_T_ofSong O (fun _ => hO) (fun _ _ _ _ => hA) (fun _ _ _ _ _ _ => h _ _ C0 (Tk.rf σ))
theorem cs_ofBand (C : CI σ P B T) (hO : pex xIO σ) (hA : pex xIA σ) (h : ∀ v τ, CI τ P B T → Tk σ τ → post v τ) : w_T_X7_ofBand post pex σ a b := by
  have C0 := C
  obtain ⟨W, O, K, F⟩ := C
  exact law_T_ofBand O (fun _ => hO) (fun _ _ _ _ => hA) (fun _ _ _ _ _ _ => h _ _ C0 (Tk.rf σ))
theorem cs_ofWedding (C : CI σ P B T) (hO : pex xIO σ) (hA : pex xIA σ) (h : ∀ v τ, CI τ P B T → Tk σ τ → post v τ) : w_T_X7_ofWedding post pex σ a b := by
  have C0 := C
  obtain ⟨W, O, K, F⟩ := C
  exact law_T_ofWedding O (fun _ => hO) (fun _ _ _ _ => hA) (fun _ _ _ _ _ _ => h _ _ C0 (Tk.rf σ))
theorem cs_drive (C : CI σ P B T) (hO : ((∀ p, p < 6 → a ≠ nI p) ∨ (∀ p, p < 6 → b ≠ nI p)) → pex xIO σ) (h : ∀ i j, i < 6 → j < 6 → a = nI i → b = nI j → post (σ (23 + i) j) σ) : w_T_X7_drive post pex σ a b := law_T_drive hO h
theorem cs_free (C : CI σ P B T) (hO : pex xIO σ) (h : ∀ v τ, CI τ P B T → Tk σ τ → post v τ) : w_T_X7_free post pex σ a b := by
  have C0 := C
  obtain ⟨W, O, K, F⟩ := C
  exact law_T_free O (fun _ => hO) (fun _ _ _ _ _ _ => h _ _ (C0.scr (Scr.stg σ W)) (Tk.scr (Scr.stg σ W)))
theorem cs_filling (C : CI σ P B T) (hO : pex xIO σ) (hA : pex xIA σ) (h : ∀ v τ, CI τ P B T → Tk σ τ → post v τ) : w_T_X7_filling post pex σ a b := by
  have C0 := C
  obtain ⟨W, O, K, F⟩ := C
  exact law_T_filling O (fun _ => hO) (fun _ _ _ _ => hA) (fun w _ _ _ _ _ => h _ _ (C0.scr (Scr.sn σ w P W)) (Tk.scr (Scr.sn σ w P W)))
theorem cs_set (C : CI σ P B T) (hA : pex xIA σ) (h : ∀ v τ, CI τ P B T → Tk σ τ → post v τ) : w_T_X7_set post pex σ a b := by
  have C0 := C
  obtain ⟨W, O, K, F⟩ := C
  exact law_T_set O (fun _ => hA) (fun _ _ => h _ _ (C0.scr (Scr.set _ _ _)) (Tk.scr (Scr.set _ _ _)))
theorem cs_desk (C : CI σ P B T) (hA : pex xIA σ) (h : ∀ v τ, CI τ P B T → Tk σ τ → post v τ) : w_T_X7_desk post pex σ a := by
  have C0 := C
  obtain ⟨W, O, K, F⟩ := C
  exact law_T_desk O (fun _ => hA) (fun _ _ _ => h _ _ C0 (Tk.rf σ))
theorem cs_wouldLose (C : CI σ P B T) (hO : pex xIO σ) (hA : pex xIA σ) (h : ∀ v τ, CI τ P B T → Tk σ τ → post v τ) : w_T_X7_wouldLose post pex σ a b := by
  have C0 := C
  obtain ⟨W, O, K, F⟩ := C
  exact law_T_wouldLose O (fun _ => hO) (fun _ _ _ _ => hA) (fun p d _ _ _ _ _ => h _ _ (C0.scr (Scr.sw σ P W p (nI d) W)) (Tk.scr (Scr.sw σ P W p (nI d) W)))
theorem cs_plan (C : CI σ P B T) (hA : pex xIA σ) (h : ∀ v τ, CI τ P B T → Tk σ τ → post v τ) : w_T_X7_plan post pex σ a b := by
  have C0 := C
  obtain ⟨W, O, K, F⟩ := C
  exact law_T_plan O (fun _ => hA) (fun _ _ _ => h _ _ (C0.scr (Scr.pl σ P W _ _)) (Tk.scr (Scr.pl σ P W _ _)))
theorem cs_wouldCancel (C : CI σ P B T) (hO : pex xIO σ) (hS : pex xIS σ) (h : ∀ v τ, CI τ P B T → Tk σ τ → post v τ) : w_T_X7_wouldCancel post pex σ a := by
  have C0 := C
  obtain ⟨W, O, K, F⟩ := C
  exact law_T_wouldCancel O (fun _ => hO) (fun _ _ _ _ => hS) (fun _ _ _ _ => h _ _ C0 (Tk.rf σ))
theorem cs_key (C : CI σ P B T) (hO : pex xIO σ) (h : ∀ v τ, CI τ P B T → Tk σ τ → post v τ) : w_T_X7_key post pex σ a := by
  have C0 := C
  obtain ⟨W, O, K, F⟩ := C
  exact law_T_key O (fun _ => hO) (fun w _ _ => h _ _ (C0.scr (Scr.sn σ w P W)) (Tk.scr (Scr.sn σ w P W)))
theorem cs_isSound (C : CI σ P B T) (h : ∀ v τ, CI τ P B T → Tk σ τ → post v τ) : w_X7_isSound post σ := by
  have C0 := C
  obtain ⟨W, O, K, F⟩ := C
  exact law_isSound O (h _ _ C0 (Tk.rf σ))
theorem cs_digest {post : Int64 → MS → Prop} (C : CI σ P B T) (h : ∀ v τ, CI τ P B T → Tk σ τ → post v τ) : w_N_X7_digest post σ := by
  have C0 := C
  obtain ⟨W, O, K, F⟩ := C
  exact law_N_digest O (K.ok O.hW) (fun τ hs => h _ _ (C0.scr hs) (Tk.scr hs))
theorem vp_nat {x : Int32} {n : Nat} (h : vp_in x n) (hn : n < 2 ^ 31) : ∃ v, v < n ∧ x = nI v := by
  have h0 : ¬ x < 0 := fun z => h (Or.inl z)
  obtain ⟨v, hv, rfl⟩ := nI_of h0
  have := vlt h
  rw [nI_clamp (by omega)] at this
  exact ⟨v, this, rfl⟩
theorem cs_tell {post : MS → Prop} (C : CI σ P B T) (hO : pex xIO σ) (h : ∀ τ, CI τ P B T → Tk σ τ → post τ) : w_T_X7_tell post pex σ a := by
  have C0 := C
  obtain ⟨W, O, K, F⟩ := C
  have hW := O.hW
  unfold w_T_X7_tell
  refine law_T_checkWedding O (fun w hw ew => ?_) (fun _ => hO)
  obtain ⟨dd, hd, ed⟩ := vp_nat (O.day w (by omega)) (by decide)
  obtain ⟨t, ht, et⟩ := vp_nat (O.town w (by omega)) (by decide)
  exact ⟨w, dd, t, P, by omega, ew, by omega, ed, by omega, et, O.hP, O.h6, h _ C0 (Tk.rf σ)⟩
theorem cs_songs {post : MS → Prop} (C : CI σ P B T) (hO : pex xIO σ) (h : ∀ τ, CI τ P B T → Tk σ τ → post τ) : w_T_X7_songs post pex σ a := by
  have C0 := C
  obtain ⟨W, O, K, F⟩ := C
  have hW := O.hW
  unfold w_T_X7_songs
  refine law_T_checkWedding O (fun w hw ew => ⟨w, by omega, ew, law_playableFor O.h6 O.hP (law_choose ?_)⟩) (fun _ => hO)
  obtain ⟨l, hl, el, hr⟩ := cho_row σ (playF σ (σ (73 + w) 8) P)
  refine ⟨l, hl, el, fun j hj => ?_, h _ (C0.scr (Scr.cho _ _)) (Tk.scr (Scr.cho _ _))⟩
  obtain ⟨v, hv, e⟩ := vp_nat (hr j hj) (by decide)
  exact ⟨v, by omega, e⟩
/-- player: which of the four it is -/
theorem cs_player (C : CI σ P B T)
    (hx : ¬ (0 ≤ c ∧ c < 6) → pex xIO σ) (hq : (0 ≤ c ∧ c < 6) → ¬ plOk a b d → pex xIA σ) (hf : (0 ≤ c ∧ c < 6) → plOk a b d → P = 10 → pex xIS σ)
    (h : ∀ τ, (0 ≤ c ∧ c < 6) → plOk a b d → P < 10 → τ = telP σ P a b c d → CI τ (P + 1) B T → post (nI P) τ) : w_T_X7_player post pex σ a b c d := by
  obtain ⟨W, O, K, F⟩ := C
  refine law_T_player O hx hq hf (fun h1 h2 h3 => h _ h1 h2 h3 rfl (.of (O.tel h1 h3) (fun w hw => inP_up h3 ?_) ⟨fun p q hp hq => ?_, fun p h4 h5 => ?_, fun s hs => ?_⟩))
  · unfold telP
    rw [up2_ne (by omega), up2_ne (by omega), up2_ne (by omega), up2_ne (by omega), up2_ne (by omega)]
    exact K w hw
  · unfold telP
    rw [up2_off (by omega), up2_off (by omega), up2_off (by omega), up2_off (by omega), up2_off (by omega), up2_off (by omega), up2_off (by omega), up2_off (by omega), up2_off (by omega), up2_off (by omega)]
    exact F.1 p q hp hq
  · unfold telP
    rw [up2_off (by omega), up2_off (by omega), up2_off (by omega), up2_off (by omega), up2_off (by omega)]
    exact F.2.1 p (by omega) h5
  · unfold telP
    rw [up2_off (by omega), up2_off (by omega), up2_off (by omega), up2_off (by omega), up2_off (by omega)]
    exact F.2.2 s hs
end CSAFE
end
section
/-! THE BEST SET, EXACTLY: what a best set is; the reference's is one -/
section BEST
variable {Tm : MS} {Γ : RG} {σ τ ρ : MS} {a a0 a1 a2 a3 a4 b c : Int32}
/-- k can follow the one that is last (any, if there is none) -/
def cB (ρ : MS) (last : Option Nat) (k : Nat) : Prop := match last with
  | none => True
  | some l => bhP ρ l k
/-- the most minutes from each song on -/
def gOk (ρ : MS) (PL : Nat → Prop) (G : Nat → Nat) : Prop := ∀ s, s < 16 → G s ≤ 144 ∧ (¬ PL s → G s = 0) ∧ (PL s → ∃ m r, ρ 9 s = nI m ∧ 2 ≤ m ∧ G s = m + r ∧ (∀ n, n < 16 → bhP ρ s n → G n ≤ r) ∧ (r = 0 ∨ ∃ n, n < 16 ∧ bhP ρ s n ∧ G n = r))
/-- the one to take next -/
def BN (ρ : MS) (PL : Nat → Prop) (G : Nat → Nat) (last : Option Nat) (j : Nat) : Prop := j < 16 ∧ PL j ∧ cB ρ last j ∧ ∀ k, k < 16 → PL k → cB ρ last k → G k < G j ∨ (G k = G j ∧ j ≤ k)
def lastO (R : Nat → Nat) (i : Nat) : Option Nat := if i = 0 then none else some (R (i - 1))
/-- a row that is the best -/
def rwOk (ρ : MS) (PL : Nat → Prop) (G : Nat → Nat) (len : Nat) (R : Nat → Nat) : Prop := (∀ i, i < len → BN ρ PL G (lastO R i) (R i)) ∧ ∀ k, k < 16 → PL k → ¬ cB ρ (lastO R len) k
theorem BN.uniq {PL : Nat → Prop} {G : Nat → Nat} {l : Option Nat} {i j : Nat} (h1 : BN ρ PL G l i) (h2 : BN ρ PL G l j) : i = j := by
  have a := h1.2.2.2 j h2.1 h2.2.1 h2.2.2.1
  have b := h2.2.2.2 i h1.1 h1.2.1 h1.2.2.1
  omega
theorem rwOk.eq {PL : Nat → Prop} {G : Nat → Nat} {n1 n2 : Nat} {R1 R2 : Nat → Nat} (h1 : rwOk ρ PL G n1 R1) (h2 : rwOk ρ PL G n2 R2) : n1 = n2 ∧ ∀ i, i < n1 → R1 i = R2 i := by
  have key : ∀ i, i < n1 → i < n2 → R1 i = R2 i := by
    intro i
    induction i with
    | zero => intro a b; exact (h1.1 0 a).uniq (h2.1 0 b)
    | succ i ih =>
      intro a b
      have e := ih (by omega) (by omega)
      have x := h1.1 (i + 1) a
      have y := h2.1 (i + 1) b
      have l1 : lastO R1 (i + 1) = some (R1 i) := if_neg (by omega)
      have l2 : lastO R2 (i + 1) = some (R2 i) := if_neg (by omega)
      rw [l1] at x
      rw [l2, ← e] at y
      exact x.uniq y
  have last : ∀ m, m ≤ n1 → m ≤ n2 → lastO R1 m = lastO R2 m := fun m a b => by
    unfold lastO
    by_cases z : m = 0
    · rw [if_pos z, if_pos z]
    · rw [if_neg z, if_neg z, key (m - 1) (by omega) (by omega)]
  have e : n1 = n2 := by
    rcases Nat.lt_trichotomy n1 n2 with d | d | d
    · have x := h2.1 n1 d
      rw [← last n1 (Nat.le_refl _) (by omega)] at x
      exact absurd x.2.2.1 (h1.2 _ x.1 x.2.1)
    · exact d
    · have x := h1.1 n2 d
      rw [last n2 (by omega) (Nat.le_refl _)] at x
      exact absurd x.2.2.1 (h2.2 _ x.1 x.2.1)
  exact ⟨e, fun i hi => key i hi (by omega)⟩
/-- a sum along a row of numbers -/
def rwSum (f : Nat → Int32) (R : Nat → Nat) : Nat → Int32
  | 0 => 0
  | n + 1 => rwSum f R n + f (R n)
theorem bx_in {post : Nat → (Nat → Int32) → MS → Prop} {K13 : MS → Int32 → Prop} {v4 : Int32} {s : Nat} {F : Nat → Nat} (hs : s < 16) (hF : ∀ n, n < 16 → τ 64 n = nI (F n) ∧ F n ≤ 144)
    (hK : ∀ r, (∀ n, n < 16 → bhP τ s n → F n ≤ r) → (r = 0 ∨ ∃ n, n < 16 ∧ bhP τ s n ∧ F n = r ∧ ¬ r = 0) → K13 (up2 τ 64 s (τ 9 s + nI r)) (v4 + 1)) : ∃ k, u_X11_bestSet_121 Γ post a1 K13 k τ v4 (nI s) 0 0 := by
  have cs : (nI s).toNatClampNeg = s := nI_clamp (by omega)
  have vs : vp_in (nI s) 16 := vp_in_nI hs (by decide)
  have := inv_loop (fun k (q : Int32 × Int32) => u_X11_bestSet_121 Γ post a1 K13 k τ v4 (nI s) q.1 q.2) (fun j q => q.2 = nI j ∧ ∃ r, q.1 = nI r ∧ r ≤ 144 ∧ (∀ n, n < j → bhP τ s n → F n ≤ r) ∧ (r = 0 ∨ ∃ n, n < 16 ∧ bhP τ s n ∧ F n = r ∧ ¬ r = 0)) 16 (by
    rintro ⟨x, v⟩ ⟨rfl, r, rfl, _, hm, hr⟩
    show u_X11_bestSet_121 Γ post a1 K13 1 τ v4 (nI s) (nI r) (nI 16)
    unfold u_X11_bestSet_121
    rw [cs]
    exact ⟨fun _ => ⟨vs, vs, hK r hm hr⟩, fun c => absurd (le_self (nI 16)) c⟩) (by
    rintro j k ⟨x, v⟩ hj ⟨rfl, r, rfl, hrb, hm, hr⟩ ih
    have cj : (nI j).toNatClampNeg = j := nI_clamp (by omega)
    have vj : vp_in (nI j) 16 := vp_in_nI hj (by decide)
    have nx : (bhP τ s j → F j ≤ r) → u_X11_bestSet_121 Γ post a1 K13 k τ v4 (nI s) (nI r) (nI j + 1) := fun hjr => by
      rw [nI_1]
      refine ih (nI r, nI (j + 1)) ⟨rfl, r, rfl, hrb, fun n hn hb => ?_, hr⟩
      rcases Nat.eq_or_lt_of_le (Nat.le_of_lt_succ hn) with z | z
      · subst z; exact hjr hb
      · exact hm n z hb
    have hFj := hF j hj
    show u_X11_bestSet_121 Γ post a1 K13 (k + 1) τ v4 (nI s) (nI r) (nI j)
    unfold u_X11_bestSet_121
    refine ⟨fun c => absurd (show nI 16 ≤ nI j from c) (nI_ge hj (by decide)), fun _ => ⟨vj, fun c => nx (fun _ => ?_), fun c => sf_bh hs hj rfl rfl (fun hb => ?_) (fun hb => ?_)⟩⟩
    · rw [cj, hFj.1] at c
      rcases Nat.lt_or_ge r (F j) with d | d
      · exact absurd c (nI_ge d (by omega))
      · exact d
    · have lt : r < F j := by
        rw [cj, hFj.1] at c
        rcases Nat.lt_or_ge r (F j) with d | d
        · exact d
        · exact absurd (nI_le' d (by omega)) c
      rw [mrg_self, cj]
      refine ⟨fun z => absurd z (by decide), fun _ => ⟨vj, ?_⟩⟩
      rw [hFj.1, nI_1 j]
      refine ih (nI (F j), nI (j + 1)) ⟨rfl, F j, rfl, hFj.2, fun n hn hb2 => ?_, Or.inr ⟨j, hj, hb, rfl, by omega⟩⟩
      rcases Nat.eq_or_lt_of_le (Nat.le_of_lt_succ hn) with z | z
      · subst z; exact Nat.le_refl _
      · have := hm n z hb2; omega
    · rw [mrg_self]
      exact ⟨fun _ => nx (fun z => absurd z hb), fun z => absurd rfl z⟩) 0 (by omega) (0, 0) ⟨nI_0.symm, 0, nI_0.symm, by omega, fun n hn => absurd hn (Nat.not_lt_zero _), Or.inl rfl⟩
  exact this
theorem bx_pick {post : Nat → (Nat → Int32) → MS → Prop} {K13 : MS → Int32 → Prop} {v4 : Int32} (hd : cnt (fun i => ¬ τ 65 i = 0) 16 < 16)
    (hK : ∀ s, s < 16 → τ 65 s = 0 → (∀ i, i < 16 → τ 65 i = 0 → ¬ lat τ s i) → w_X11_isKnown Γ (fun r19 σ18 => ((r19 = 0 → K13 (mrg σ18 (up2 τ 65 s (vp_nar .boolean 1))) (v4 + 1)) ∧ (¬ r19 = 0 → (∃ k, u_X11_bestSet_121 Γ post a1 K13 k (mrg σ18 (up2 τ 65 s (vp_nar .boolean 1))) v4 (nI s) 0 0)))) (up2 τ 65 s (vp_nar .boolean 1)) a1 (nI s)) : ∃ k, u_X11_bestSet_26 Γ post a1 K13 k τ v4 (-1) 0 := by
  have := inv_loop (fun k (q : Int32 × Int32) => u_X11_bestSet_26 Γ post a1 K13 k τ v4 q.1 q.2) (fun j q => q.2 = nI j ∧ ((q.1 = -1 ∧ ∀ i, i < j → ¬ τ 65 i = 0) ∨ ∃ s, s < j ∧ q.1 = nI s ∧ τ 65 s = 0 ∧ ∀ i, i < j → τ 65 i = 0 → ¬ lat τ s i)) 16 (by
    rintro ⟨x, v⟩ ⟨rfl, hx⟩
    rcases hx with ⟨_, hx⟩ | ⟨s, hs, rfl, h65, hl⟩
    · exact absurd (cnt_all 16 hx) (by omega)
    · have cs : (nI s).toNatClampNeg = s := nI_clamp (by omega)
      show u_X11_bestSet_26 Γ post a1 K13 1 τ v4 (nI s) (nI 16)
      unfold u_X11_bestSet_26
      rw [cs]
      exact ⟨fun _ => ⟨vp_in_nI hs (by decide), hK s hs h65 hl⟩, fun c => absurd (le_self (nI 16)) c⟩) (by
    rintro j k ⟨x, v⟩ hj ⟨rfl, hx⟩ ih
    have hx : (x = -1 ∧ ∀ i, i < j → ¬ τ 65 i = 0) ∨ ∃ s, s < j ∧ x = nI s ∧ τ 65 s = 0 ∧ ∀ i, i < j → τ 65 i = 0 → ¬ lat τ s i := hx
    have cj : (nI j).toNatClampNeg = j := nI_clamp (by omega)
    have vj : vp_in (nI j) 16 := vp_in_nI hj (by decide)
    have nj : τ 65 j = 0 → (∀ i, i < j → τ 65 i = 0 → ¬ lat τ j i) → u_X11_bestSet_26 Γ post a1 K13 k τ v4 (nI j) (nI j + 1) := fun h hl => by
      rw [nI_1]
      refine ih (nI j, nI (j + 1)) ⟨rfl, Or.inr ⟨j, by omega, rfl, h, fun i hi h65 => ?_⟩⟩
      rcases Nat.eq_or_lt_of_le (Nat.le_of_lt_succ hi) with z | z
      · subst z; exact lat_irrefl
      · exact hl i z h65
    have keep : ∀ s, s < j → x = nI s → τ 65 s = 0 → (∀ i, i < j → τ 65 i = 0 → ¬ lat τ s i) → (τ 65 j = 0 → ¬ lat τ s j) → u_X11_bestSet_26 Γ post a1 K13 k τ v4 x (nI j + 1) := fun s hs e h65 hl hn => by
      rw [nI_1]
      refine ih (x, nI (j + 1)) ⟨rfl, Or.inr ⟨s, by omega, e, h65, fun i hi hi65 => ?_⟩⟩
      rcases Nat.eq_or_lt_of_le (Nat.le_of_lt_succ hi) with z | z
      · subst z; exact hn hi65
      · exact hl i z hi65
    show u_X11_bestSet_26 Γ post a1 K13 (k + 1) τ v4 x (nI j)
    unfold u_X11_bestSet_26
    rw [cj]
    refine ⟨fun c => absurd (show nI 16 ≤ nI j from c) (nI_ge hj (by decide)), fun _ => ⟨vj, fun h => ?_, fun h => ?_⟩⟩
    · rcases hx with ⟨e, hx⟩ | ⟨s, hs, e, h65, hl⟩
      · exact ⟨fun _ => nj h (fun i hi h0 => absurd h0 (hx i hi)), fun c => absurd e c⟩
      · have cs : x.toNatClampNeg = s := by rw [e, nI_clamp (by omega)]
        have vx : vp_in x 16 := by rw [e]; exact vp_in_nI (by omega) (by decide)
        rw [cs]
        have take : (τ 8 s < τ 8 j ∨ τ 8 j = τ 8 s) → u_X11_bestSet_26 Γ post a1 K13 k τ v4 (nI j) (nI j + 1) := fun g => nj h (fun i hi h0 z => by
          refine hl i hi h0 ?_
          rcases z with z | ⟨_, z⟩
          · left
            rcases g with g | g
            · rw [Int32.lt_iff_toInt_lt] at *; omega
            · rw [← g]; exact z
          · omega)
        refine ⟨fun c => ?_, fun _ => ⟨vj, vx, fun c1 => take (Or.inl c1), fun c1 => ⟨vj, vx, fun c2 => ⟨fun c3 => ?_, fun _ => take (Or.inr c2)⟩, fun c2 => keep s hs e h65 hl (fun _ z => ?_)⟩⟩⟩
        · rw [e] at c
          exact absurd c (fun z => by
            have := nI_pos (n := s) (by omega)
            rw [z] at this
            exact this (by decide))
        · rw [e] at c3
          exact absurd c3 (nI_ge hs (by omega))
        · rcases z with z | ⟨z, _⟩
          · exact absurd z c1
          · exact c2 z
    · rcases hx with ⟨e, hx⟩ | ⟨s, hs, e, h65, hl⟩
      · rw [nI_1]
        refine ih (x, nI (j + 1)) ⟨rfl, Or.inl ⟨e, fun i hi => ?_⟩⟩
        rcases Nat.eq_or_lt_of_le (Nat.le_of_lt_succ hi) with z | z
        · rw [z]; exact h
        · exact hx i z
      · exact keep s hs e h65 hl (fun z => absurd z h)) 0 (by omega) (-1, 0) ⟨nI_0.symm, Or.inl ⟨rfl, fun i hi => absurd hi (by omega)⟩⟩
  exact this
theorem cnt_mono' {P Q : Nat → Prop} (h : ∀ i, i < 16 → P i → Q i) : cnt P 16 ≤ cnt Q 16 := cnt_mono 16 h
theorem bx_out {PL : Nat → Prop} {G : Nat → Nat} {post : Nat → (Nat → Int32) → MS → Prop} (hG : gOk ρ PL G) (h : ∀ len f τ R, (∀ k, k < 64 → τ k = ρ k) → rOk Tm Γ τ → len ≤ 16 → rwOk ρ PL G len R → (∀ i, i < len → R i < 16 ∧ f i = nI (R i)) → post len f τ) :
    ∀ d L : Nat, L ≤ d → ∀ (τ : MS) (many : Nat) (v7 : Int32) (R : Nat → Nat), rOk Tm Γ τ → (∀ k, k < 64 → τ k = ρ k) → (∀ s, s < 16 → τ 64 s = nI (G s)) → (∀ i, i < many → R i < 16 ∧ τ 66 i = nI (R i)) → (∀ i, i < many → BN ρ PL G (lastO R i) (R i)) →
      v7 = (if many = 0 then -1 else nI (R (many - 1))) → many + cnt (fun i => match lastO R many with | none => True | some l => lat ρ l i) 16 ≤ 16 → (∀ k, k < 16 → PL k → cB ρ (lastO R many) k → G k ≤ L) → (L = 0 ∨ ∃ s, s < 16 ∧ G s = L ∧ cB ρ (lastO R many) s) → u_X11_bestSet_222 Γ post a1 (d + 1) τ (nI L) (nI many) v7 := by
  intro d
  induction d with
  | zero =>
    intro L hL τ many v7 R O hlo hF hm hB hv hc hx hs
    obtain rfl : L = 0 := by omega
    have cm : (nI many).toNatClampNeg = many := nI_clamp (by omega)
    unfold u_X11_bestSet_222
    rw [cm]
    refine ⟨fun _ => ⟨many, rfl, by omega, ⟨nI_pos (by omega), by omega, by omega⟩, h _ _ _ R (fun k hk => by rw [rw0_ne (by omega), rw0_ne (by omega)]; exact hlo k hk) ((O.rw0 (by decide)).rw0 (by decide)) (by omega) ⟨hB, fun k hk hp hb => ?_⟩ (fun i hi => ⟨(hm i hi).1, ?_⟩)⟩, fun c => absurd (le_self (nI 0)) c⟩
    · have g0 := hx k hk hp hb
      obtain ⟨m, r, _, h2, h3, _⟩ := (hG k hk).2.2 hp
      omega
    · rw [rw0_eq, rw0_ne (by decide)]
      unfold va_cpy
      rw [if_pos (by omega)]
      simpa using (hm i hi).2
  | succ d ih =>
    intro L hL τ many v7 R O hlo hF hm hB hv hc hx hs
    have h7 := hlo 7 (by decide)
    have h8 := hlo 8 (by decide)
    have h9 := hlo 9 (by decide)
    have cm : (nI many).toNatClampNeg = many := nI_clamp (by omega)
    unfold u_X11_bestSet_222
    rw [cm]
    have fin0 : L = 0 → ∀ k, k < 16 → PL k → ¬ cB ρ (lastO R many) k := fun e k hk hp hb => by
      have g0 := hx k hk hp hb
      obtain ⟨m, r, _, h2, h3, _⟩ := (hG k hk).2.2 hp
      omega
    have hLs : L < 2 ^ 31 := by
      rcases hs with e | ⟨s, hs, e, _⟩
      · omega
      · have := (hG s hs).1; omega
    refine ⟨fun hle => ⟨many, rfl, by omega, ⟨nI_pos (by omega), by omega, by omega⟩, h _ _ _ R (fun k hk => by rw [rw0_ne (by omega), rw0_ne (by omega)]; exact hlo k hk) ((O.rw0 (by decide)).rw0 (by decide)) (by omega) ⟨hB, fin0 ?_⟩ (fun i hi => ⟨(hm i hi).1, ?_⟩)⟩, fun hL0 => ?_⟩
    · rcases Nat.eq_zero_or_pos L with e | e
      · exact e
      · exact absurd (show nI L ≤ nI 0 from hle) (nI_ge e hLs)
    · rw [rw0_eq, rw0_ne (by decide)]
      unfold va_cpy
      rw [if_pos (by omega)]
      simpa using (hm i hi).2
    have hLp : ¬ L = 0 := fun e => hL0 (by rw [e]; exact le_self _)
    have d262 : ∀ j, j < 16 → G j = L → cB ρ (lastO R many) j → (∀ i, i < j → ¬ (G i = L ∧ cB ρ (lastO R many) i)) → u_X11_bestSet_262 Γ post a1 (fun σ w0 w1 w2 => u_X11_bestSet_222 Γ post a1 (d + 1) σ w0 w1 w2) τ (nI L) (nI many) (nI j) := by
      intro j hj hGj hcj hfirst
      have cj : (nI j).toNatClampNeg = j := nI_clamp (by omega)
      have hPj : PL j := Classical.byContradiction fun z => hLp (hGj ▸ (hG j hj).2.1 z)
      obtain ⟨m, r, em, hm2, er, hmax, hr⟩ := (hG j hj).2.2 hPj
      have hBj : BN ρ PL G (lastO R many) j := ⟨hj, hPj, hcj, fun k hk hp hb => by
        have g := hx k hk hp hb
        rcases Nat.lt_or_ge (G k) (G j) with z | z
        · exact Or.inl z
        · refine Or.inr ⟨by omega, ?_⟩
          rcases Nat.lt_or_ge k j with y | y
          · exact absurd ⟨by omega, hb⟩ (hfirst k y)
          · exact y⟩
      have hlj : ∀ i, lat ρ j i → (match lastO R many with | none => True | some l => lat ρ l i) := fun i hi => by
        cases e : lastO R many with
        | none => trivial
        | some l =>
          rw [e] at hcj
          exact lat_trans hcj.1 hi
      have hself : (match lastO R many with | none => True | some l => lat ρ l j) := by
        cases e : lastO R many with
        | none => trivial
        | some l =>
          rw [e] at hcj
          exact hcj.1
      have hcn : cnt (fun i => lat ρ j i) 16 + 1 ≤ cnt (fun i => match lastO R many with | none => True | some l => lat ρ l i) 16 := cnt_lt 16 (fun i _ hi => hlj i hi) ⟨j, hj, lat_irrefl, hself⟩
      have hmn : many < 16 := by omega
      unfold u_X11_bestSet_262
      rw [cm, cj]
      refine ⟨vp_in_nI hmn (by decide), vp_in_nI hj (by decide), ?_⟩
      have e9 : up2 τ 66 many (nI j) 9 j = nI m := by rw [up2_at (Or.inl (by decide)), h9]; exact em
      have eL : nI L - nI m = nI r := by
        rw [← hGj, er, ← nI_add]
        grind
      show u_X11_bestSet_222 Γ post a1 (d + 1) (up2 τ 66 many (nI j)) (nI L - up2 τ 66 many (nI j) 9 j) (nI many + 1) (nI j)
      rw [e9, eL, nI_1]
      have ne : ∀ k, k ≠ 66 → up2 τ 66 many (nI j) k = τ k := fun k hk => funext (fun i => up2_at (Or.inl hk))
      obtain ⟨R', hR'⟩ : ∃ R' : Nat → Nat, R' = fun i => if i = many then j else R i := ⟨_, rfl⟩
      have rm : R' many = j := by rw [hR']; exact if_pos rfl
      have rl : ∀ i, i < many → R' i = R i := fun i hi => by rw [hR']; exact if_neg (by omega)
      have lo' : ∀ i, i ≤ many → lastO R' i = lastO R i := fun i hi => by
        unfold lastO
        by_cases z : i = 0
        · rw [if_pos z, if_pos z]
        · rw [if_neg z, if_neg z, rl (i - 1) (by omega)]
      have l1 : lastO R' (many + 1) = some j := by
        unfold lastO
        rw [if_neg (by omega), Nat.add_sub_cancel, rm]
      refine ih r (by omega) _ (many + 1) (nI j) R' (O.up (by unfold rPr; omega)) (fun k hk => by rw [ne k (by omega)]; exact hlo k hk) (fun s hs => by rw [ne 64 (by decide)]; exact hF s hs) (fun i hi => ?_) (fun i hi => ?_) ?_ ?_ ?_ ?_
      · rcases Nat.eq_or_lt_of_le (Nat.le_of_lt_succ hi) with z | z
        · rw [z, rm, up2_same]; exact ⟨hj, rfl⟩
        · rw [rl i z, up2_at (Or.inr (by omega))]; exact hm i z
      · rw [lo' i (by omega)]
        rcases Nat.eq_or_lt_of_le (Nat.le_of_lt_succ hi) with z | z
        · rw [z, rm]; exact hBj
        · rw [rl i z]; exact hB i z
      · rw [if_neg (by omega), Nat.add_sub_cancel, rm]
      · rw [l1]
        show many + 1 + cnt (fun i => lat ρ j i) 16 ≤ 16
        omega
      · rw [l1]
        exact fun k hk hp hb => hmax k hk hb
      · rw [l1]
        rcases hr with e | ⟨n, hn, hb, e⟩
        · exact Or.inl e
        · exact Or.inr ⟨n, hn, e, hb⟩
    obtain ⟨s, hs16, es, hsc⟩ := hs.resolve_left hLp
    -- the one that is last, as the code has it
    have hlast : (v7 = -1 ∧ lastO R many = none) ∨ ∃ l, l < 16 ∧ v7 = nI l ∧ lastO R many = some l := by
      unfold lastO
      by_cases z : many = 0
      · rw [if_pos z] at hv ⊢; exact Or.inl ⟨hv, rfl⟩
      · rw [if_neg z] at hv ⊢; exact Or.inr ⟨R (many - 1), (hm _ (by omega)).1, hv, rfl⟩
    have := inv_loop (fun k (v : Int32) => u_X11_bestSet_230 Γ post a1 (fun σ w0 w1 w2 => u_X11_bestSet_222 Γ post a1 (d + 1) σ w0 w1 w2) k τ (nI L) (nI many) v7 v) (fun j v => v = nI j ∧ ∀ i, i < j → ¬ (G i = L ∧ cB ρ (lastO R many) i)) s (by
      rintro _ ⟨rfl, hno⟩
      show u_X11_bestSet_230 Γ post a1 _ 1 τ (nI L) (nI many) v7 (nI s)
      unfold u_X11_bestSet_230
      have cs : (nI s).toNatClampNeg = s := nI_clamp (by omega)
      rw [cs]
      refine ⟨vp_in_nI hs16 (by decide), fun _ => ⟨fun e => d262 s hs16 es hsc hno, fun c => ?_⟩, fun c => absurd (by rw [hF s hs16, es]) c⟩
      rcases hlast with ⟨e, _⟩ | ⟨l, hl, el, e2⟩
      · exact absurd e c
      · rw [e2] at hsc
        refine sf_bh hl hs16 el rfl (fun _ => ?_) (fun z => absurd (by rw [bhP_same h7 h8]; exact hsc) z)
        rw [mrg_self]
        exact ⟨fun z => absurd z (by decide), fun _ => d262 s hs16 es (by rw [e2]; exact hsc) hno⟩) (by
      rintro j k _ hj ⟨rfl, hno⟩ ih2
      have nx : ¬ (G j = L ∧ cB ρ (lastO R many) j) → u_X11_bestSet_230 Γ post a1 (fun σ w0 w1 w2 => u_X11_bestSet_222 Γ post a1 (d + 1) σ w0 w1 w2) k τ (nI L) (nI many) v7 (nI j + 1) := fun hn => ih2 _ ⟨nI_1 j, fun i hi => by
        rcases Nat.eq_or_lt_of_le (Nat.le_of_lt_succ hi) with z | z
        · rw [z]; exact hn
        · exact hno i z⟩
      show u_X11_bestSet_230 Γ post a1 _ (k + 1) τ (nI L) (nI many) v7 (nI j)
      unfold u_X11_bestSet_230
      have cj : (nI j).toNatClampNeg = j := nI_clamp (by omega)
      rw [cj]
      refine ⟨vp_in_nI (by omega) (by decide), fun e => ?_, fun c => nx (fun z => c (by rw [hF j (by omega), z.1]))⟩
      have eF : G j = L := (nI_eq (by have := (hG j (by omega)).1; omega) hLs).mp ((hF j (by omega)).symm.trans e)
      rcases hlast with ⟨e1, e2⟩ | ⟨l, hl, el, e2⟩
      · exact ⟨fun _ => d262 j (by omega) eF (by rw [e2]; trivial) hno, fun c => absurd e1 c⟩
      · refine ⟨fun c => ?_, fun _ => sf_bh hl (show j < 16 by omega) el rfl (fun hb => ?_) (fun hb => ?_)⟩
        · rw [el] at c
          have := nI_pos (n := l) (by omega)
          rw [c] at this
          exact absurd (by decide) this
        · rw [mrg_self]
          exact ⟨fun z => absurd z (by decide), fun _ => d262 j (by omega) eF (by rw [e2]; show bhP ρ l j; rw [← bhP_same h7 h8]; exact hb) hno⟩
        · rw [mrg_self]
          refine ⟨fun _ => nx (fun z => hb ?_), fun z => absurd rfl z⟩
          have := z.2
          rw [e2] at this
          rw [bhP_same h7 h8]; exact this) 0 (by omega) 0 ⟨nI_0.symm, fun i hi => absurd hi (Nat.not_lt_zero _)⟩
    exact this
end BEST
end
section
/-! THE BEST SET, EXACTLY: the reference's, from the songs on -/
section BEST2
variable {Tm : MS} {Γ : RG} {σ τ ρ : MS} {a a0 a1 a2 a3 a4 b c : Int32}
theorem cnt_full {P : Nat → Prop} {n : Nat} (h : cnt P n = n) : ∀ i, i < n → P i := fun i hi => Classical.byContradiction fun z => by
  have h1 := cnt_lt (P := P) (Q := fun _ => True) n (fun _ _ _ => trivial) ⟨i, hi, z, trivial⟩
  have h2 := cnt_le (P := fun _ => True) n
  omega
theorem bx_max {PL : Nat → Prop} {G : Nat → Nat} {post : Nat → (Nat → Int32) → MS → Prop} (hG : gOk ρ PL G) (h : ∀ len f τ R, (∀ k, k < 64 → τ k = ρ k) → rOk Tm Γ τ → len ≤ 16 → rwOk ρ PL G len R → (∀ i, i < len → R i < 16 ∧ f i = nI (R i)) → post len f τ)
    (O : rOk Tm Γ τ) (hlo : ∀ k, k < 64 → τ k = ρ k) (hF : ∀ s, s < 16 → τ 64 s = nI (G s)) : ∃ k, u_X11_bestSet_186 Γ post a1 k τ 0 0 := by
  have := inv_loop (fun k (q : Int32 × Int32) => u_X11_bestSet_186 Γ post a1 k τ q.1 q.2) (fun j q => q.2 = nI j ∧ ∃ L, q.1 = nI L ∧ L ≤ 144 ∧ (∀ i, i < j → G i ≤ L) ∧ (L = 0 ∨ ∃ s, s < 16 ∧ G s = L)) 16 (by
    rintro ⟨x, v⟩ ⟨rfl, L, rfl, hL144, hmax, hL⟩
    show u_X11_bestSet_186 Γ post a1 1 τ (nI L) (nI 16)
    unfold u_X11_bestSet_186
    refine ⟨fun _ => ⟨L + 1, ?_⟩, fun c => absurd (le_self (nI 16)) c⟩
    have ne : ∀ k, k ≠ 66 → rw0 τ 66 (fun _ => 0) k = τ k := fun k hk => rw0_ne hk
    have l0 : lastO (fun _ => 0) 0 = none := rfl
    refine bx_out hG h L L (Nat.le_refl _) (rw0 τ 66 (fun _ => 0)) 0 (-1) (fun _ => 0) (O.rw0 (by decide)) (fun k hk => by rw [ne k (by omega)]; exact hlo k hk) (fun s hs => by rw [ne 64 (by decide)]; exact hF s hs) (fun i hi => absurd hi (by omega)) (fun i hi => absurd hi (by omega)) (if_pos rfl).symm ?_ (fun k hk _ _ => hmax k hk) ?_
    · rw [l0]
      have := cnt_le (P := fun _ => True) 16
      show 0 + cnt (fun _ => True) 16 ≤ 16
      omega
    · rw [l0]
      rcases hL with e | ⟨s, hs, e⟩
      · exact Or.inl e
      · exact Or.inr ⟨s, hs, e, trivial⟩) (by
    rintro j k ⟨x, v⟩ hj ⟨rfl, L, rfl, hL144, hmax, hL⟩ ih
    have cj : (nI j).toNatClampNeg = j := nI_clamp (by omega)
    have g144 := (hG j hj).1
    show u_X11_bestSet_186 Γ post a1 (k + 1) τ (nI L) (nI j)
    unfold u_X11_bestSet_186
    rw [cj, hF j hj, nI_1 j]
    refine ⟨fun c => absurd (show nI 16 ≤ nI j from c) (nI_ge hj (by decide)), fun _ => ⟨vp_in_nI hj (by decide), ?_⟩⟩
    by_cases c : nI L < nI (G j)
    · rw [if_pos c]
      have lt : L < G j := by
        rcases Nat.lt_or_ge L (G j) with d | d
        · exact d
        · exact absurd c (Int32.not_lt.mpr (nI_le' d (by omega)))
      refine ih (nI (G j), nI (j + 1)) ⟨rfl, G j, rfl, g144, fun i hi => ?_, Or.inr ⟨j, hj, rfl⟩⟩
      rcases Nat.eq_or_lt_of_le (Nat.le_of_lt_succ hi) with z | z
      · rw [z]; exact Nat.le_refl _
      · have := hmax i z; omega
    · rw [if_neg c]
      refine ih (nI L, nI (j + 1)) ⟨rfl, L, rfl, hL144, fun i hi => ?_, hL⟩
      rcases Nat.eq_or_lt_of_le (Nat.le_of_lt_succ hi) with z | z
      · rw [z]
        rcases Nat.lt_or_ge L (G j) with d | d
        · exact absurd (nI_lt d (by omega)) c
        · exact d
      · exact hmax i z) 0 (by omega) (0, 0) ⟨nI_0.symm, 0, nI_0.symm, by omega, fun i hi => absurd hi (Nat.not_lt_zero _), Or.inl rfl⟩
  exact this
/-- j songs are done, the latest first; those that are not have nothing -/
def bxJ (Tm : MS) (Γ : RG) (ρ : MS) (PL : Nat → Prop) (j : Nat) (τ : MS) : Prop := rOk Tm Γ τ ∧ (∀ k, k < 64 → τ k = ρ k) ∧ cnt (fun i => ¬ τ 65 i = 0) 16 = j ∧ (∀ s i, s < 16 → i < 16 → ¬ τ 65 s = 0 → lat ρ s i → ¬ τ 65 i = 0) ∧ ∃ G : Nat → Nat, ∀ s, s < 16 → τ 64 s = nI (G s) ∧ G s ≤ 9 * j ∧ (τ 65 s = 0 → G s = 0) ∧ (¬ τ 65 s = 0 → (¬ PL s → G s = 0) ∧ (PL s → ∃ m r, ρ 9 s = nI m ∧ 2 ≤ m ∧ G s = m + r ∧ (∀ n, n < 16 → bhP ρ s n → G n ≤ r) ∧ (r = 0 ∨ ∃ n, n < 16 ∧ bhP ρ s n ∧ G n = r)))
theorem sx_bestSet {PL : Nat → Prop} {post : Nat → (Nat → Int32) → MS → Prop} (O : rOk Tm Γ σ)
    (hkn : ∀ (τ : MS) (s : Nat) (post' : Int32 → MS → Prop), s < 16 → (∀ k, k < 64 → τ k = σ k) → rOk Tm Γ τ → (PL s → post' 1 τ) → (¬ PL s → post' 0 τ) → w_X11_isKnown Γ post' τ a1 (nI s))
    (h : ∀ len f τ R G, (∀ k, k < 64 → τ k = σ k) → rOk Tm Γ τ → len ≤ 16 → gOk σ PL G → rwOk σ PL G len R → (∀ i, i < len → R i < 16 ∧ f i = nI (R i)) → post len f τ) : w_X11_bestSet Γ post σ a1 := by
  unfold w_X11_bestSet
  have one : ¬ vp_nar .boolean 1 = 0 := by decide
  have J0 : bxJ Tm Γ σ PL 0 (rw0 (rw0 σ 64 (fun _ => 0)) 65 (fun _ => 0)) := by
    have ne : ∀ k, k ≠ 64 → k ≠ 65 → rw0 (rw0 σ 64 (fun _ => 0)) 65 (fun _ => 0) k = σ k := fun k h1 h2 => by rw [rw0_ne h2, rw0_ne h1]
    have z65 : ∀ i, rw0 (rw0 σ 64 (fun _ => 0)) 65 (fun _ => 0) 65 i = 0 := fun i => by rw [rw0_eq]
    refine ⟨(O.rw0 (by decide)).rw0 (by decide), fun k hk => ne k (by omega) (by omega), ?_, fun s i _ _ hd _ => absurd (z65 s) hd, fun _ => 0, fun s hs => ⟨by rw [rw0_ne (by decide), rw0_eq, nI_0], Nat.zero_le _, fun _ => rfl, fun hd => absurd (z65 s) hd⟩⟩
    have e : cnt (fun i => ¬ rw0 (rw0 σ 64 (fun _ => 0)) 65 (fun _ => 0) 65 i = 0) 16 ≤ cnt (fun _ => False) 16 := cnt_mono 16 (fun i _ hi => hi (z65 i))
    have e2 : ∀ n, cnt (fun _ => False) n = 0 := fun n => by
      induction n with
      | zero => rfl
      | succ n ih => unfold cnt; rw [ih, if_neg (fun h => h)]
    rw [e2] at e
    omega
  have := inv_loop (fun k (q : MS × Int32) => u_X11_bestSet_13 Γ post a1 k q.1 q.2) (fun j q => bxJ Tm Γ σ PL j q.1 ∧ q.2 = nI j) 16 (by
    rintro ⟨τ, v⟩ ⟨J, rfl⟩
    obtain ⟨O', hlo, hc, _, G, hF⟩ := (show bxJ Tm Γ σ PL 16 τ from J)
    have all := cnt_full hc
    have hG : gOk σ PL G := fun s hs => ⟨by have := (hF s hs).2.1; omega, ((hF s hs).2.2.2 (all s hs)).1, ((hF s hs).2.2.2 (all s hs)).2⟩
    show u_X11_bestSet_13 Γ post a1 1 τ (nI 16)
    unfold u_X11_bestSet_13
    exact ⟨fun _ => bx_max hG (fun len f τ R h1 h2 h3 h4 h5 => h len f τ R G h1 h2 h3 hG h4 h5) O' hlo (fun s hs => (hF s hs).1), fun c => absurd (le_self (nI 16)) c⟩) (by
    rintro j k ⟨τ, v⟩ hj ⟨J, rfl⟩ ih
    obtain ⟨O', hlo, hc, hup, G, hF⟩ := (show bxJ Tm Γ σ PL j τ from J)
    have h7 := hlo 7 (by decide)
    have h8 := hlo 8 (by decide)
    have h9 := hlo 9 (by decide)
    have nx : ∀ τ', bxJ Tm Γ σ PL (j + 1) τ' → u_X11_bestSet_13 Γ post a1 k τ' (nI (j + 1)) := fun τ' J' => ih (τ', nI (j + 1)) ⟨J', rfl⟩
    show u_X11_bestSet_13 Γ post a1 (k + 1) τ (nI j)
    unfold u_X11_bestSet_13
    refine ⟨fun c => absurd (show nI 16 ≤ nI j from c) (nI_ge hj (by decide)), fun _ => bx_pick (by omega) (fun s hs h65 hlate => ?_)⟩
    have lats : ∀ i, i < 16 → lat σ s i → ¬ τ 65 i = 0 := fun i hi hl h0 => hlate i hi h0 (by unfold lat at *; rw [h8]; exact hl)
    have ne : ∀ k, k ≠ 65 → up2 τ 65 s (vp_nar .boolean 1) k = τ k := fun k hk => funext (fun i => up2_at (Or.inl hk))
    have d1 : ∀ i, ¬ τ 65 i = 0 → ¬ up2 τ 65 s (vp_nar .boolean 1) 65 i = 0 := fun i hi => by
      by_cases z : i = s
      · rw [z, up2_same]; exact one
      · rw [up2_at (Or.inr z)]; exact hi
    have d2 : ∀ i, i ≠ s → up2 τ 65 s (vp_nar .boolean 1) 65 i = τ 65 i := fun i hi => up2_at (Or.inr hi)
    have ds : ¬ up2 τ 65 s (vp_nar .boolean 1) 65 s = 0 := by rw [up2_same]; exact one
    have hc1 : cnt (fun i => ¬ up2 τ 65 s (vp_nar .boolean 1) 65 i = 0) 16 = j + 1 := by
      have a1 := cnt_add (P := fun i => ¬ τ 65 i = 0) (Q := fun i => ¬ up2 τ 65 s (vp_nar .boolean 1) 65 i = 0) (m := s) 16 (fun i _ hi => by
        by_cases z : i = s
        · exact Or.inr z
        · rw [up2_at (Or.inr z)] at hi; exact Or.inl hi)
      have a2 := cnt_lt (P := fun i => ¬ τ 65 i = 0) (Q := fun i => ¬ up2 τ 65 s (vp_nar .boolean 1) 65 i = 0) 16 (fun i _ hi => d1 i hi) ⟨s, hs, fun z => z h65, ds⟩
      omega
    have hup1 : ∀ u i, u < 16 → i < 16 → ¬ up2 τ 65 s (vp_nar .boolean 1) 65 u = 0 → lat σ u i → ¬ up2 τ 65 s (vp_nar .boolean 1) 65 i = 0 := fun u i hu hi hd hl => by
      by_cases z : u = s
      · subst z; exact d1 i (lats i hi hl)
      · rw [d2 u z] at hd; exact d1 i (hup u i hu hi hd hl)
    have Fs : G s = 0 := (hF s hs).2.2.1 h65
    -- no done one has s behind it
    have nos : ∀ u, u < 16 → ¬ τ 65 u = 0 → ¬ bhP σ u s := fun u hu hd hb => hup u s hu hs hd hb.1 h65
    have O1 : rOk Tm Γ (up2 τ 65 s (vp_nar .boolean 1)) := O'.up (by unfold rPr; omega)
    refine hkn _ s _ hs (fun k hk => by rw [ne k (by omega)]; exact hlo k hk) O1 (fun hp => ?_) (fun hp => ?_)
    · rw [mrg_self, nI_1]
      refine ⟨fun z => absurd z (by decide), fun _ => bx_in (F := G) hs (fun n hn => ?_) (fun r hmx hr => ?_)⟩
      · rw [ne 64 (by decide)]
        exact ⟨(hF n hn).1, by have := (hF n hn).2.1; omega⟩
      · rw [nI_1]
        have sb : ∀ n, bhP (up2 τ 65 s (vp_nar .boolean 1)) s n = bhP σ s n := fun n => bhP_same (by rw [ne 7 (by decide)]; exact h7) (by rw [ne 8 (by decide)]; exact h8)
        obtain ⟨m, hm2, hm9, em⟩ := O.min hs
        have em1 : up2 τ 65 s (vp_nar .boolean 1) 9 s = nI m := by rw [ne 9 (by decide), h9]; exact em
        rw [em1, nI_add]
        have hrB : r ≤ 9 * j := by
          rcases hr with e | ⟨n, hn, _, e, _⟩
          · omega
          · rw [← e]; exact (hF n hn).2.1
        have ne2 : ∀ k, k ≠ 64 → up2 (up2 τ 65 s (vp_nar .boolean 1)) 64 s (nI (m + r)) k = up2 τ 65 s (vp_nar .boolean 1) k := fun k hk => funext (fun i => up2_at (Or.inl hk))
        obtain ⟨G', hG'⟩ : ∃ G' : Nat → Nat, G' = fun i => if i = s then m + r else G i := ⟨_, rfl⟩
        have gs : G' s = m + r := by rw [hG']; exact if_pos rfl
        have gn : ∀ i, i ≠ s → G' i = G i := fun i hi => by rw [hG']; exact if_neg hi
        refine nx (up2 (up2 τ 65 s (vp_nar .boolean 1)) 64 s (nI (m + r))) ⟨O1.up (by unfold rPr; omega), fun k hk => by rw [ne2 k (by omega), ne k (by omega)]; exact hlo k hk, by rw [ne2 65 (by decide)]; exact hc1, by rw [ne2 65 (by decide)]; exact hup1, G', fun u hu => ?_⟩
        rw [ne2 65 (by decide)]
        by_cases z : u = s
        · subst z
          rw [gs, up2_same]
          refine ⟨rfl, by omega, fun z => absurd z ds, fun _ => ⟨fun z => absurd hp z, fun _ => ⟨m, r, em, hm2, rfl, fun n hn hb => ?_, ?_⟩⟩⟩
          · have hnu : n ≠ u := fun e => lat_irrefl (e ▸ hb.1)
            rw [gn n hnu]
            exact hmx n hn (by rw [sb]; exact hb)
          · rcases hr with e | ⟨n, hn, hb, e, _⟩
            · exact Or.inl e
            · rw [sb] at hb
              have hnu : n ≠ u := fun e => lat_irrefl (e ▸ hb.1)
              exact Or.inr ⟨n, hn, hb, by rw [gn n hnu]; exact e⟩
        · rw [gn u z, up2_at (Or.inr z), ne 64 (by decide), d2 u z]
          refine ⟨(hF u hu).1, by have := (hF u hu).2.1; omega, (hF u hu).2.2.1, fun hd => ⟨((hF u hu).2.2.2 hd).1, fun hpu => ?_⟩⟩
          obtain ⟨m', r', e1, e2, e3, e4, e5⟩ := ((hF u hu).2.2.2 hd).2 hpu
          refine ⟨m', r', e1, e2, e3, fun n hn hb => ?_, ?_⟩
          · rw [gn n (fun e => nos u hu hd (e ▸ hb))]; exact e4 n hn hb
          · rcases e5 with e | ⟨n, hn, hb, e⟩
            · exact Or.inl e
            · exact Or.inr ⟨n, hn, hb, by rw [gn n (fun e => nos u hu hd (e ▸ hb))]; exact e⟩
    · rw [mrg_self, nI_1]
      refine ⟨fun _ => nx (up2 τ 65 s (vp_nar .boolean 1)) ⟨O1, fun k hk => by rw [ne k (by omega)]; exact hlo k hk, hc1, hup1, G, fun u hu => ?_⟩, fun z => absurd rfl z⟩
      rw [ne 64 (by decide)]
      refine ⟨(hF u hu).1, by have := (hF u hu).2.1; omega, fun h0 => ?_, fun hd => ?_⟩
      · by_cases z : u = s
        · subst z; exact Fs
        · rw [d2 u z] at h0; exact (hF u hu).2.2.1 h0
      · by_cases z : u = s
        · subst z; exact ⟨fun _ => Fs, fun hpu => absurd hpu hp⟩
        · rw [d2 u z] at hd; exact (hF u hu).2.2.2 hd) 0 (by omega) (_, 0) ⟨J0, nI_0.symm⟩
  exact this
end BEST2
end
section
/-! THE BEST SET, EXACTLY: the class's is one -/
section BEST3
variable {ρ σ : MS} {PL : Nat → Prop} {G : Nat → Nat} {pb : Int32}
/-- the class's songs read as ρ -/
def sgV (σ ρ : MS) : Prop := ∀ s, s < 16 → σ (39 + s) 0 = ρ 7 s ∧ σ (39 + s) 1 = ρ 8 s ∧ σ (39 + s) 2 = ρ 9 s
def enV (σ : MS) : Prop := ∀ s, s < 16 → ∃ e, e < 10 ∧ σ (39 + s) 1 = nI e
theorem bmod32 (x : Int) : Int.bmod x (2 ^ 32) = if x % 4294967296 < 2147483648 then x % 4294967296 else x % 4294967296 - 4294967296 := by
  have e : ((2 ^ 32 : Nat) : Int) = 4294967296 := by decide
  simp only [Int.bmod, e]
  rw [show ((4294967296 : Int) + 1) / 2 = 2147483648 by decide]
theorem near_fits (x : Int32) : (x ≤ 2 ∨ ¬ x < 10) ↔ ¬ 2 < (if 12 - x < x then 12 - x else x) := by
  have h1 : (12 - x).toInt = Int.bmod (12 - x.toInt) (2 ^ 32) := Int32.toInt_sub 12 x
  have lo := Int32.le_toInt x
  have hi := Int32.toInt_lt x
  have e2 : (2 : Int32).toInt = 2 := by decide
  have e10 : (10 : Int32).toInt = 10 := by decide
  rw [bmod32] at h1
  by_cases c : 12 - x < x
  · rw [if_pos c]
    simp only [Int32.lt_iff_toInt_lt, Int32.le_iff_toInt_le] at *
    split at h1 <;> omega
  · rw [if_neg c]
    simp only [Int32.lt_iff_toInt_lt, Int32.le_iff_toInt_le] at *
    split at h1 <;> omega
theorem bh_fits {i j : Nat} (h : sgV σ ρ) (hi : i < 16) (hj : j < 16) : bhP ρ i j ↔ lat ρ i j ∧ fits2 σ i j = true := by
  unfold bhP fits2 apart nearV
  rw [decide_eq_true_iff, (h i hi).1, (h j hj).1]
  rw [← near_fits]
/-- places of a list -/
theorem srtI_mem {σ : MS} {pb : Int32} {e : Nat} {B : List Nat} : ∀ s x, x ∈ srtI σ pb e B s ↔ x ∈ B ∨ (x < s ∧ bt pb x = true ∧ σ (39 + x) 1 = nI e)
  | 0, x => by unfold srtI; constructor <;> intro h <;> first | exact Or.inl h | (rcases h with h | h; exact h; omega)
  | s + 1, x => by
    have ih := srtI_mem (σ := σ) (pb := pb) (e := e) (B := B) s x
    unfold srtI
    by_cases c : bt pb s = true ∧ σ (39 + s) 1 = nI e
    · rw [if_pos c, List.mem_append, ih, List.mem_singleton]
      constructor
      · rintro ((h | h) | h)
        · exact Or.inl h
        · exact Or.inr ⟨by omega, h.2⟩
        · subst h; exact Or.inr ⟨by omega, c⟩
      · rintro (h | h)
        · exact Or.inl (Or.inl h)
        · by_cases z : x = s
          · exact Or.inr z
          · exact Or.inl (Or.inr ⟨by omega, h.2⟩)
    · rw [if_neg c, ih]
      constructor
      · rintro (h | h)
        · exact Or.inl h
        · exact Or.inr ⟨by omega, h.2⟩
      · rintro (h | h)
        · exact Or.inl h
        · by_cases z : x = s
          · subst z; exact absurd h.2 c
          · exact Or.inr ⟨by omega, h.2⟩
theorem srtL_mem {σ : MS} {pb : Int32} : ∀ n x, x ∈ srtL σ pb n ↔ x < 16 ∧ bt pb x = true ∧ ∃ e, e < n ∧ σ (39 + x) 1 = nI e
  | 0, x => by
    unfold srtL
    constructor
    · intro h; exact absurd h List.not_mem_nil
    · rintro ⟨_, _, e, he, _⟩; omega
  | n + 1, x => by
    unfold srtL
    rw [srtI_mem, srtL_mem n x]
    constructor
    · rintro (⟨h1, h2, e, he, h3⟩ | ⟨h1, h2, h3⟩)
      · exact ⟨h1, h2, e, by omega, h3⟩
      · exact ⟨h1, h2, n, by omega, h3⟩
    · rintro ⟨h1, h2, e, he, h3⟩
      by_cases z : e = n
      · subst z; exact Or.inr ⟨h1, h2, h3⟩
      · exact Or.inl ⟨h1, h2, e, by omega, h3⟩
theorem srtI_pw {σ ρ : MS} {pb : Int32} {e : Nat} {B : List Nat} (hs : sgV σ ρ) (he : e < 10) (hB : B.Pairwise (lat ρ)) (hE : ∀ x ∈ B, x < 16 ∧ ∃ f, f < e ∧ σ (39 + x) 1 = nI f) : ∀ s, s ≤ 16 → (srtI σ pb e B s).Pairwise (lat ρ)
  | 0, _ => hB
  | s + 1, h => by
    have ih := srtI_pw (pb := pb) hs he hB hE s (by omega)
    unfold srtI
    by_cases c : bt pb s = true ∧ σ (39 + s) 1 = nI e
    · rw [if_pos c]
      refine List.pairwise_append.mpr ⟨ih, List.pairwise_singleton _ _, fun a ha b hb => ?_⟩
      obtain rfl : b = s := by simpa using hb
      unfold lat
      rcases (srtI_mem b a).mp ha with z | ⟨z1, _, z3⟩
      · obtain ⟨h16, f, hf, ef⟩ := hE a z
        left
        rw [← (hs a h16).2.1, ← (hs b (by omega)).2.1, ef, c.2]
        exact nI_lt hf (by omega)
      · right
        rw [← (hs a (by omega)).2.1, ← (hs b (by omega)).2.1, z3, c.2]
        exact ⟨rfl, z1⟩
    · rw [if_neg c]; exact ih
theorem srtL_pw {σ ρ : MS} {pb : Int32} (hs : sgV σ ρ) : ∀ n, n ≤ 10 → (srtL σ pb n).Pairwise (lat ρ)
  | 0, _ => List.Pairwise.nil
  | n + 1, h => by
    unfold srtL
    exact srtI_pw hs (by omega) (srtL_pw hs n (by omega)) (fun x hx => ⟨((srtL_mem n x).mp hx).1, ((srtL_mem n x).mp hx).2.2⟩) 16 (by omega)
/-- the order: every song that can be played has one place, later ones later places -/
def ordL (ρ : MS) (PL : Nat → Prop) (n : Nat) (f : Nat → Nat) : Prop := (∀ p, p < n → f p < 16 ∧ PL (f p)) ∧ (∀ p q, p < q → q < n → lat ρ (f p) (f q)) ∧ ∀ x, x < 16 → PL x → ∃ p, p < n ∧ f p = x
theorem ordL.after {n : Nat} {f : Nat → Nat} (h : ordL ρ PL n f) {p q : Nat} (hp : p < n) (hq : q < n) (hl : lat ρ (f p) (f q)) : p < q := by
  rcases Nat.lt_trichotomy p q with d | d | d
  · exact d
  · subst d; exact absurd hl lat_irrefl
  · exact absurd (lat_trans hl (h.2.1 q p d hp)) lat_irrefl
/-- the place b is the best of those that C says -/
def bst (G : Nat → Nat) (f : Nat → Nat) (n : Nat) (C : Nat → Prop) (v : Int32) : Prop := (v = -1 ∧ ∀ q, ¬ C q) ∨ ∃ q, q < n ∧ C q ∧ v = nI q ∧ ∀ q', C q' → G (f q') < G (f q) ∨ (G (f q') = G (f q) ∧ f q ≤ f q')
theorem bsF_bst {x : MS} {f : Nat → Nat} {n k : Nat} {C : Nat → Prop} {v : Int32} (hn : n ≤ 16) (hG : ∀ q, q < n → G (f q) ≤ 144 ∧ f q < 16) (h12 : ∀ q, q < n → x 12 q = nI (f q)) (h13 : ∀ q, (C q ∨ q = k) → q < n ∧ x 13 q = nI (G (f q))) (hk : k < n) (h : bst G f n C v) : bst G f n (fun q => C q ∨ q = k) (bsF x k v) := by
  unfold bsF
  rcases h with ⟨rfl, hno⟩ | ⟨q, hq, hC, rfl, hbest⟩
  · rw [if_pos rfl]
    refine Or.inr ⟨k, hk, Or.inr rfl, rfl, fun q' h' => ?_⟩
    rcases h' with h' | h'
    · exact absurd h' (hno q')
    · subst h'; exact Or.inr ⟨rfl, Nat.le_refl _⟩
  · have nm : ¬ nI q = -1 := fun z => by
      have := nI_pos (n := q) (by omega)
      rw [z] at this
      exact this (by decide)
    have ek := (h13 k (Or.inr rfl)).2
    have eq := (h13 q (Or.inl hC)).2
    have gk := (hG k hk).1
    have gq := (hG q hq).1
    have fk := (hG k hk).2
    have fq := (hG q hq).2
    rw [if_neg nm, nI_clamp (by omega), ek, eq, h12 q hq, h12 k hk]
    have keep : (G (f k) < G (f q) ∨ (G (f k) = G (f q) ∧ f q ≤ f k)) → bst G f n (fun q => C q ∨ q = k) (nI q) := fun g => Or.inr ⟨q, hq, Or.inl hC, rfl, fun q' h' => by
      rcases h' with h' | h'
      · exact hbest q' h'
      · subst h'; exact g⟩
    have take : (G (f q) < G (f k) ∨ (G (f q) = G (f k) ∧ f k ≤ f q)) → bst G f n (fun q => C q ∨ q = k) (nI k) := fun g => Or.inr ⟨k, hk, Or.inr rfl, rfl, fun q' h' => by
      rcases h' with h' | h'
      · have := hbest q' h'; omega
      · subst h'; exact Or.inr ⟨rfl, Nat.le_refl _⟩⟩
    by_cases c1 : nI (G (f k)) ≤ nI (G (f q))
    · rw [if_pos c1]
      have g1 : G (f k) ≤ G (f q) := by
        rcases Nat.lt_or_ge (G (f q)) (G (f k)) with d | d
        · exact absurd c1 (nI_ge d (by omega))
        · exact d
      by_cases c2 : nI (G (f k)) = nI (G (f q))
      · rw [if_pos c2]
        have g2 : G (f k) = G (f q) := (nI_eq (by omega) (by omega)).mp c2
        by_cases c3 : nI (f q) ≤ nI (f k)
        · rw [if_pos c3]
          have g3 : f q ≤ f k := by
            rcases Nat.lt_or_ge (f k) (f q) with d | d
            · exact absurd c3 (nI_ge d (by omega))
            · exact d
          exact keep (Or.inr ⟨g2, g3⟩)
        · rw [if_neg c3]
          have g3 : f k ≤ f q := by
            rcases Nat.lt_or_ge (f q) (f k) with d | d
            · exact absurd (nI_le' (by omega) (by omega)) c3
            · exact d
          exact take (Or.inr ⟨g2.symm, g3⟩)
      · rw [if_neg c2]
        refine keep (Or.inl ?_)
        have : G (f k) ≠ G (f q) := fun z => c2 (by rw [z])
        omega
    · rw [if_neg c1]
      refine take (Or.inl ?_)
      rcases Nat.lt_or_ge (G (f q)) (G (f k)) with d | d
      · exact d
      · exact absurd (nI_le' d (by omega)) c1
theorem bst.cg {f : Nat → Nat} {n : Nat} {C D : Nat → Prop} {v : Int32} (h : bst G f n C v) (e : ∀ q, C q ↔ D q) : bst G f n D v := by
  rcases h with ⟨h1, h2⟩ | ⟨q, h1, h2, h3, h4⟩
  · exact Or.inl ⟨h1, fun q hq => h2 q ((e q).mpr hq)⟩
  · exact Or.inr ⟨q, h1, (e q).mp h2, h3, fun q' h' => h4 q' ((e q').mpr h')⟩
end BEST3
end
section
/-! THE BEST SET, EXACTLY: the class's, chosen -/
section BEST4
variable {ρ σ x y z : MS} {PL : Nat → Prop} {G : Nat → Nat} {pb : Int32} {f : Nat → Nat} {n : Nat}
theorem srt_ord (hs : sgV σ ρ) (he : enV σ) : ordL ρ (fun s => bt pb s = true) (srtL σ pb 10).length (fun p => (srtL σ pb 10).getD p 0) := by
  have g : ∀ p (h : p < (srtL σ pb 10).length), (srtL σ pb 10).getD p 0 = (srtL σ pb 10)[p] := fun p h => by simp [List.getD, h]
  refine ⟨fun p hp => ?_, fun p q hpq hq => ?_, fun s hs16 hp => ?_⟩
  · dsimp only
    rw [g p hp]
    have := (srtL_mem (σ := σ) (pb := pb) 10 _).mp (List.getElem_mem hp)
    exact ⟨this.1, this.2.1⟩
  · dsimp only
    rw [g p (by omega), g q hq]
    exact List.pairwise_iff_getElem.mp (srtL_pw hs 10 (Nat.le_refl _)) p q (by omega) hq hpq
  · obtain ⟨e, he1, he2⟩ := he s hs16
    have hm : s ∈ srtL σ pb 10 := (srtL_mem 10 s).mpr ⟨hs16, hp, e, he1, he2⟩
    obtain ⟨p, hp1, hp2⟩ := List.mem_iff_getElem.mp hm
    exact ⟨p, hp1, (g p hp1).trans hp2⟩
/-- none is behind, or the best is -/
theorem bst_BN {l : Option Nat} {v : Int32} (hO : ordL ρ PL n f) (h : bst G f n (fun q => q < n ∧ cB ρ l (f q)) v) : (v = -1 ∧ ∀ k, k < 16 → PL k → ¬ cB ρ l k) ∨ ∃ q, q < n ∧ v = nI q ∧ BN ρ PL G l (f q) := by
  rcases h with ⟨h1, h2⟩ | ⟨q, h1, h2, h3, h4⟩
  · refine Or.inl ⟨h1, fun k hk hp hb => ?_⟩
    obtain ⟨q, hq, e⟩ := hO.2.2 k hk hp
    exact h2 q ⟨hq, e ▸ hb⟩
  · refine Or.inr ⟨q, h1, h3, (hO.1 q h1).1, (hO.1 q h1).2, h2.2, fun k hk hp hb => ?_⟩
    obtain ⟨q', hq', e⟩ := hO.2.2 k hk hp
    rw [← e]
    exact h4 q' ⟨hq', by rw [e]; exact hb⟩
/-- what is behind: its minutes -/
theorem gOk_rest {s m r : Nat} {l : Option Nat} (hG : gOk ρ PL G) (hl : l = some s) (hmax : ∀ k, k < 16 → bhP ρ s k → G k ≤ r) (hr : r = 0 ∨ ∃ k, k < 16 ∧ bhP ρ s k ∧ G k = r) : (∀ k, k < 16 → PL k → ¬ cB ρ l k) → r = 0 := fun hno => by
  rcases hr with e | ⟨k, hk, hb, e⟩
  · exact e
  · by_cases hp : PL k
    · exact absurd (by rw [hl]; exact hb) (hno k hk hp)
    · rw [← e]; exact (hG k hk).2.1 hp
theorem gOk_next {s r j : Nat} (hG : gOk ρ PL G) (hmax : ∀ k, k < 16 → bhP ρ s k → G k ≤ r) (hr : r = 0 ∨ ∃ k, k < 16 ∧ bhP ρ s k ∧ G k = r) (hj : BN ρ PL G (some s) j) : r = G j := by
  obtain ⟨h1, h2, h3, h4⟩ := hj
  have a1 := hmax j h1 h3
  obtain ⟨m, r', _, b2, b3, _⟩ := (hG j h1).2.2 h2
  rcases hr with e | ⟨k, hk, hb, e⟩
  · omega
  · have hp : PL k := Classical.byContradiction fun z => by
      have := (hG k hk).2.1 z
      omega
    have := h4 k hk hp hb
    omega
theorem nv_bst {p : Nat} (hn : n ≤ 16) (hO : ordL ρ PL n f) (hG : gOk ρ PL G) (h12 : ∀ q, q < n → x 12 q = nI (f q)) (h13 : ∀ q, p < q → q < n → x 13 q = nI (G (f q))) (hp : p < n) : ∀ m, p + 1 + m ≤ n → bst G f n (fun q => p < q ∧ q < p + 1 + m ∧ fits2 x (f p) (f q) = true) (nv x p m)
  | 0, _ => Or.inl ⟨rfl, fun q hq => by omega⟩
  | m + 1, hm => by
    have ih := nv_bst hn hO hG h12 h13 hp m (by omega)
    have o : ∀ q, q < n → ordN x q = f q := fun q hq => by
      unfold ordN
      rw [h12 q hq, nI_clamp (by have := (hO.1 q hq).1; omega)]
    unfold nv
    rw [o p hp, o (p + 1 + m) (by omega)]
    by_cases c : fits2 x (f p) (f (p + 1 + m)) = true
    · rw [if_pos c]
      refine (bsF_bst hn (fun q hq => ⟨(hG _ (hO.1 q hq).1).1, (hO.1 q hq).1⟩) h12 (fun q hq => ?_) (by omega) ih).cg (fun q => ?_)
      · have hq : p < q ∧ q < n := by
          rcases hq with h | h
          · exact ⟨h.1, by omega⟩
          · omega
        exact ⟨hq.2, h13 q hq.1 hq.2⟩
      · constructor
        · rintro (h | h)
          · exact ⟨h.1, by omega, h.2.2⟩
          · subst h; exact ⟨by omega, by omega, c⟩
        · rintro ⟨h1, h2, h3⟩
          by_cases e : q = p + 1 + m
          · exact Or.inr e
          · exact Or.inl ⟨h1, by omega, h3⟩
    · rw [if_neg c]
      refine ih.cg (fun q => ?_)
      constructor
      · rintro ⟨h1, h2, h3⟩; exact ⟨h1, by omega, h3⟩
      · rintro ⟨h1, h2, h3⟩
        by_cases e : q = p + 1 + m
        · subst e; exact absurd h3 c
        · exact ⟨h1, by omega, h3⟩
/-- from the end on: the minutes of each place are the song's, what is next is the best -/
theorem ch_best (hn : n ≤ 16) (hO : ordL ρ PL n f) (hG : gOk ρ PL G) (hs : sgV x ρ) (h12 : ∀ q, q < n → x 12 q = nI (f q)) : ∀ d, d ≤ n → ∀ q, n - d ≤ q → q < n → chS x n d 13 q = nI (G (f q)) ∧ bst G f n (fun q' => q' < n ∧ cB ρ (some (f q)) (f q')) (chS x n d 14 q)
  | 0, _, q, h1, h2 => by omega
  | d + 1, hd, q, h1, h2 => by
    have ih := ch_best hn hO hG hs h12 d (by omega)
    have k12 : chS x n d 12 = x 12 := chS_k (by decide) (by decide) d
    have ksg : ∀ s, chS x n d (39 + s) = x (39 + s) := fun s => chS_k (by omega) (by omega) d
    unfold chS chV
    generalize chS x n d = w at ih k12 ksg ⊢
    obtain ⟨p, hp⟩ : ∃ p, p = n - 1 - d := ⟨_, rfl⟩
    rw [← hp]
    have hpn : p < n := by omega
    have w12 : ∀ q, q < n → w 12 q = nI (f q) := fun q hq => by rw [k12]; exact h12 q hq
    have ws : sgV w ρ := fun s hs16 => by rw [ksg s]; exact hs s hs16
    have w13 : ∀ q, p < q → q < n → w 13 q = nI (G (f q)) := fun q a b => (ih q (by omega) b).1
    have fp := hO.1 p hpn
    have nb : bst G f n (fun q' => q' < n ∧ cB ρ (some (f p)) (f q')) (nv w p d) := (nv_bst hn hO hG w12 w13 hpn d (by omega)).cg (fun q' => by
      constructor
      · rintro ⟨a, b, c⟩
        have hq' : q' < n := by omega
        exact ⟨hq', (bh_fits ws fp.1 (hO.1 q' hq').1).mpr ⟨hO.2.1 p q' a hq', c⟩⟩
      · rintro ⟨a, b⟩
        have b2 := (bh_fits ws fp.1 (hO.1 q' a).1).mp b
        exact ⟨hO.after hpn a b2.1, by omega, b2.2⟩)
    by_cases e : q = p
    · subst e
      rw [up2_at (k := 13) (k' := 14) (by omega), up2_same, up2_same]
      refine ⟨?_, nb⟩
      have op : ordN w q = f q := by
        unfold ordN
        rw [w12 q hpn, nI_clamp (by have := fp.1; omega)]
      obtain ⟨m, r, em, _, eG, hmax, hr⟩ := (hG (f q) fp.1).2.2 fp.2
      rw [op, (ws (f q) fp.1).2.2, em, eG]
      rcases bst_BN hO nb with ⟨v1, v2⟩ | ⟨q', hq', v1, v2⟩
      · rw [if_pos v1, gOk_rest (m := m) hG rfl hmax hr v2]
        show nI m + 0 = nI (m + 0)
        rw [Int32.add_zero]
        rfl
      · have nm : ¬ nI q' = -1 := fun z => by
          have := nI_pos (n := q') (by omega)
          rw [z] at this
          exact this (by decide)
        have lt : q < q' := hO.after hpn hq' v2.2.2.1.1
        rw [v1, if_neg nm, nI_clamp (by omega), w13 q' lt hq', nI_add, gOk_next hG hmax hr v2]
    · rw [up2_at (k := 13) (k' := 13) (by omega), up2_at (k := 14) (k' := 13) (by omega), up2_at (k := 13) (k' := 14) (by omega), up2_at (k := 14) (k' := 14) (by omega)]
      exact ih q (by omega) h2
theorem fs_best (hn : n ≤ 16) (hO : ordL ρ PL n f) (hG : gOk ρ PL G) (h12 : ∀ q, q < n → y 12 q = nI (f q)) (h13 : ∀ q, q < n → y 13 q = nI (G (f q))) : ∀ m, m ≤ n → bst G f n (fun q => q < m) (fsF y m)
  | 0, _ => Or.inl ⟨rfl, fun q hq => by omega⟩
  | m + 1, hm => by
    unfold fsF
    exact (bsF_bst hn (fun q hq => ⟨(hG _ (hO.1 q hq).1).1, (hO.1 q hq).1⟩) h12 (fun q hq => by
      have : q < n := by rcases hq with h | h <;> omega
      exact ⟨this, h13 q this⟩) (by omega) (fs_best hn hO hG h12 h13 m (by omega))).cg (fun q => by omega)
/-- how many can still come behind the last one -/
noncomputable def aft (ρ : MS) (l : Option Nat) : Nat := cnt (fun i => match l with | none => True | some l => lat ρ l i) 16
theorem aft_lt {l : Option Nat} {j : Nat} (hj : j < 16) (h : cB ρ l j) : aft ρ (some j) + 1 ≤ aft ρ l := by
  unfold aft
  refine cnt_lt 16 (fun i _ hi => ?_) ⟨j, hj, lat_irrefl, ?_⟩
  · cases l with
    | none => trivial
    | some l => exact lat_trans h.1 hi
  · cases l with
    | none => trivial
    | some l => exact h.1
theorem fl_best {first : Int32} (hn : n ≤ 16) (hO : ordL ρ PL n f) (h12 : ∀ q, q < n → z 12 q = nI (f q)) (h14 : ∀ q, q < n → bst G f n (fun q' => q' < n ∧ cB ρ (some (f q)) (f q')) (z 14 q)) (hf : bst G f n (fun q => q < n ∧ cB ρ none (f q)) first) : ∀ m, m ≤ 16 → ∃ (R : Nat → Nat) (len : Nat), len ≤ m ∧ (∀ i, i < len → R i < 16 ∧ (flS z first m).1 11 i = nI (R i)) ∧ (∀ i, i < len → BN ρ PL G (lastO R i) (R i)) ∧ (flS z first m).1 10 1 = nI len ∧ len + aft ρ (lastO R len) ≤ 16 ∧
      (((flS z first m).2 = -1 ∧ ∀ k, k < 16 → PL k → ¬ cB ρ (lastO R len) k) ∨ (len = m ∧ ∃ q, q < n ∧ (flS z first m).2 = nI q ∧ BN ρ PL G (lastO R len) (f q)))
  | 0, _ => by
    have l0 : lastO (fun _ => 0) 0 = none := rfl
    refine ⟨fun _ => 0, 0, Nat.le_refl _, fun i hi => absurd hi (Nat.not_lt_zero _), fun i hi => absurd hi (Nat.not_lt_zero _), (show up2 z 10 1 0 10 1 = 0 from up2_same).trans nI_0.symm, ?_, ?_⟩
    · have : aft ρ (lastO (fun _ => 0) 0) ≤ 16 := cnt_le 16
      omega
    · rw [l0]
      rcases bst_BN hO hf with h | ⟨q, h1, h2, h3⟩
      · exact Or.inl h
      · exact Or.inr ⟨rfl, q, h1, h2, h3⟩
  | m + 1, hm => by
    obtain ⟨R, len, a1, a2, a3, a4, a5, a6⟩ := fl_best hn hO h12 h14 hf m (by omega)
    rcases a6 with ⟨b1, b2⟩ | ⟨b1, q, hq, b2, b3⟩
    · refine ⟨R, len, by omega, ?_⟩
      unfold flS
      rw [if_pos b1]
      exact ⟨a2, a3, a4, a5, Or.inl ⟨b1, b2⟩⟩
    · have nm : ¬ nI q = -1 := fun z => by
        have := nI_pos (n := q) (by omega)
        rw [z] at this
        exact this (by decide)
      subst b1
      have k12 : (flS z first len).1 12 = z 12 := flS_k (by decide) (by decide) len
      have k14 : (flS z first len).1 14 = z 14 := flS_k (by decide) (by decide) len
      obtain ⟨R', hR'⟩ : ∃ R' : Nat → Nat, R' = fun i => if i = len then f q else R i := ⟨_, rfl⟩
      have rm : R' len = f q := by rw [hR']; exact if_pos rfl
      have rl : ∀ i, i < len → R' i = R i := fun i hi => by rw [hR']; exact if_neg (by omega)
      have lo' : ∀ i, i ≤ len → lastO R' i = lastO R i := fun i hi => by
        unfold lastO
        by_cases e : i = 0
        · rw [if_pos e, if_pos e]
        · rw [if_neg e, if_neg e, rl (i - 1) (by omega)]
      have l1 : lastO R' (len + 1) = some (f q) := by
        unfold lastO
        rw [if_neg (by omega), Nat.add_sub_cancel, rm]
      have fq := hO.1 q hq
      unfold flS
      rw [b2, if_neg nm, nI_clamp (by omega), k12, k14, h12 q hq]
      dsimp only
      refine ⟨R', len + 1, Nat.le_refl _, fun i hi => ?_, fun i hi => ?_, up2_same, ?_, ?_⟩
      · rw [up2_at (k := 10) (by omega)]
        rcases Nat.eq_or_lt_of_le (Nat.le_of_lt_succ hi) with e | e
        · rw [e, rm, up2_same]; exact ⟨fq.1, rfl⟩
        · rw [rl i e, up2_at (Or.inr (by omega))]; exact a2 i e
      · rw [lo' i (by omega)]
        rcases Nat.eq_or_lt_of_le (Nat.le_of_lt_succ hi) with e | e
        · rw [e, rm]; exact b3
        · rw [rl i e]; exact a3 i e
      · rw [l1]
        have := aft_lt fq.1 b3.2.2.1
        omega
      · rw [l1]
        rcases bst_BN hO (h14 q hq) with h | ⟨q', h1, h2, h3⟩
        · exact Or.inl h
        · exact Or.inr ⟨rfl, q', h1, h2, h3⟩
/-- the minutes of a best row are those of its first one -/
theorem rw_min (hG : gOk ρ PL G) {len : Nat} {R : Nat → Nat} (h : rwOk ρ PL G len R) : rwSum (fun s => ρ 9 s) R len = if len = 0 then 0 else nI (G (R 0)) := by
  by_cases z : len = 0
  · subst z; rfl
  · rw [if_neg z]
    have key : ∀ i, i ≤ len → rwSum (fun s => ρ 9 s) R i + nI (if i < len then G (R i) else 0) = nI (G (R 0)) := by
      intro i
      induction i with
      | zero =>
        intro _
        rw [if_pos (by omega)]
        show 0 + nI (G (R 0)) = _
        rw [Int32.zero_add]
      | succ i ih =>
        intro hi
        have ih := ih (by omega)
        rw [if_pos (by omega)] at ih
        have hB := h.1 i (by omega)
        obtain ⟨m, r, em, _, eG, hmax, hr⟩ := (hG (R i) hB.1).2.2 hB.2.1
        have l1 : lastO R (i + 1) = some (R i) := by
          unfold lastO
          rw [if_neg (by omega), Nat.add_sub_cancel]
        have er : r = if i + 1 < len then G (R (i + 1)) else 0 := by
          by_cases c : i + 1 < len
          · rw [if_pos c]
            have hB2 := h.1 (i + 1) c
            rw [l1] at hB2
            exact gOk_next hG hmax hr hB2
          · rw [if_neg c]
            have e : i + 1 = len := by omega
            refine gOk_rest (m := m) hG l1 hmax hr ?_
            rw [e]
            exact h.2
        rw [← er]
        show rwSum (fun s => ρ 9 s) R i + ρ 9 (R i) + nI r = _
        rw [em, Int32.add_assoc, nI_add, ← eG]
        exact ih
    have := key len (Nat.le_refl _)
    rw [if_neg (Nat.lt_irrefl _)] at this
    rw [← this]
    show _ = _ + 0
    rw [Int32.add_zero]
/-- choosing: the class's best set is a best row -/
theorem cho_best (hs : sgV σ ρ) (he : enV σ) (hG : gOk ρ (fun s => bt pb s = true) G) : ∃ (R : Nat → Nat) (len : Nat), len ≤ 16 ∧ rwOk ρ (fun s => bt pb s = true) G len R ∧ (∀ i, i < len → R i < 16 ∧ choS σ pb 11 i = nI (R i)) ∧ choS σ pb 10 1 = nI len ∧ choS σ pb 10 2 = rwSum (fun s => ρ 9 s) R len := by
  have hO := srt_ord (pb := pb) hs he
  have hL := (srtL_ok σ pb 10 (by decide)).1
  have hn := lst_len hL
  unfold choS
  generalize srtL σ pb 10 = L at hO hn ⊢
  have x12 : ∀ q, q < L.length → putL σ L 12 q = nI (L.getD q 0) := fun q hq => if_pos ⟨rfl, hq⟩
  have xs : sgV (putL σ L) ρ := fun s h16 => by rw [putL_k (by omega) (by omega)]; exact hs s h16
  have hc := ch_best hn hO hG xs x12 L.length (Nat.le_refl _)
  have k12 : chS (putL σ L) L.length L.length 12 = putL σ L 12 := chS_k (by decide) (by decide) _
  unfold chE
  generalize chS (putL σ L) L.length L.length = y at hc k12 ⊢
  have y12 : ∀ q, q < L.length → y 12 q = nI (L.getD q 0) := fun q hq => by rw [k12]; exact x12 q hq
  have hfs := fs_best hn hO hG y12 (fun q hq => (hc q (by omega) hq).1) L.length (Nat.le_refl _)
  have hf : bst G (fun p => L.getD p 0) L.length (fun q => q < L.length ∧ cB ρ none (L.getD q 0)) (fsF y L.length) := hfs.cg (fun q => ⟨fun h => ⟨h, trivial⟩, fun h => h.1⟩)
  obtain ⟨v, hv⟩ : ∃ v, v = (if fsF y L.length = -1 then 0 else y 13 (fsF y L.length).toNatClampNeg) := ⟨_, rfl⟩
  rw [← hv]
  obtain ⟨R, len, a1, a2, a3, a4, a5, a6⟩ := fl_best (z := up2 y 10 2 v) (first := fsF y L.length) hn hO (fun q hq => by rw [up2_at (Or.inl (by decide))]; exact y12 q hq) (fun q hq => by rw [up2_at (Or.inl (by decide))]; exact (hc q (by omega) hq).2) hf 16 (Nat.le_refl _)
  have hrw : rwOk ρ (fun s => bt pb s = true) G len R := by
    refine ⟨a3, ?_⟩
    rcases a6 with ⟨_, b2⟩ | ⟨b1, q, hq, _, b3⟩
    · exact b2
    · have := aft_lt (hO.1 q hq).1 b3.2.2.1
      omega
  have e2 : (flS (up2 y 10 2 v) (fsF y L.length) 16).1 10 2 = v := by
    have : ∀ m, (flS (up2 y 10 2 v) (fsF y L.length) m).1 10 2 = v := fun m => by
      induction m with
      | zero =>
        show up2 (up2 y 10 2 v) 10 1 0 10 2 = v
        rw [up2_off (by omega), up2_same]
      | succ m ih =>
        unfold flS
        split
        · exact ih
        · dsimp only
          rw [up2_off (by omega), up2_off (by omega)]
          exact ih
    exact this 16
  refine ⟨R, len, a1, hrw, a2, a4, ?_⟩
  rw [e2, rw_min hG hrw, hv]
  rcases bst_BN hO hf with ⟨h1, h2⟩ | ⟨q, h1, h2, h3⟩
  · rw [if_pos h1]
    by_cases c : len = 0
    · rw [if_pos c]
    · have hB := hrw.1 0 (by omega)
      exact absurd hB.2.2.1 (h2 _ hB.1 hB.2.1)
  · have nm : ¬ nI q = -1 := fun z => by
      have := nI_pos (n := q) (by omega)
      rw [z] at this
      exact this (by decide)
    rw [h2, if_neg nm, nI_clamp (by omega), (hc q (by omega) h1).1]
    by_cases c : len = 0
    · subst c
      exact absurd h3.2.2.1 (hrw.2 _ h3.1 h3.2.1)
    · rw [if_neg c]
      have hB := hrw.1 0 (by omega)
      rw [BN.uniq hB h3]
end BEST4
end
section
/-! THE BEST SET, EXACTLY: what some players know; set -/
section BEST5
variable {Tm : MS} {Γ : RG} {σ τ ρ : MS} {a a1 a2 b : Int32}
/-- how many of the first n, of the set a, know the song s; K their songs -/
def knC (K : Nat → Int32) (a : Int32) (s : Nat) : Nat → Nat
  | 0 => 0
  | n + 1 => knC K a s n + if bt a n = true ∧ bt (K n) s = true then 1 else 0
def knP (K : Nat → Int32) (a : Int32) (n s : Nat) : Prop := 2 ≤ knC K a s n ∨ (knC K a s n = 1 ∧ bcI a = 1)
theorem knC_le {K : Nat → Int32} {a : Int32} {s : Nat} : ∀ n, knC K a s n ≤ n
  | 0 => Nat.le_refl _
  | n + 1 => by
    have := knC_le (K := K) (a := a) (s := s) n
    unfold knC
    split <;> omega
theorem knC_cg {K L : Nat → Int32} {a : Int32} {s : Nat} : ∀ n, (∀ p, p < n → K p = L p) → knC K a s n = knC L a s n
  | 0, _ => rfl
  | n + 1, h => by
    unfold knC
    rw [knC_cg n (fun p hp => h p (by omega)), h n (by omega)]
theorem kn_bt {σ : MS} {a : Int32} {s : Nat} : ∀ n, bt (kn σ a n).1 s = decide (1 ≤ knC (fun p => σ (29 + p) 1) a s n) ∧ bt (kn σ a n).2 s = decide (2 ≤ knC (fun p => σ (29 + p) 1) a s n)
  | 0 => by
    unfold kn knC
    exact ⟨(b_0 s).trans (decide_eq_false (by omega)).symm, (b_0 s).trans (decide_eq_false (by omega)).symm⟩
  | n + 1 => by
    obtain ⟨i1, i2⟩ := kn_bt (σ := σ) (a := a) (s := s) n
    unfold kn knC
    by_cases c : bt a n = true
    · rw [if_pos c]
      dsimp only
      rw [b_or, b_or, b_and, i1, i2]
      cases d : bt (σ (29 + n) 1) s with
      | true =>
        rw [if_pos ⟨c, rfl⟩]
        constructor
        · rw [Bool.or_true, decide_eq_true (by omega)]
        · rw [Bool.and_true, Bool.eq_iff_iff, Bool.or_eq_true, decide_eq_true_iff, decide_eq_true_iff, decide_eq_true_iff]
          omega
      | false =>
        rw [if_neg (fun z => by cases z.2), Nat.add_zero, Bool.or_false, Bool.and_false, Bool.or_false]
        exact ⟨rfl, rfl⟩
    · rw [if_neg c, if_neg (fun z => c z.1), Nat.add_zero]
      exact ⟨i1, i2⟩
theorem playF_bt {σ : MS} {a : Int32} {n s : Nat} : bt (playF σ a n) s = true ↔ knP (fun p => σ (29 + p) 1) a n s := by
  obtain ⟨i1, i2⟩ := kn_bt (σ := σ) (a := a) (s := s) n
  unfold playF knP
  by_cases c : bcI a = 1
  · rw [if_pos c, i1, decide_eq_true_iff]
    constructor
    · intro h
      rcases Nat.lt_or_ge (knC (fun p => σ (29 + p) 1) a s n) 2 with d | d
      · exact Or.inr ⟨by omega, c⟩
      · exact Or.inl d
    · rintro (h | h) <;> omega
  · rw [if_neg c, i2, decide_eq_true_iff]
    constructor
    · exact Or.inl
    · rintro (h | h)
      · exact h
      · exact absurd h.2 c
theorem sx_isKnown {post : Int32 → MS → Prop} {s : Nat} (O : rOk Tm Γ σ) (hs : s < 16) (h1 : knP (fun p => σ (13 + p) 1) a1 Γ.1 s → post 1 σ) (h0 : ¬ knP (fun p => σ (13 + p) 1) a1 Γ.1 s → post 0 σ) : w_X11_isKnown Γ post σ a1 (nI s) := by
  have hP := O.hP
  unfold w_X11_isKnown
  have := inv_loop (fun k (q : Int32 × Int32) => u_X11_isKnown_5 Γ post a1 (nI s) k σ q.1 q.2) (fun j q => q.1 = nI (knC (fun p => σ (13 + p) 1) a1 s j) ∧ q.2 = nI j) Γ.1 (by
    rintro ⟨x, v⟩ ⟨rfl, rfl⟩
    have hc := knC_le (K := fun p => σ (13 + p) 1) (a := a1) (s := s) Γ.1
    unfold knP at h1 h0
    show u_X11_isKnown_5 Γ post a1 (nI s) 1 σ (nI (knC (fun p => σ (13 + p) 1) a1 s Γ.1)) (nI Γ.1)
    generalize knC (fun p => σ (13 + p) 1) a1 s Γ.1 = cc at h1 h0 hc
    unfold u_X11_isKnown_5 w_lp_Jx4a65c_size_8abf5
    rw [O.p]
    refine ⟨fun _ => ⟨fun c => h1 (Or.inl ?_), fun c => ⟨fun d => sx_bc ⟨fun e => h1 (Or.inr ⟨?_, e⟩), fun e => h0 (fun z => ?_)⟩, fun d => h0 (fun z => ?_)⟩⟩, fun c => absurd (le_self _) c⟩
    · rcases Nat.lt_or_ge cc 2 with g | g
      · exact absurd (show nI 2 ≤ nI cc from c) (nI_ge g (by decide))
      · exact g
    · exact (nI_eq (by omega) (by decide)).mp (show nI cc = nI 1 from d)
    · rcases z with z | z
      · exact c (show nI 2 ≤ nI cc from nI_le' z (by omega))
      · exact e z.2
    · rcases z with z | z
      · exact c (show nI 2 ≤ nI cc from nI_le' z (by omega))
      · exact d (by rw [z.1]; rfl)) (by
    rintro j k ⟨x, v⟩ hj ⟨rfl, rfl⟩ ih
    have st : ∀ w, w = nI (knC (fun p => σ (13 + p) 1) a1 s (j + 1)) → u_X11_isKnown_5 Γ post a1 (nI s) k σ w (nI j + 1) := fun w e => by rw [nI_1, e]; exact ih (_, nI (j + 1)) ⟨rfl, rfl⟩
    show u_X11_isKnown_5 Γ post a1 (nI s) (k + 1) σ (nI (knC (fun p => σ (13 + p) 1) a1 s j)) (nI j)
    unfold u_X11_isKnown_5 w_lp_Jx4a65c_size_8abf5
    rw [O.p]
    unfold knC at st
    refine ⟨fun c => absurd c (nI_ge hj (by omega)), fun _ => sx_isIn (by omega) ⟨fun c => ?_, fun c => sf_pget O hj rfl ⟨⟨by omega, hj⟩, sx_isIn (by omega) ⟨fun d => ?_, fun d => ?_⟩⟩⟩⟩
    · refine st _ ?_
      rw [if_neg (fun z => by rw [b01_0.mp c] at z; cases z.1)]
      show _ + nI 0 = _
      rw [nI_add]
    · refine st _ ?_
      rw [if_neg (fun z => by have y := z.2; rw [b01_0.mp d] at y; cases y)]
      show _ + nI 0 = _
      rw [nI_add]
    · refine st _ ?_
      rw [if_pos ⟨b01_1.mp c, b01_1.mp d⟩]
      show _ + nI 1 = _
      rw [nI_add]) 0 (by omega) (0, 0) ⟨nI_0.symm, nI_0.symm⟩
  exact this
theorem rwSum_cg {f g : Nat → Int32} {R : Nat → Nat} : ∀ n, (∀ i, i < n → f (R i) = g (R i)) → rwSum f R n = rwSum g R n
  | 0, _ => rfl
  | n + 1, h => by
    unfold rwSum
    rw [rwSum_cg n (fun i hi => h i (by omega)), h n (by omega)]
theorem rwSum_R {f : Nat → Int32} {R Q : Nat → Nat} : ∀ n, (∀ i, i < n → R i = Q i) → rwSum f R n = rwSum f Q n
  | 0, _ => rfl
  | n + 1, h => by
    unfold rwSum
    rw [rwSum_R n (fun i hi => h i (by omega)), h n (by omega)]
/-- set: what it answers; p says which songs can be played -/
theorem sx_set {p : Int32} {post : Int32 → MS → Prop} (O : rOk Tm Γ σ) (hp : ∀ s, s < 16 → (bt p s = true ↔ knP (fun q => σ (13 + q) 1) a1 Γ.1 s))
    (h1 : ¬ (0 ≤ a1 ∧ a1 < nI (2 ^ Γ.1)) → ∀ τ, rOk Tm Γ τ → τ 0 0 = 1 → post 0 τ)
    (h2 : 0 ≤ a1 ∧ a1 < nI (2 ^ Γ.1) → ∀ (len : Nat) (R G : Nat → Nat), len ≤ 16 → gOk (up2 σ 0 0 0) (fun s => bt p s = true) G → rwOk (up2 σ 0 0 0) (fun s => bt p s = true) G len R → ∀ τ, rOk Tm Γ τ → τ 0 0 = 0 → post (if a2 = 0 then nI len else rwSum (fun s => up2 σ 0 0 0 9 s) R len) τ) : w_X11_set Γ post σ a1 a2 := by
  unfold w_X11_set u_X11_set_22 w_lp_Jx4a65c_size_8abf5
  have hP := O.hP
  have O := O.up (k := 0) (j := 0) (v := 0) (by unfold rPr; omega)
  have z0 : up2 σ 0 0 0 0 0 = 0 := up2_same
  have kq : ∀ q j, up2 σ 0 0 0 (13 + q) j = σ (13 + q) j := fun q j => up2_off (by omega)
  rw [O.p]
  dsimp only
  rw [shl1 Γ.1 hP]
  refine ⟨fun c => sx_refuse O (h1 (fun z => Int32.not_lt.mpr z.1 c)), fun c => ⟨fun d => ?_, fun d => sx_refuse O (h1 (fun z => d z.2))⟩⟩
  have h2 := h2 ⟨Int32.not_lt.mp c, d⟩
  have kn : ∀ (τ : MS) (s : Nat) (post' : Int32 → MS → Prop), s < 16 → (∀ k, k < 64 → τ k = up2 σ 0 0 0 k) → rOk Tm Γ τ → (bt p s = true → post' 1 τ) → (¬ bt p s = true → post' 0 τ) → w_X11_isKnown Γ post' τ a1 (nI s) := fun τ s post' hs hlo O' g1 g0 => by
    have e : knC (fun q => τ (13 + q) 1) a1 s Γ.1 = knC (fun q => σ (13 + q) 1) a1 s Γ.1 := knC_cg _ (fun q hq => by rw [hlo (13 + q) (by omega)]; exact kq q 1)
    have e2 : knP (fun q => τ (13 + q) 1) a1 Γ.1 s ↔ bt p s = true := by
      rw [hp s hs]
      unfold knP
      rw [e]
    exact sx_isKnown O' hs (fun z => g1 (e2.mp z)) (fun z => g0 (fun y => z (e2.mpr y)))
  refine ⟨fun e => ?_, fun e => ?_⟩
  · refine sx_bestSet O kn (fun len f τ R G hlo O' hl hG hrw hf => ?_)
    have := h2 len R G hl hG hrw (rw0 (mrg τ (up2 σ 0 0 0)) 64 f) (O'.mrg.rw0 (by decide)) (by rw [rw0_ne (by decide), mrg_lo (by decide), hlo 0 (by decide)]; exact z0)
    rw [if_pos e] at this
    exact this
  · unfold w_X11_minutesOf
    refine sx_bestSet O kn (fun len f τ R G hlo O' hl hG hrw hf => ?_)
    have O2 : rOk Tm Γ (rw0 (mrg τ (up2 σ 0 0 0)) 64 f) := O'.mrg.rw0 (by decide)
    have hz : rw0 (mrg τ (up2 σ 0 0 0)) 64 f 0 0 = 0 := by rw [rw0_ne (by decide), mrg_lo (by decide), hlo 0 (by decide)]; exact z0
    have h9 : ∀ s, rw0 (mrg τ (up2 σ 0 0 0)) 64 f 9 s = up2 σ 0 0 0 9 s := fun s => by rw [rw0_ne (by decide), mrg_lo (by decide), hlo 9 (by decide)]
    have fin := h2 len R G hl hG hrw _ O2 hz
    rw [if_neg e] at fin
    have := inv_loop (fun k (q : Int32 × Int32) => u_X11_minutesOf_15 Γ post a1 k (rw0 (mrg τ (up2 σ 0 0 0)) 64 f) q.1 (nI len) q.2 len) (fun j q => q.1 = rwSum (fun s => up2 σ 0 0 0 9 s) R j ∧ q.2 = nI j) len (by
      rintro ⟨x, v⟩ ⟨rfl, rfl⟩
      show u_X11_minutesOf_15 Γ post a1 1 (rw0 (mrg τ (up2 σ 0 0 0)) 64 f) _ (nI len) (nI len) len
      unfold u_X11_minutesOf_15
      exact ⟨fun _ => fin, fun c => absurd (le_self _) c⟩) (by
      rintro j k ⟨x, v⟩ hj ⟨rfl, rfl⟩ ih
      have cj : (nI j).toNatClampNeg = j := nI_clamp (by omega)
      obtain ⟨hs, es⟩ := hf j hj
      show u_X11_minutesOf_15 Γ post a1 (k + 1) (rw0 (mrg τ (up2 σ 0 0 0)) 64 f) _ (nI len) (nI j) len
      unfold u_X11_minutesOf_15
      rw [cj, rw0_eq, es]
      refine ⟨fun c => absurd c (nI_ge hj (by omega)), fun _ => ⟨vp_in_nI hj (by omega), vp_in_nI hs (by decide), ?_⟩⟩
      rw [nI_1 j, nI_clamp (by omega), h9]
      exact ih (_, nI (j + 1)) ⟨rfl, rfl⟩) 0 (by omega) (0, 0) ⟨rfl, nI_0.symm⟩
    exact this
end BEST5
end
section
/-! numbers within bounds; roads; costs -/
theorem nI_mul (a b : Nat) : nI a * nI b = nI (a * b) := (Int32.ofNat_mul a b).symm
def rg (lo hi : Nat) (x : Int32) : Prop := ∃ n : Nat, lo ≤ n ∧ n ≤ hi ∧ x = nI n
theorem rg.wk {a b c d : Nat} {x : Int32} (h : rg a b x) (h1 : c ≤ a) (h2 : b ≤ d) : rg c d x := by
  obtain ⟨n, p, q, r⟩ := h
  exact ⟨n, by omega, by omega, r⟩
theorem rg.add {a b c d : Nat} {x y : Int32} (h : rg a b x) (g : rg c d y) : rg (a + c) (b + d) (x + y) := by
  obtain ⟨n, p, q, rfl⟩ := h
  obtain ⟨m, r, s, rfl⟩ := g
  exact ⟨n + m, by omega, by omega, nI_add n m⟩
theorem rg.mul {a b c d : Nat} {x y : Int32} (h : rg a b x) (g : rg c d y) : rg (a * c) (b * d) (x * y) := by
  obtain ⟨n, p, q, rfl⟩ := h
  obtain ⟨m, r, s, rfl⟩ := g
  exact ⟨n * m, Nat.mul_le_mul p r, Nat.mul_le_mul q s, nI_mul n m⟩
theorem rg.div {a b k : Nat} {x : Int32} (h : rg a b x) (hb : b < 2 ^ 31) (hk : 0 < k) (hk2 : k < 2 ^ 31) : rg (a / k) (b / k) (x / nI k) := by
  obtain ⟨n, p, q, rfl⟩ := h
  exact ⟨n / k, Nat.div_le_div_right p, Nat.div_le_div_right q, pk_div (by omega) hk hk2⟩
theorem rg.self (n : Nat) : rg n n (nI n) := ⟨n, Nat.le_refl n, Nat.le_refl n, rfl⟩
theorem rg.le {a b c : Nat} {x : Int32} (h : rg a b x) (hb : b ≤ c) (hc : c < 2 ^ 31) : x ≤ nI c := by
  obtain ⟨n, p, q, rfl⟩ := h
  exact nI_le (by omega) hc
theorem rg.ge {a b c : Nat} {x : Int32} (h : rg a b x) (hb : c ≤ a) (hc : b < 2 ^ 31) : nI c ≤ x := by
  obtain ⟨n, p, q, rfl⟩ := h
  exact nI_le (by omega) (by omega)
theorem rg.nlt {a b c : Nat} {x : Int32} (h : rg a b x) (hb : c ≤ a) (hc : b < 2 ^ 31) : ¬ x < nI c := by
  obtain ⟨n, p, q, rfl⟩ := h
  exact nI_nlt (by omega) (by omega)
theorem rg.ngt {a b c : Nat} {x : Int32} (h : rg a b x) (hb : b ≤ c) (hc : c < 2 ^ 31) : ¬ nI c < x := by
  obtain ⟨n, p, q, rfl⟩ := h
  exact nI_nlt (by omega) (by omega)
/-- a way between two towns: none, or so many hours -/
def wy (M : Nat) (v : Int32) : Prop := v = -1 ∨ rg 0 M v
theorem wy.wk {M N : Nat} {v : Int32} (h : wy M v) (hM : M ≤ N) : wy N v := h.elim Or.inl (fun h => Or.inr (h.wk (Nat.le_refl _) hM))
theorem m1_n {n : Nat} (h : n < 2 ^ 31) : nI n ≠ -1 := fun e => nI_pos h (by rw [e]; decide)
def Rd (M o : Nat) (x : MS) : Prop := ∀ a b, a < 6 → b < 6 → wy (2 * M) (x (23 + a) b) ∧ (a = o ∨ b = o → wy M (x (23 + a) b))
theorem rd_shB {M o a b : Nat} {x : MS} (ha : a < 6) (hb : b < 6) (ho : o < 6) (hM : 2 * M < 2 ^ 31) (h : Rd M o x) : Rd M o (shB x o a b) := by
  unfold shB
  split
  · exact h
  · rename_i c
    have c1 : ¬ x (23 + a) o = -1 := fun q => c (Or.inl q)
    have c2 : ¬ x (23 + o) b = -1 := fun q => c (Or.inr q)
    have s1 : rg 0 M (x (23 + a) o) := ((h a o ha ho).2 (Or.inr rfl)).elim (fun q => absurd q c1) id
    have s2 : rg 0 M (x (23 + o) b) := ((h o b ho hb).2 (Or.inl rfl)).elim (fun q => absurd q c2) id
    have hs : rg 0 (2 * M) (x (23 + a) o + x (23 + o) b) := (s1.add s2).wk (by omega) (by omega)
    intro a' b' ha' hb'
    by_cases e : a' = a ∧ b' = b
    · obtain ⟨rfl, rfl⟩ := e
      rw [up2_same]
      by_cases d : x (23 + a') b' = -1
      · rw [if_pos d]
        refine ⟨Or.inr hs, fun q => ?_⟩
        rcases q with rfl | rfl
        · exact absurd d c2
        · exact absurd d c1
      · rw [if_neg d]
        have h0 := h a' b' ha' hb'
        by_cases f : x (23 + a') o + x (23 + o) b' < x (23 + a') b'
        · rw [if_pos f]
          refine ⟨Or.inr hs, fun q => Or.inr ?_⟩
          have h1 : rg 0 M (x (23 + a') b') := (h0.2 q).elim (fun z => absurd z d) id
          obtain ⟨n, p1, p2, p3⟩ := h1
          obtain ⟨m, q1, q2, q3⟩ := hs
          rw [p3, q3] at f
          have := (nI_ltI (by omega) (by omega)).mp f
          exact ⟨m, by omega, by omega, q3⟩
        · rw [if_neg f]
          exact h0
    · rw [up2_at (by omega)]
      exact h a' b' ha' hb'
theorem rd_shA {M o a : Nat} {x : MS} (ha : a < 6) (ho : o < 6) (hM : 2 * M < 2 ^ 31) (h : Rd M o x) : ∀ n, n ≤ 6 → Rd M o (shA x o a n)
  | 0, _ => h
  | n + 1, hn => rd_shB ha (by omega) ho hM (rd_shA ha ho hM h n (by omega))
theorem rd_shO {M o : Nat} {x : MS} (ho : o < 6) (hM : 2 * M < 2 ^ 31) (h : Rd M o x) : ∀ n, n ≤ 6 → Rd M o (shO x o n)
  | 0, _ => h
  | n + 1, hn => rd_shA (by omega) ho hM (rd_shO ho hM h n (by omega)) 6 (by decide)
def Wy_i (M : Nat) (x : MS) : Prop := ∀ a b, a < 6 → b < 6 → wy M (x (23 + a) b)
theorem wy_shO {M o : Nat} {x : MS} (ho : o < 6) (hM : 2 * M < 2 ^ 31) (h : Wy_i M x) : Wy_i (2 * M) (shO x o 6) := fun a b ha hb =>
  (rd_shO (M := M) ho hM (fun a b ha hb => ⟨(h a b ha hb).wk (by omega), fun _ => h a b ha hb⟩) 6 (by decide) a b ha hb).1
theorem wy_ovS {x : MS} (h : Wy_i 9 x) : Wy_i 576 (ovS x 6) :=
  wy_shO (M := 288) (by decide) (by decide) (wy_shO (M := 144) (by decide) (by decide) (wy_shO (M := 72) (by decide) (by decide) (wy_shO (M := 36) (by decide) (by decide) (wy_shO (M := 18) (by decide) (by decide) (wy_shO (M := 9) (by decide) (by decide) h)))))
def Hr (x : MS) : Prop := ∀ a b, a < 6 → b < 6 → rg 0 9 (x (17 + a) b)
theorem shB_k {x : MS} {o a b k : Nat} (h : k ≠ 23 + a) : shB x o a b k = x k := by
  unfold shB
  split
  · rfl
  · exact up2_ne h
theorem shA_k {x : MS} {o a k : Nat} (h : k ≠ 23 + a) : ∀ n, shA x o a n k = x k
  | 0 => rfl
  | n + 1 => (shB_k h).trans (shA_k h n)
theorem shO_k {x : MS} {o k : Nat} (h : k < 23 ∨ 29 ≤ k) : ∀ n, n ≤ 6 → shO x o n k = x k
  | 0, _ => rfl
  | n + 1, hn => (shA_k (by omega) 6).trans (shO_k h n (by omega))
theorem ovS_k {x : MS} {k : Nat} (h : k < 23 ∨ 29 ≤ k) : ∀ n, ovS x n k = x k
  | 0 => rfl
  | n + 1 => (shO_k h 6 (by decide)).trans (ovS_k h n)
theorem lyB_k {x : MS} {a k : Nat} (h : k ≠ 23 + a) : ∀ n, lyB x a n k = x k
  | 0 => rfl
  | n + 1 => (up2_ne h).trans (lyB_k h n)
theorem lyA_k {x : MS} {k : Nat} (h : k < 23 ∨ 29 ≤ k) : ∀ n, n ≤ 6 → lyA x n k = x k
  | 0, _ => rfl
  | n + 1, hn => (lyB_k (by omega) 6).trans (lyA_k h n (by omega))
theorem lyV_ok {x : MS} {a b : Nat} (h : rg 0 9 (x (17 + a) b)) : wy 9 (lyV x a b) := by
  unfold lyV
  split
  · exact Or.inr ⟨0, by omega, by omega, nI_0.symm⟩
  · split
    · exact Or.inl rfl
    · exact Or.inr h
theorem lyB_ok {x : MS} {a : Nat} (ha : a < 6) (h : Hr x) : ∀ n, n ≤ 6 → ∀ b, b < n → wy 9 (lyB x a n (23 + a) b)
  | 0, _, b, hb => absurd hb (by omega)
  | n + 1, hn, b, hb => by
    show wy 9 (up2 (lyB x a n) (23 + a) n (lyV (lyB x a n) a n) (23 + a) b)
    by_cases e : b = n
    · subst e
      rw [up2_same]
      refine lyV_ok ?_
      rw [lyB_k (by omega)]
      exact h a b ha (by omega)
    · rw [up2_at (by omega)]
      exact lyB_ok ha h n (by omega) b (by omega)
theorem lyA_ok {x : MS} (h : Hr x) : ∀ n, n ≤ 6 → ∀ a b, a < n → b < 6 → wy 9 (lyA x n (23 + a) b)
  | 0, _, a, b, ha, hb => absurd ha (by omega)
  | n + 1, hn, a, b, ha, hb => by
    show wy 9 (lyB (lyA x n) n 6 (23 + a) b)
    by_cases e : a = n
    · subst e
      exact lyB_ok (by omega) (fun a' b' h1 h2 => by rw [lyA_k (by omega) a (by omega)]; exact h a' b' h1 h2) 6 (by decide) b hb
    · rw [lyB_k (by omega)]
      exact lyA_ok h n (by omega) a b (by omega) hb
theorem lay_ok {x : MS} {i j : Nat} {v : Int32} (hi : i < 6) (hj : j < 6) (hv : rg 0 9 v) (h : Hr x) : Hr (layS x i j v) ∧ Wy_i 576 (layS x i j v) := by
  have h2 : Hr (up2 (up2 x (17 + i) j v) (17 + j) i v) := fun a b ha hb => by
    by_cases e : a = j ∧ b = i
    · obtain ⟨rfl, rfl⟩ := e
      rw [up2_same]; exact hv
    · rw [up2_at (by omega)]
      by_cases e2 : a = i ∧ b = j
      · obtain ⟨rfl, rfl⟩ := e2
        rw [up2_same]; exact hv
      · rw [up2_at (by omega)]; exact h a b ha hb
  refine ⟨fun a b ha hb => ?_, ?_⟩
  · unfold layS
    rw [ovS_k (by omega), lyA_k (by omega) 6 (by decide)]
    exact h2 a b ha hb
  · exact wy_ovS (lyA_ok h2 6 (by decide))
theorem lay_k {x : MS} {i j k : Nat} {v : Int32} (hi : i < 6) (hj : j < 6) (h : k < 17 ∨ 29 ≤ k) : layS x i j v k = x k := by
  unfold layS
  rw [ovS_k (by omega), lyA_k (by omega) 6 (by decide), up2_ne (by omega), up2_ne (by omega)]
/-! costs -/
theorem cost_ok {σ : MS} {p w : Nat} (hw : Wy_i 576 σ) (hh : vp_in (σ (29 + p) 2) 6) (ht : vp_in (σ (73 + w) 2) 6) (hf : rg 0 99 (σ (29 + p) 3)) (hl : rg 0 6 (σ (73 + w) 4)) : rg 0 6354 (costF σ p w) := by
  unfold costF
  have h1 : rg 0 576 (if 0 < wayF σ (σ (29 + p) 2) (σ (73 + w) 2) then wayF σ (σ (29 + p) 2) (σ (73 + w) 2) else 0) := by
    split
    · rename_i c
      rcases hw _ _ (vlt hh) (vlt ht) with q | q
      · exact absurd (show (0 : Int32) < -1 by rw [show (-1 : Int32) = wayF σ (σ (29 + p) 2) (σ (73 + w) 2) from q.symm]; exact c) (by decide)
      · exact q
    · exact ⟨0, by omega, by omega, nI_0.symm⟩
  exact ((hf.mul hl).add ((rg.self 10).mul h1)).wk (by omega) (by omega)
theorem sum_ok {f : Nat → Int32} {M : Nat} : ∀ n, (∀ p, p < n → rg 0 M (f p)) → rg 0 (n * M) (sumI f n)
  | 0, _ => ⟨0, by omega, by omega, nI_0.symm⟩
  | n + 1, h => by
    have := (sum_ok n (fun p hp => h p (by omega))).add (h n (by omega))
    exact this.wk (by omega) (by rw [Nat.succ_mul]; omega)
theorem ifb_ok {s : Int32} {f : Nat → Int32} {M p : Nat} (h : rg 0 M (f p)) : rg 0 M (ifb s f p) := by
  unfold ifb
  split
  · exact h
  · exact ⟨0, by omega, by omega, nI_0.symm⟩
theorem price_ok {c : Int32} (h : rg 0 63540 c) : rg 50 76298 (priceI c) := by
  unfold priceI
  exact (((h.mul (rg.self 6)).div (k := 5) (by decide) (by decide) (by decide)).add (rg.self 50)).wk (by omega) (by omega)
end
section
/-! who is seated has an instrument of the band; what the survey finds is such a set -/
def seats (σ : MS) (b p : Nat) : Prop := ∃ j, nI j < σ (55 + b) 2 ∧ j < 2 ^ 31 ∧ bt (σ (29 + p) 0) (pl σ b j) = true
theorem bt_one : ∀ q, q < 32 → ∀ p, p < 32 → bt (one q) p = decide (p = q) := by decide +kernel
theorem clr_nI_i {i q : Nat} (hi : i < 1024) : nI (clr (nI i) q) = nI i &&& (one q ^^^ (-1)) := by
  unfold clr
  obtain ⟨j, hj, h⟩ := and_small (i := i) (M := 1024) hi (by decide) (one q ^^^ (-1))
  rw [show (1 : Int32) <<< (nI q &&& 31) = one q from rfl, h, nI_clamp (by omega)]
theorem clr_bt_i {i p q : Nat} (hi : i < 1024) (hp : p < 32) (hq : q < 32) : bt (nI (clr (nI i) q)) p = (bt (nI i) p && !decide (p = q)) := by
  rw [clr_nI_i hi, b_and, b_xor, bt_one q hq p hp, b_m1 p hp]
  simp
theorem seatB_ex_i {σ : MS} {b last : Nat} {s : Int32} : ∀ {n : Nat}, seatB σ b last s n = true → ∃ q, q < n ∧ bt s q = true ∧ bt (σ (29 + q) 0) (pl σ b last) = true ∧ ¬ σ 8 (clr s q) = 0
  | 0, h => by cases h
  | n + 1, h => by
    unfold seatB at h
    rcases Bool.or_eq_true _ _ |>.mp h with h | h
    · obtain ⟨q, h1, h2⟩ := seatB_ex_i h
      exact ⟨q, by omega, h2⟩
    · exact ⟨n, by omega, of_decide_eq_true h⟩
theorem sat_seat {σ : MS} {b P : Nat} (hP : P ≤ 10) : ∀ n, n < 1024 → ∀ s, s ≤ n → ¬ sat σ b P n 8 s = 0 → ∀ p, p < P → bt (nI s) p = true → seats σ b p
  | 0, _, s, hs, _, p, _, hp => by
    obtain rfl : s = 0 := by omega
    rw [nI_0, b_0] at hp
    cases hp
  | n + 1, hn, s, hs, h8, p, hpP, hp => by
    have ih := sat_seat (σ := σ) (b := b) hP n (by omega)
    have hsc := Scr.sat σ b P n
    unfold sat at h8
    generalize sat σ b P n = y at ih hsc h8
    by_cases e : s = n + 1
    · subst e
      rw [up2_same] at h8
      have hf := b01_1.mp h8
      unfold seatF at hf
      by_cases c : bcI (nI (n + 1)) - 1 < 0
      · rw [if_pos c] at hf; cases hf
      · rw [if_neg c] at hf
        by_cases d : bcI (nI (n + 1)) - 1 < y (55 + b) 2
        · rw [if_pos d] at hf
          obtain ⟨last, hlt, hl⟩ := nI_of c
          rw [hl, nI_clamp hlt] at hf
          rw [hl, hsc (55 + b) (by omega)] at d
          obtain ⟨q, hq, h1, h2, h3⟩ := seatB_ex_i hf
          by_cases e2 : p = q
          · subst e2
            refine ⟨last, d, hlt, ?_⟩
            rw [hsc (29 + p) (by omega)] at h2
            unfold pl at h2 ⊢
            rw [hsc (67 + b) (by omega)] at h2
            exact h2
          · have hlt2 := clr_lt q (by omega) (n + 1) hn h1
            exact ih _ (by omega) h3 p hpP (by rw [clr_bt_i hn (by omega) (by omega), hp, decide_eq_false e2]; rfl)
        · rw [if_neg d] at hf; cases hf
    · rw [up2_at (by omega)] at h8
      exact ih s (by omega) h8 p hpP hp
theorem seats_sc {σ τ : MS} (h : Scr σ τ) {b p : Nat} (hs : seats τ b p) : seats σ b p := by
  unfold seats pl at hs ⊢
  rw [h.c55, h.c67, h.c29] at hs
  exact hs
theorem surv_fil {σ : MS} {w P : Nat} {free had : Int32} (hP : P ≤ 10) (h : ¬ survF σ w P free had 9 3 = 0) : ∃ s, 1 ≤ s ∧ s < 2 ^ P ∧ survF σ w P free had 9 0 = nI s ∧ survF σ w P free had 9 1 = costsF σ (nI s) w P ∧ bcI (nI s) = σ (55 + bdOf σ w) 2 ∧ ∀ p, p < P → bt (nI s) p = true → seats σ (bdOf σ w) p := by
  rcases surv_best σ w P free had with q | ⟨s, ⟨h1, h2, _, h4, h5, _, _⟩, e1, e2⟩
  · exact absurd q h
  · have hp2 := pw1024 hP
    rw [costsF_sc (Scr.svIn σ w P)] at e2
    refine ⟨s, h1, h2, e1, e2, h5, fun p hp hb => ?_⟩
    unfold svIn at h4
    have := sat_seat (σ := clearF σ) (b := bdOf σ w) hP (2 ^ P - 1) (by omega) s (by omega) h4 p hp hb
    exact seats_sc (Scr.clear σ) this
/-! a number's bits, counted -/
theorem bc_ct_i : ∀ s, s < 1024 → bcI (nI s) = nI (fb_ct (fun p => bt (nI s) p) 10) := by decide +kernel
theorem bt_lt : ∀ s, s < 1024 → ∀ p, p < 11 → s < 2 ^ p → bt (nI s) p = false := by decide +kernel
theorem bt_hi {s P p : Nat} (hP : P ≤ 10) (hs : s < 2 ^ P) (h : P ≤ p) (hp : p ≤ 10) : bt (nI s) p = false :=
  bt_lt s (Nat.lt_of_lt_of_le hs (pw1024 hP).2) p (by omega) (Nat.lt_of_lt_of_le hs (Nat.pow_le_pow_right (by decide) h))
theorem ct_ext {f : Nat → Bool} {P : Nat} : ∀ d, (∀ p, P ≤ p → p < P + d → f p = false) → fb_ct f (P + d) = fb_ct f P
  | 0, _ => rfl
  | d + 1, h => by
    show fb_ct f (P + d + 1) = _
    rw [fb_ct_succ, h (P + d) (by omega) (by omega), ct_ext d (fun p h1 h2 => h p h1 (by omega))]
    rfl
theorem bc_P {s P : Nat} (hP : P ≤ 10) (hs : s < 2 ^ P) : bcI (nI s) = nI (fb_ct (fun p => bt (nI s) p) P) := by
  rw [bc_ct_i s (Nat.lt_of_lt_of_le hs (pw1024 hP).2)]
  have := ct_ext (f := fun p => bt (nI s) p) (P := P) (10 - P) (fun p h1 h2 => bt_hi hP hs h1 (by omega))
  rw [show P + (10 - P) = 10 by omega] at this
  rw [this]
theorem bt_some : ∀ s, s < 1024 → 1 ≤ s → 1 ≤ fb_ct (fun p => bt (nI s) p) 10 := by decide +kernel
theorem bt_ex {s P : Nat} (hP : P ≤ 10) (hs : s < 2 ^ P) (h1 : 1 ≤ s) : ∃ p, p < P ∧ bt (nI s) p = true := by
  have h2 := bt_some s (Nat.lt_of_lt_of_le hs (pw1024 hP).2) h1
  obtain ⟨p, hp, h3⟩ := fb_ct_pos.mp (show 0 < _ from h2)
  by_cases c : p < P
  · exact ⟨p, c, h3⟩
  · have := bt_hi hP hs (by omega) (show p ≤ 10 by omega)
    rw [this] at h3; cases h3
/-! a band: so many places, each of an instrument that it needs -/
def Bd (σ : MS) (b : Nat) : Prop := ∃ t, 1 ≤ t ∧ t ≤ 5 ∧ σ (55 + b) 2 = nI t ∧ ∀ j, j < t → ∃ q r, q < 6 ∧ σ (67 + b) j = nI q ∧ 1 ≤ r ∧ r ≤ 2 ∧ σ (61 + b) q = nI r
def Bg (k : Nat) (y : MS) (b : Nat) (t : Nat) : Prop := y (55 + b) 2 = nI t ∧ t ≤ 5 ∧ ∀ j, j < t → ∃ q r, q < 6 ∧ q < k ∧ y (67 + b) j = nI q ∧ 1 ≤ r ∧ r ≤ 2 ∧ y (61 + b) q = nI r
theorem tkI_g {y : MS} {b k r t : Nat} (hb : b < 6) (hk : k < 6) (hr : r ≤ 2) (hn : y (61 + b) k = nI r) (h : Bg (k + 1) y b t) : ∀ i, i ≤ r → ∃ t', Bg (k + 1) (tkI y b k i) b t' ∧ t ≤ t' ∧ (1 ≤ i → 1 ≤ t')
  | 0, _ => ⟨t, h, Nat.le_refl t, fun c => absurd c (by omega)⟩
  | i + 1, hi => by
    obtain ⟨u, ⟨g1, g2, g3⟩, hu, hu1⟩ := tkI_g hb hk hr hn h i (by omega)
    have e61 := tkI_n (x := y) (k := k) hb i
    unfold tkI
    generalize tkI y b k i = z at g1 g3 e61
    by_cases c : 5 ≤ z (55 + b) 2
    · rw [if_pos c]
      have : 5 ≤ u := by
        rw [g1] at c
        exact Nat.le_of_not_lt fun q => absurd c (show ¬ nI 5 ≤ nI u from nI_ge q (by omega))
      exact ⟨u, ⟨g1, g2, g3⟩, hu, fun _ => by omega⟩
    · rw [if_neg c]
      have hu5 : u < 5 := Nat.lt_of_not_le fun q => c (by rw [g1]; exact (show nI 5 ≤ nI u from nI_le q (by omega)))
      refine ⟨u + 1, ⟨?_, by omega, fun j hj => ?_⟩, by omega, fun _ => by omega⟩
      · rw [up2_same, g1, nI_1]
      · rw [g1, nI_clamp (by omega)]
        by_cases e : j = u
        · subst e
          refine ⟨k, r, hk, by omega, ?_, by omega, hr, ?_⟩
          · rw [up2_at (by omega), up2_same]
          · rw [up2_at (by omega), up2_at (by omega), e61]; exact hn
        · obtain ⟨q, r', a1, a2, a3, a4, a5, a6⟩ := g3 j (by omega)
          refine ⟨q, r', a1, a2, ?_, a4, a5, ?_⟩
          · rw [up2_at (by omega), up2_at (by omega)]; exact a3
          · rw [up2_at (by omega), up2_at (by omega)]; exact a6
theorem tkO_g {x : MS} {b m : Nat} (hb : b < 6) (hm : m ≤ 728) (h0 : x (55 + b) 2 = nI 0) : ∀ n, n ≤ 6 → ∃ t, Bg n (tkO x b (nI m) n).1 b t ∧ ((∃ k, k < n ∧ 1 ≤ m / 3 ^ k % 3) → 1 ≤ t)
  | 0, _ => ⟨0, ⟨h0, by omega, fun j hj => absurd hj (by omega)⟩, fun ⟨k, hk, _⟩ => absurd hk (by omega)⟩
  | n + 1, hn => by
    obtain ⟨t, ⟨g1, g2, g3⟩, ht⟩ := tkO_g (x := x) hb hm h0 n (by omega)
    have e2 := tkO_2 (x := x) (b := b) hm n
    have d := dv3 _ (Nat.le_trans (Nat.div_le_self m (3 ^ n)) hm)
    show ∃ t, Bg (n + 1) (tkI (up2 (tkO x b (nI m) n).1 (61 + b) n ((tkO x b (nI m) n).2 - (tkO x b (nI m) n).2 / 3 * 3)) b n ((tkO x b (nI m) n).2 - (tkO x b (nI m) n).2 / 3 * 3).toNatClampNeg) b t ∧ _
    generalize tkO x b (nI m) n = y at g1 g3 e2 ⊢
    rw [e2, d.2]
    have hr : m / 3 ^ n % 3 ≤ 2 := by omega
    rw [nI_clamp (by omega)]
    have hB : Bg (n + 1) (up2 y.1 (61 + b) n (nI (m / 3 ^ n % 3))) b t := by
      refine ⟨by rw [up2_at (by omega)]; exact g1, g2, fun j hj => ?_⟩
      obtain ⟨q, r, a1, a2, a3, a4, a5, a6⟩ := g3 j hj
      exact ⟨q, r, a1, by omega, by rw [up2_at (by omega)]; exact a3, a4, a5, by rw [up2_at (by omega)]; exact a6⟩
    obtain ⟨t', h1, h2, h3⟩ := tkI_g hb (by omega) hr up2_same hB (m / 3 ^ n % 3) (Nat.le_refl _)
    refine ⟨t', h1, fun ⟨k, hk, hk2⟩ => ?_⟩
    by_cases e : k = n
    · subst e; exact h3 hk2
    · have := ht ⟨k, by omega, hk2⟩
      omega
theorem dig_ex : ∀ m, m ≤ 728 → 1 ≤ m → ∃ k, k < 6 ∧ 1 ≤ m / 3 ^ k % 3 := by decide +kernel
theorem bd_new {x : MS} {b m : Nat} (hb : b < 6) (hm : m ≤ 728) (h1 : 1 ≤ m) (h0 : x (55 + b) 2 = 0) : Bd (tkO x b (nI m) 6).1 b := by
  obtain ⟨t, ⟨g1, g2, g3⟩, ht⟩ := tkO_g (x := x) hb hm (by rw [h0]; exact nI_0.symm) 6 (by decide)
  refine ⟨t, ht (dig_ex m hm h1), g2, g1, fun j hj => ?_⟩
  obtain ⟨q, r, a1, _, a3, a4, a5, a6⟩ := g3 j hj
  exact ⟨q, r, a1, a3, a4, a5, a6⟩
theorem Bd.same {σ τ : MS} {b : Nat} (h : Bd σ b) (e1 : τ (55 + b) 2 = σ (55 + b) 2) (e2 : τ (61 + b) = σ (61 + b)) (e3 : τ (67 + b) = σ (67 + b)) : Bd τ b := by
  unfold Bd at h ⊢
  rw [e1, e2, e3]
  exact h
end
section
/-! WHAT ALWAYS HOLDS: definitions; and that nothing of it looks elsewhere -/
theorem i_c1 (a b c : Int32) : a + b + (c - b) = a + c := by grind
theorem i_c2 (a b c d : Int32) : a + b + (c - d) = a + (c - d) + b := by grind
theorem sumI_congr {f g : Nat → Int32} : ∀ {n : Nat}, (∀ w, w < n → g w = f w) → sumI g n = sumI f n
  | 0, _ => rfl
  | n + 1, h => by
    show sumI g n + g n = sumI f n + f n
    rw [sumI_congr (fun w hw => h w (by omega)), h n (by omega)]
theorem sumI_set {f g : Nat → Int32} {i : Nat} : ∀ {n : Nat}, (∀ w, w < n → w ≠ i → g w = f w) → i < n → sumI g n = sumI f n + (g i - f i)
  | 0, _, hi => absurd hi (by omega)
  | n + 1, h, hi => by
    show sumI g n + g n = sumI f n + f n + (g i - f i)
    by_cases e : i = n
    · subst e
      rw [sumI_congr (f := f) (g := g) (n := i) (fun w hw => h w (by omega) (by omega))]
      exact (i_c1 _ _ _).symm
    · rw [sumI_set (f := f) (g := g) (fun w hw => h w (by omega)) (by omega), h n (by omega) (Ne.symm e)]
      exact (i_c2 _ _ _ _).symm
/-- roads -/
def RdI (σ : MS) : Prop := Hr σ ∧ Wy_i 576 σ
/-- what was told of a wedding -/
def Ws (σ : MS) (B w : Nat) : Prop := (∃ b, b < B ∧ σ (73 + w) 0 = nI b) ∧ ∃ s l, 10 ≤ s ∧ s ≤ 22 ∧ 1 ≤ l ∧ l ≤ 6 ∧ s + l ≤ 24 ∧ σ (73 + w) 3 = nI s ∧ σ (73 + w) 4 = nI l
/-- players, songs, bands, weddings as told -/
def SI (σ : MS) (P B W : Nat) : Prop := (∀ p, p < P → rg 1 99 (σ (29 + p) 3) ∧ p < P) ∧ (∀ s, s < 16 → s < 16) ∧ (∀ b, b < B → Bd σ b) ∧ ∀ w, w < W → Ws σ B w
def Lt (σ : MS) : Prop := ∀ w, w < 14 → rg 0 240 (σ (73 + w) 10)
/-- s is a set of as many players as the band needs, each with an instrument of it -/
def FilS (σ : MS) (P w : Nat) (v : Int32) : Prop := ∃ s, 1 ≤ s ∧ s < 2 ^ P ∧ v = nI s ∧ bcI (nI s) = σ (55 + bdOf σ w) 2 ∧ ∀ p, p < P → bt (nI s) p = true → seats σ (bdOf σ w) p
def dayIn (σ : MS) (lo hi w : Nat) : Prop := ∃ d, lo ≤ d ∧ d < hi ∧ σ (73 + w) 1 = nI d
/-- a wedding, its state; days of those to come from Tl on, of the played ones ahead of Tp -/
def Wd (σ : MS) (P Tl Tp w : Nat) : Prop :=
  (σ (73 + w) 7 = 0 ∧ σ (73 + w) 8 = 0 ∧ σ (73 + w) 9 = 0 ∧ dayIn σ Tl 366 w) ∨
  (σ (73 + w) 7 = 1 ∧ dayIn σ Tl 366 w ∧ FilS σ P w (σ (73 + w) 8) ∧ rg 50 76298 (σ (73 + w) 9)) ∨
  (σ (73 + w) 7 = 2 ∧ dayIn σ 0 Tp w ∧ FilS σ P w (σ (73 + w) 8) ∧ rg 50 76298 (σ (73 + w) 9)) ∨ σ (73 + w) 7 = 3
def D0 (σ : MS) (W : Nat) : Prop := ∀ w, W ≤ w → w < 14 → σ (73 + w) 7 = 0 ∧ σ (73 + w) 8 = 0 ∧ σ (73 + w) 9 = 0 ∧ σ (73 + w) 11 = 0
def D2 (σ : MS) (W : Nat) : Prop := ∀ a b, a < W → b < W → a ≠ b → σ (73 + a) 7 = 1 → σ (73 + a) 0 = σ (73 + b) 0 → σ (73 + a) 1 = σ (73 + b) 1 → ¬ σ (73 + b) 7 = 0 ∧ ¬ σ (73 + b) 7 = 1
def D3 (σ : MS) (P W : Nat) : Prop := σ 0 10 = paidI σ W - earnI σ P
/-- hours that were played at a wedding, of all together -/
def hoW (σ : MS) (w : Nat) : Int32 := if σ (73 + w) 7 = 2 then σ (73 + w) 4 * bcI (σ (73 + w) 8) else 0
def D4 (σ : MS) (P W : Nat) : Prop := hrsI σ P = sumI (hoW σ) W
def nPl (σ : MS) (W : Nat) : Nat := fb_ct (fun w => decide (σ (73 + w) 7 = 2)) W
def D5 (σ : MS) (P W : Nat) : Prop := (∀ p, p < P → ∃ n m, σ (29 + p) 6 = nI n ∧ σ (29 + p) 7 = nI m ∧ n ≤ m ∧ m ≤ 6 * n ∧ n ≤ nPl σ W) ∧ ∀ s, s < 16 → ∃ n, σ (39 + s) 3 = nI n ∧ n ≤ 16 * nPl σ W
def DI (σ : MS) (P W Tl Tp : Nat) : Prop := D0 σ W ∧ (∀ w, w < W → Wd σ P Tl Tp w) ∧ D2 σ W ∧ D3 σ P W ∧ D4 σ P W ∧ D5 σ P W
/-- all that always holds but the roads and how late it is -/
def In0 (σ : MS) (P B W T Tl Tp : Nat) : Prop := Ok σ P B W T ∧ Pk σ P ∧ SI σ P B W ∧ DI σ P W Tl Tp
def Inv (σ : MS) (P B W T : Nat) : Prop := RdI σ ∧ Lt σ ∧ In0 σ P B W T T T
/-- what stays as it was told -/
def stc (k j : Nat) : Prop := (k = 0 ∧ 6 ≤ j ∧ j ≤ 8) ∨ (29 ≤ k ∧ k < 39 ∧ (j = 0 ∨ j = 2 ∨ j = 3)) ∨ (55 ≤ k ∧ k < 73) ∨ (73 ≤ k ∧ k < 87 ∧ j ≤ 4)
def St (σ τ : MS) : Prop := ∀ k j, stc k j → τ k j = σ k j
theorem St.rf (σ : MS) : St σ σ := fun _ _ _ => rfl
theorem St.tr {a b c : MS} (h : St a b) (g : St b c) : St a c := fun k j hk => (g k j hk).trans (h k j hk)
theorem St.up {σ : MS} {k j : Nat} {v : Int32} (h : ¬ stc k j) : St σ (up2 σ k j v) := fun k' j' hk => up2_at (by
  by_cases e : k' = k
  · by_cases e2 : j' = j
    · subst e; subst e2; exact absurd hk h
    · exact Or.inr e2
  · exact Or.inl e)
theorem St.scr {σ τ : MS} (h : Scr σ τ) : St σ τ := fun k j hk => by rw [h k (by unfold stc at hk; omega)]
theorem Ok.st {σ τ : MS} {P B W T : Nat} (O : Ok σ P B W T) (h : St σ τ) (e9 : τ 0 9 = σ 0 9) : Ok τ P B W T := O.same (fun k j hk => by
  by_cases c : k = 0 ∧ j = 9
  · obtain ⟨rfl, rfl⟩ := c; exact e9
  · exact h k j (by unfold okPl at hk; unfold stc; omega))
theorem Bd.st {σ τ : MS} {b : Nat} (hb : b < 6) (h : St σ τ) (H : Bd σ b) : Bd τ b :=
  H.same (h _ _ (by unfold stc; omega)) (funext fun j => h _ _ (by unfold stc; omega)) (funext fun j => h _ _ (by unfold stc; omega))
theorem Ws.st {σ τ : MS} {B w : Nat} (hw : w < 14) (h : St σ τ) (H : Ws σ B w) : Ws τ B w := by
  unfold Ws at H ⊢
  rw [h (73 + w) 0 (by unfold stc; omega), h (73 + w) 3 (by unfold stc; omega), h (73 + w) 4 (by unfold stc; omega)]
  exact H
theorem SI.st {σ τ : MS} {P B W T : Nat} (O : Ok σ P B W T) (h : St σ τ) (H : SI σ P B W) : SI τ P B W := by
  have hP := O.hP
  have hB := O.hB
  have hW := O.hW
  refine ⟨fun p hp => ?_, fun s hs => ?_, fun b hb => (H.2.2.1 b hb).st (by omega) h, fun w hw => (H.2.2.2 w hw).st (by omega) h⟩
  · rw [h (29 + p) 3 (by unfold stc; omega)]
    exact H.1 p hp
  · exact hs
theorem bdOf_st {σ τ : MS} {w : Nat} (hw : w < 14) (h : St σ τ) : bdOf τ w = bdOf σ w := by
  unfold bdOf
  rw [h (73 + w) 0 (by unfold stc; omega)]
theorem FilS.st {σ τ : MS} {P B W T w : Nat} {v : Int32} (O : Ok σ P B W T) (hw : w < 14) (h : St σ τ) (H : FilS σ P w v) : FilS τ P w v := by
  have hP := O.hP
  obtain ⟨s, h1, h2, h3, h4, h5⟩ := H
  have hb := O.bd hw
  refine ⟨s, h1, h2, h3, ?_, fun p hp hbt => ?_⟩
  · rw [bdOf_st hw h, h (55 + bdOf σ w) 2 (by unfold stc; omega)]
    exact h4
  · obtain ⟨j, j1, j2, j3⟩ := h5 p hp hbt
    refine ⟨j, ?_, j2, ?_⟩
    · rw [bdOf_st hw h, h (55 + bdOf σ w) 2 (by unfold stc; omega)]
      exact j1
    · unfold pl at j3 ⊢
      rw [bdOf_st hw h, h (29 + p) 0 (by unfold stc; omega), h (67 + bdOf σ w) j (by unfold stc; omega)]
      exact j3
theorem dayIn.st {σ τ : MS} {lo hi w : Nat} (hw : w < 14) (h : St σ τ) (H : dayIn σ lo hi w) : dayIn τ lo hi w := by
  obtain ⟨d, h1, h2, h3⟩ := H
  exact ⟨d, h1, h2, (h (73 + w) 1 (by unfold stc; omega)).trans h3⟩
/-- a wedding whose state, players and price stay -/
theorem Wd.st {σ τ : MS} {P B W T Tl Tp w : Nat} (O : Ok σ P B W T) (hw : w < 14) (h : St σ τ) (e7 : τ (73 + w) 7 = σ (73 + w) 7) (e8 : τ (73 + w) 8 = σ (73 + w) 8) (e9 : τ (73 + w) 9 = σ (73 + w) 9) (H : Wd σ P Tl Tp w) : Wd τ P Tl Tp w := by
  unfold Wd at H ⊢
  rw [e7, e8, e9]
  rcases H with ⟨a, b, c, d⟩ | ⟨a, b, c, d⟩ | ⟨a, b, c, d⟩ | a
  · exact Or.inl ⟨a, b, c, d.st hw h⟩
  · exact Or.inr (Or.inl ⟨a, b.st hw h, c.st O hw h, d⟩)
  · exact Or.inr (Or.inr (Or.inl ⟨a, b.st hw h, c.st O hw h, d⟩))
  · exact Or.inr (Or.inr (Or.inr a))
/-- what happens to weddings: states, players, prices, what is paid; the cash; what players earned, played; how often songs were played -/
def dyn (k j : Nat) : Prop := (k = 0 ∧ j = 10) ∨ (29 ≤ k ∧ k < 39 ∧ 5 ≤ j ∧ j ≤ 7) ∨ (39 ≤ k ∧ k < 55 ∧ j = 3) ∨ (73 ≤ k ∧ k < 87 ∧ (7 ≤ j ∧ j ≤ 9 ∨ j = 11))
def Dy (σ τ : MS) : Prop := ∀ k j, dyn k j → τ k j = σ k j
theorem Dy.scr {σ τ : MS} (h : Scr σ τ) : Dy σ τ := fun k j hk => by rw [h k (by unfold dyn at hk; omega)]
theorem Dy.up {σ : MS} {k j : Nat} {v : Int32} (h : ¬ dyn k j) : Dy σ (up2 σ k j v) := fun k' j' hk => up2_at (by
  by_cases e : k' = k
  · by_cases e2 : j' = j
    · subst e; subst e2; exact absurd hk h
    · exact Or.inr e2
  · exact Or.inl e)
theorem Dy.tr {a b c : MS} (h : Dy a b) (g : Dy b c) : Dy a c := fun k j hk => (g k j hk).trans (h k j hk)
theorem nPl_congr {σ τ : MS} {W : Nat} (h : ∀ w, w < W → τ (73 + w) 7 = σ (73 + w) 7) : nPl τ W = nPl σ W := by
  unfold nPl
  exact fb_ct_cong (fun w hw => by rw [h w hw])
theorem DI.same {σ τ : MS} {P B W T Tl Tp : Nat} (O : Ok σ P B W T) (h : St σ τ) (g : Dy σ τ) (H : DI σ P W Tl Tp) : DI τ P W Tl Tp := by
  have hP := O.hP
  have hW := O.hW
  obtain ⟨H0, H1, H2, H3, H4, H5⟩ := H
  have f7 : ∀ w, w < 14 → τ (73 + w) 7 = σ (73 + w) 7 := fun w hw => g _ _ (by unfold dyn; omega)
  have f8 : ∀ w, w < 14 → τ (73 + w) 8 = σ (73 + w) 8 := fun w hw => g _ _ (by unfold dyn; omega)
  have f9 : ∀ w, w < 14 → τ (73 + w) 9 = σ (73 + w) 9 := fun w hw => g _ _ (by unfold dyn; omega)
  have f11 : ∀ w, w < 14 → τ (73 + w) 11 = σ (73 + w) 11 := fun w hw => g _ _ (by unfold dyn; omega)
  refine ⟨fun w h1 h2 => ?_, fun w hw => (H1 w hw).st O (by omega) h (f7 w (by omega)) (f8 w (by omega)) (f9 w (by omega)), fun a b ha hb hne => ?_, ?_, ?_, fun p hp => ?_, fun s hs => ?_⟩
  · rw [f7 w h2, f8 w h2, f9 w h2, f11 w h2]
    exact H0 w h1 h2
  · rw [f7 a (by omega), f7 b (by omega), h (73 + a) 0 (by unfold stc; omega), h (73 + b) 0 (by unfold stc; omega), h (73 + a) 1 (by unfold stc; omega), h (73 + b) 1 (by unfold stc; omega)]
    exact H2 a b ha hb hne
  · unfold D3 paidI earnI
    rw [g 0 10 (by unfold dyn; omega), sumI_congr (f := fun w => σ (73 + w) 11) (fun w hw => f11 w (by omega)), sumI_congr (f := fun p => σ (29 + p) 5) (fun p hp => g _ _ (by unfold dyn; omega))]
    exact H3
  · unfold D4 hrsI
    rw [sumI_congr (f := fun p => σ (29 + p) 7) (fun p hp => g _ _ (by unfold dyn; omega)), sumI_congr (f := hoW σ) (g := hoW τ) (n := W) (fun w hw2 => by unfold hoW; rw [f7 w (by omega), f8 w (by omega), h (73 + w) 4 (by unfold stc; omega)])]
    exact H4
  · rw [nPl_congr (fun w hw => f7 w (by omega)), g (29 + p) 6 (by unfold dyn; omega), g (29 + p) 7 (by unfold dyn; omega)]
    exact H5.1 p hp
  · rw [nPl_congr (fun w hw => f7 w (by omega)), g (39 + s) 3 (by unfold dyn; omega)]
    exact H5.2 s hs
theorem Pk.dy {σ τ : MS} {P : Nat} (g : Dy σ τ) (H : Pk σ P) : Pk τ P := fun w hw => by
  rw [g (73 + w) 8 (by unfold dyn; omega)]
  exact H w hw
theorem In0.same {σ τ : MS} {P B W T Tl Tp : Nat} (h : St σ τ) (g : Dy σ τ) (e9 : τ 0 9 = σ 0 9) (H : In0 σ P B W T Tl Tp) : In0 τ P B W T Tl Tp :=
  ⟨H.1.st h e9, H.2.1.dy g, H.2.2.1.st H.1 h, H.2.2.2.same H.1 h g⟩
theorem In0.scr {σ τ : MS} {P B W T Tl Tp : Nat} (h : Scr σ τ) (H : In0 σ P B W T Tl Tp) : In0 τ P B W T Tl Tp := H.same (St.scr h) (Dy.scr h) (by rw [h 0 (by omega)])
theorem RdI.same {σ τ : MS} (h : ∀ k, 17 ≤ k → k < 29 → τ k = σ k) (H : RdI σ) : RdI τ := by
  refine ⟨fun a b ha hb => ?_, fun a b ha hb => ?_⟩
  · rw [h (17 + a) (by omega) (by omega)]; exact H.1 a b ha hb
  · rw [h (23 + a) (by omega) (by omega)]; exact H.2 a b ha hb
theorem Lt.same {σ τ : MS} (h : ∀ w, w < 14 → τ (73 + w) 10 = σ (73 + w) 10) (H : Lt σ) : Lt τ := fun w hw => by rw [h w hw]; exact H w hw
theorem Inv.scr {σ τ : MS} {P B W T : Nat} (h : Scr σ τ) (H : Inv σ P B W T) : Inv τ P B W T :=
  ⟨H.1.same (fun k h1 h2 => h k (by omega)), H.2.1.same (fun w hw => by rw [h (73 + w) (by omega)]), H.2.2.scr h⟩
/-! a wedding is lost; something is paid for it -/
theorem hw_at {σ τ : MS} {w : Nat} (e7 : (τ (73 + w) 7 = 2) ↔ (σ (73 + w) 7 = 2)) (e8 : σ (73 + w) 7 = 2 → τ (73 + w) 8 = σ (73 + w) 8) (e4 : τ (73 + w) 4 = σ (73 + w) 4) : hoW τ w = hoW σ w := by
  unfold hoW
  by_cases c : σ (73 + w) 7 = 2
  · rw [if_pos c, if_pos (e7.mpr c), e8 c, e4]
  · rw [if_neg c, if_neg (fun q => c (e7.mp q))]
/-- some asked or fixed ones are lost, nothing else changes -/
def Lo (W : Nat) (σ τ : MS) : Prop := (∀ k j, (k < 73 ∨ j ≠ 7) → τ k j = σ k j) ∧ (∀ w, W ≤ w → w < 14 → τ (73 + w) 7 = σ (73 + w) 7) ∧ ∀ w, w < W → τ (73 + w) 7 = σ (73 + w) 7 ∨ (τ (73 + w) 7 = 3 ∧ (σ (73 + w) 7 = 0 ∨ σ (73 + w) 7 = 1))
theorem DI.lo {σ τ : MS} {P B W T Tl Tp : Nat} (O : Ok σ P B W T) (h : Lo W σ τ) (H : DI σ P W Tl Tp) : DI τ P W Tl Tp := by
  have hP := O.hP
  have hW := O.hW
  have hst : St σ τ := fun k j hk => h.1 k j (by unfold stc at hk; omega)
  obtain ⟨H0, H1, H2, H3, H4, H5⟩ := H
  have i2 : ∀ w, w < W → ((τ (73 + w) 7 = 2) ↔ (σ (73 + w) 7 = 2)) := fun w hw => by
    rcases h.2.2 w hw with e | ⟨e, f⟩
    · rw [e]
    · rw [e]
      constructor
      · intro q; exact absurd q (by decide)
      · intro q; rcases f with f | f <;> (rw [f] at q; exact absurd q (by decide))
  have en : nPl τ W = nPl σ W := by
    unfold nPl
    exact fb_ct_cong (fun w hw => decide_eq_decide.mpr (i2 w hw))
  refine ⟨fun w h1 h2 => ?_, fun w hw => ?_, fun a b ha hb hne a1 a2 a3 => ?_, ?_, ?_, fun p hp => ?_, fun s hs => ?_⟩
  · rw [h.2.1 w h1 h2, h.1 (73 + w) 8 (by omega), h.1 (73 + w) 9 (by omega), h.1 (73 + w) 11 (by omega)]
    exact H0 w h1 h2
  · rcases h.2.2 w hw with e | ⟨e, f⟩
    · exact (H1 w hw).st O (by omega) hst e (h.1 _ _ (by omega)) (h.1 _ _ (by omega))
    · exact Or.inr (Or.inr (Or.inr e))
  · rw [h.1 (73 + a) 0 (by omega), h.1 (73 + b) 0 (by omega)] at a2
    rw [h.1 (73 + a) 1 (by omega), h.1 (73 + b) 1 (by omega)] at a3
    have a1' : σ (73 + a) 7 = 1 := by
      rcases h.2.2 a ha with e | ⟨e, f⟩
      · rw [← e]; exact a1
      · rw [e] at a1; exact absurd a1 (by decide)
    have hh := H2 a b ha hb hne a1' a2 a3
    rcases h.2.2 b hb with e | ⟨e, f⟩
    · rw [e]; exact hh
    · rw [e]; exact ⟨by decide, by decide⟩
  · unfold D3 paidI earnI
    rw [h.1 0 10 (by omega), sumI_congr (f := fun w => σ (73 + w) 11) (fun w hw => h.1 _ _ (by omega)), sumI_congr (f := fun p => σ (29 + p) 5) (fun p hp => h.1 _ _ (by omega))]
    exact H3
  · unfold D4 hrsI
    rw [sumI_congr (f := fun p => σ (29 + p) 7) (fun p hp => h.1 _ _ (by omega)), sumI_congr (f := hoW σ) (fun w hw2 => hw_at (i2 w hw2) (fun _ => h.1 _ _ (by omega)) (h.1 _ _ (by omega)))]
    exact H4
  · rw [en, h.1 (29 + p) 6 (by omega), h.1 (29 + p) 7 (by omega)]
    exact H5.1 p hp
  · rw [en, h.1 (39 + s) 3 (by omega)]
    exact H5.2 s hs
theorem In0.lo {σ τ : MS} {P B W T Tl Tp : Nat} (h : Lo W σ τ) (H : In0 σ P B W T Tl Tp) : In0 τ P B W T Tl Tp := by
  have hst : St σ τ := fun k j hk => h.1 k j (by unfold stc at hk; omega)
  exact ⟨H.1.st hst (h.1 0 9 (by omega)), fun w hw => by rw [h.1 (73 + w) 8 (by omega)]; exact H.2.1 w hw, H.2.2.1.st H.1 hst, H.2.2.2.lo H.1 h⟩
theorem Lo.up {σ : MS} {W w : Nat} (hw : w < W) (hs : σ (73 + w) 7 = 0 ∨ σ (73 + w) 7 = 1) : Lo W σ (up2 σ (73 + w) 7 3) :=
  ⟨fun k j h => up2_at (by omega), fun v h1 h2 => up2_at (by omega), fun v hv => by
    by_cases e : v = w
    · subst e; exact Or.inr ⟨up2_same, hs⟩
    · exact Or.inl (up2_at (by omega))⟩
theorem Lo.rf (W : Nat) (σ : MS) : Lo W σ σ := ⟨fun _ _ _ => rfl, fun _ _ _ => rfl, fun _ _ => Or.inl rfl⟩
theorem Lo.tr {W : Nat} {a b c : MS} (h : Lo W a b) (g : Lo W b c) : Lo W a c :=
  ⟨fun k j hk => (g.1 k j hk).trans (h.1 k j hk), fun w h1 h2 => (g.2.1 w h1 h2).trans (h.2.1 w h1 h2), fun w hw => by
    rcases g.2.2 w hw with e | ⟨e, f⟩
    · rcases h.2.2 w hw with e2 | ⟨e2, f2⟩
      · exact Or.inl (e.trans e2)
      · exact Or.inr ⟨e.trans e2, f2⟩
    · rcases h.2.2 w hw with e2 | ⟨e2, f2⟩
      · rw [e2] at f; exact Or.inr ⟨e, f⟩
      · exact Or.inr ⟨e, f2⟩⟩
theorem i_c3 (c p a e : Int32) : c = p - e → c + a = p + (p + a - p) - e := by grind
theorem DI.paid {σ : MS} {P B W T Tl Tp w : Nat} {a : Int32} (O : Ok σ P B W T) (hw : w < W) (H : DI σ P W Tl Tp) : DI (paidF σ w a) P W Tl Tp := by
  have hP := O.hP
  have hW := O.hW
  have hst : St σ (paidF σ w a) := (St.up (by unfold stc; omega)).tr (St.up (by unfold stc; omega))
  have ne : ∀ k j, (k ≠ 73 + w ∨ j ≠ 11) → (k ≠ 0 ∨ j ≠ 10) → paidF σ w a k j = σ k j := fun k j h1 h2 => by
    unfold paidF
    rw [up2_at h2, up2_at h1]
  obtain ⟨H0, H1, H2, H3, H4, H5⟩ := H
  have en : nPl (paidF σ w a) W = nPl σ W := nPl_congr (fun v hv => ne _ _ (by omega) (by omega))
  refine ⟨fun v h1 h2 => ?_, fun v hv => (H1 v hv).st O (by omega) hst (ne _ _ (by omega) (by omega)) (ne _ _ (by omega) (by omega)) (ne _ _ (by omega) (by omega)), fun x y hx hy hne => ?_, ?_, ?_, fun p hp => ?_, fun s hs => ?_⟩
  · rw [ne _ 7 (by omega) (by omega), ne _ 8 (by omega) (by omega), ne _ 9 (by omega) (by omega), ne _ 11 (by omega) (by omega)]
    exact H0 v h1 h2
  · rw [ne (73 + x) 7 (by omega) (by omega), ne (73 + y) 7 (by omega) (by omega), ne (73 + x) 0 (by omega) (by omega), ne (73 + y) 0 (by omega) (by omega), ne (73 + x) 1 (by omega) (by omega), ne (73 + y) 1 (by omega) (by omega)]
    exact H2 x y hx hy hne
  · have e1 : paidF σ w a 0 10 = σ 0 10 + a := by unfold paidF; rw [up2_same]
    have e2 : paidF σ w a (73 + w) 11 = σ (73 + w) 11 + a := by unfold paidF; rw [up2_at (by omega), up2_same]
    have e3 : earnI (paidF σ w a) P = earnI σ P := sumI_congr (fun p hp => ne _ _ (by omega) (by omega))
    have e4 : paidI (paidF σ w a) W = paidI σ W + a := by
      have := sumI_set (f := fun v => σ (73 + v) 11) (g := fun v => paidF σ w a (73 + v) 11) (i := w) (n := W) (fun v hv hne => ne _ _ (by omega) (by omega)) hw
      unfold paidI
      rw [this, e2]
      grind
    unfold D3
    rw [e1, e3, e4]
    unfold D3 at H3
    rw [H3]
    grind
  · unfold D4 hrsI
    rw [sumI_congr (f := fun p => σ (29 + p) 7) (fun p hp => ne _ _ (by omega) (by omega)), sumI_congr (f := hoW σ) (fun v hv => hw_at (by rw [ne _ _ (by omega) (by omega)]) (fun _ => ne _ _ (by omega) (by omega)) (ne _ _ (by omega) (by omega)))]
    exact H4
  · rw [en, ne (29 + p) 6 (by omega) (by omega), ne (29 + p) 7 (by omega) (by omega)]
    exact H5.1 p hp
  · rw [en, ne (39 + s) 3 (by omega) (by omega)]
    exact H5.2 s hs
theorem In0.paid {σ : MS} {P B W T Tl Tp w : Nat} {a : Int32} (hw : w < W) (H : In0 σ P B W T Tl Tp) : In0 (paidF σ w a) P B W T Tl Tp := by
  have hst : St σ (paidF σ w a) := (St.up (by unfold stc; omega)).tr (St.up (by unfold stc; omega))
  exact ⟨H.1.paid (by have := H.1.hW; omega), H.2.1.kw (Kw.paid σ w a), H.2.2.1.st H.1 hst, H.2.2.2.paid H.1 hw⟩
end
