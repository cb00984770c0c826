/-! FILLINGS ON BOTH SIDES: what is a filling, which is better, the best of the first sets -/
/-- bands are of one shape on both sides -/
def Sh (x : MS) (Γ : RG) : Prop := ∀ b, b < Γ.2.1 → ∃ m sz, 1 ≤ m ∧ m ≤ 728 ∧ Γ.2.2.2.2.2 b = nI m ∧ sz ≤ 5 ∧ rNeeds (nI m) 6 = nI sz ∧ x (55 + b) 2 = nI sz ∧ plcs x b sz = rpl (nI m) 6 ∧ ∀ k, k < 6 → x (61 + b) k = rNeed (nI m) k
/-- the songs of a wedding are songs -/
def Gs (x : MS) : Prop := ∀ w, w < 14 → ∀ i, 16 ≤ i → bt (x (73 + w) 5) i = false
def inst (x : MS) (p i : Nat) : Prop := bt (x (29 + p) 0) i = true
def stB (x : MS) (w P s : Nat) : Bool := decide (¬ svIn x w P 8 s = 0 ∧ bcI (nI s) = x (55 + bdOf x w) 2)
def knB (x : MS) (w P s : Nat) : Bool := decide (x (73 + w) 5 &&& (playF x (nI s) P ^^^ (-1)) = 0)
def filB (x : MS) (w P s : Nat) : Bool := stB x w P s && (knB x w P s && !feudB x (nI s) P)
def subB (free : Int32) (s : Nat) : Bool := decide (nI s &&& (free ^^^ (-1)) = 0)
def btr (x : MS) (w P : Nat) (had s b : Int32) : Bool := decide (0 < bcI (s &&& had) - bcI (b &&& had) ∨ (bcI (s &&& had) - bcI (b &&& had) = 0 ∧ ¬ costsF x b w P ≤ costsF x s w P))
/-- the best of the first n sets; how many fillings; who is in all; is one seated, playable -/
def bR (x : MS) (w P : Nat) (free had : Int32) : Nat → Int32
  | 0 => -1
  | n + 1 => if subB free (n + 1) = true ∧ filB x w P (n + 1) = true ∧ (bR x w P free had n = -1 ∨ btr x w P had (nI (n + 1)) (bR x w P free had n) = true) then nI (n + 1) else bR x w P free had n
def cR (x : MS) (w P : Nat) (free : Int32) : Nat → Nat
  | 0 => 0
  | n + 1 => cR x w P free n + (if subB free (n + 1) = true ∧ filB x w P (n + 1) = true then 1 else 0)
def alR (x : MS) (w P : Nat) (free : Int32) : Nat → Int32
  | 0 => -1
  | n + 1 => if subB free (n + 1) = true ∧ filB x w P (n + 1) = true then alR x w P free n &&& nI (n + 1) else alR x w P free n
def anS (x : MS) (w P : Nat) (free : Int32) : Nat → Bool
  | 0 => false
  | n + 1 => anS x w P free n || (subB free (n + 1) && stB x w P (n + 1))
def anK (x : MS) (w P : Nat) (free : Int32) : Nat → Bool
  | 0 => false
  | n + 1 => anK x w P free n || (subB free (n + 1) && (stB x w P (n + 1) && knB x w P (n + 1)))
section FILL
variable {x y : MS} {Γ : RG} {σ τ : MS} {a a0 a1 a2 a3 a4 b free had : Int32} {w P : Nat}
theorem can_ci {f g : Nat → Nat → Prop} {n : Nat} : ∀ (L : List Nat) {S : Nat → Prop}, (∀ p i, p < n → (f p i ↔ g p i)) → (can f n L S ↔ can g n L S)
  | [], _, _ => Iff.rfl
  | i :: L, S, h => by
    unfold can
    constructor
    · rintro ⟨p, hp, h1, h2, h3⟩
      exact ⟨p, hp, h1, (h p i hp).mp h2, (can_ci L h).mp h3⟩
    · rintro ⟨p, hp, h1, h2, h3⟩
      exact ⟨p, hp, h1, (h p i hp).mpr h2, (can_ci L h).mpr h3⟩
theorem fS_0 {q : Nat} (hq : q < 32) : fS a 0 q ↔ bt a q = true := by
  unfold fS
  rw [b_and, b_cmp hq, b_0, Bool.not_false, Bool.and_true]
theorem rD3_m {m : Nat} (hm : m ≤ 728) : ∀ i, rD3 (nI m) i = nI (m / 3 ^ i)
  | 0 => by rw [Nat.pow_zero, Nat.div_one]; rfl
  | i + 1 => by
    show rD3 (nI m) i / 3 = _
    rw [rD3_m hm i, (dv3 _ (Nat.le_trans (Nat.div_le_self _ _) hm)).1, Nat.pow_succ, Nat.div_div_eq_div_mul]
theorem rNeed_m {m : Nat} (hm : m ≤ 728) (i : Nat) : rNeed (nI m) i = nI (m / 3 ^ i % 3) := by
  unfold rNeed
  rw [rD3_m hm, (dv3 _ (Nat.le_trans (Nat.div_le_self _ _) hm)).2]
theorem shp_m {m : Nat} (hm : m ≤ 728) : shp (nI m) := fun i _ => by
  rw [rNeed_m hm]
  have : m / 3 ^ i % 3 = 0 ∨ m / 3 ^ i % 3 = 1 ∨ m / 3 ^ i % 3 = 2 := by omega
  rcases this with h | h | h
  · rw [h]; exact Or.inl rfl
  · rw [h]; exact Or.inr (Or.inl rfl)
  · rw [h]; exact Or.inr (Or.inr rfl)
theorem stB_can {sz s : Nat} (hP : P ≤ 10) (hz : sz ≤ 5) (hs : x (55 + bdOf x w) 2 = nI sz) (h : s < 2 ^ P) : stB x w P s = true ↔ bcI (nI s) = nI sz ∧ can (inst x) P (plcs x (bdOf x w) sz) (fun q => bt (nI s) q = true) := by
  unfold stB
  rw [decide_eq_true_iff, hs]
  have key := sat_can (σ := clearF x) (b := bdOf x w) hP hz (by rw [(Scr.clear x).c55]; exact hs) (2 ^ P - 1) (Nat.le_refl _) s (by omega) sz (by omega)
  have e1 : plcs (clearF x) (bdOf x w) sz = plcs x (bdOf x w) sz := by
    unfold plcs
    rw [show pl (clearF x) (bdOf x w) = pl x (bdOf x w) from funext fun j => by unfold pl; rw [(Scr.clear x).c67]]
  have e2 : (fun p i => bt (clearF x (29 + p) 0) i = true) = inst x := funext fun p => funext fun i => by unfold inst; rw [(Scr.clear x).c29]
  rw [e1, e2] at key
  unfold svIn
  constructor
  · rintro ⟨h1, h2⟩
    exact ⟨h2, ((key h2).mp h1).2⟩
  · rintro ⟨h1, h2⟩
    exact ⟨(key h1).mpr ⟨Nat.le_refl _, h2⟩, h1⟩
theorem Sh.get (S : Sh x Γ) (O : rOk (tR x) Γ σ) (hw : w < Γ.2.2.1) : ∃ b m sz, b < Γ.2.1 ∧ x (73 + w) 0 = nI b ∧ bdOf x w = b ∧ m ≤ 728 ∧ Γ.2.2.2.2.2 b = nI m ∧ sz ≤ 5 ∧ rNeeds (nI m) 6 = nI sz ∧ x (55 + b) 2 = nI sz ∧ plcs x b sz = rpl (nI m) 6 := by
  obtain ⟨b, hb, eb⟩ := O.xband hw
  obtain ⟨m, sz, m1, m2, e1, z1, e2, e3, e4, e5⟩ := S b hb
  have hB := O.hB
  exact ⟨b, m, sz, hb, eb, by unfold bdOf; rw [eb, nI_clamp (by omega)], m2, e1, z1, e2, e3, e4⟩
theorem cp_one {m sz b : Nat} {v : Int32} (O : rOk (tR x) Γ σ) (e4 : plcs x b sz = rpl (nI m) 6) : can (iR σ) Γ.1 (rpl (nI m) 6) (fS v 0) ↔ can (inst x) Γ.1 (plcs x b sz) (fun q => bt v q = true) := by
  have hP := O.hP
  rw [e4]
  refine (can_ci _ (fun p i hp => ?_)).trans (can_cg _ (fun q hq => fS_0 (by omega)))
  unfold iR inst
  rw [O.pl (j := 0) hp (by decide)]
theorem sy_canPlay {post : Int32 → MS → Prop} {b m sz s : Nat} (O : rOk (tR x) Γ σ) (hs : s < 2 ^ Γ.1) (m2 : m ≤ 728) (z1 : sz ≤ 5) (hbd : bdOf x w = b) (e3 : x (55 + b) 2 = nI sz) (e4 : plcs x b sz = rpl (nI m) 6) (hc : bcI (nI s) = nI sz) (h : post (b01 (stB x w Γ.1 s)) σ) : w_K0_X11_canPlay Γ post σ (nI s) (nI m) 0 0 := by
  have hst := stB_can (x := x) (w := w) (s := s) O.hP z1 (by rw [hbd]; exact e3) hs
  rw [hbd] at hst
  have hcp := cp_one (v := nI s) O e4
  refine sx_cp0 O (shp_m m2) rfl (fun g => ?_) (fun g => ?_)
  · rw [hst.mpr ⟨hc, hcp.mp g⟩] at h
    exact h
  · rw [Bool.eq_false_iff.mpr (fun z => g (hcp.mpr (hst.mp z).2))] at h
    exact h
theorem sy_isFilling {post : Int32 → MS → Prop} {s : Nat} (O : rOk (tR x) Γ σ) (S : Sh x Γ) (G : Gs x) (hw : w < Γ.2.2.1) (hs : s < 2 ^ Γ.1) (h : post (b01 (filB x w Γ.1 s)) σ) : w_X11_isFilling Γ post σ (nI s) w := by
  have hW := O.hW
  obtain ⟨b, m, sz, hb, eb, hbd, m2, e1, z1, e2, e3, e4⟩ := S.get O hw
  have hst := stB_can (x := x) (w := w) (s := s) O.hP z1 (by rw [hbd]; exact e3) hs
  have no : filB x w Γ.1 s = false → post 0 σ := fun e => by rw [e] at h; exact h
  unfold w_X11_isFilling
  refine sf_lbget O hb ((O.wd (j := 0) hw (by decide)).trans eb) ⟨hb, ?_⟩
  unfold w_in_J6_intValue_8abf5
  rw [e1]
  refine sx_bc (law_X11_needed_ ?_)
  rw [e2]
  refine ⟨fun c => sy_isPeaceful O ⟨fun c2 => no ?_, fun c2 => ?_⟩, fun c => no ?_⟩
  · unfold filB
    rw [b01_0.mp c2, Bool.and_false, Bool.and_false]
  · rw [O.wd (j := 5) hw (by decide)]
    refine sy_areKnown O (G w (by omega)) ⟨fun c3 => no ?_, fun c3 => sy_canPlay O hs m2 z1 hbd e3 e4 c ⟨fun c4 => no ?_, fun c4 => ?_⟩⟩
    · unfold filB
      rw [show knB x w Γ.1 s = false from b01_0.mp c3, Bool.false_and, Bool.and_false]
    · unfold filB
      rw [b01_0.mp c4, Bool.false_and]
    · unfold filB at h
      rw [b01_1.mp c2, show knB x w Γ.1 s = true from b01_1.mp c3, b01_1.mp c4] at h
      exact h
  · unfold filB
    rw [Bool.eq_false_iff.mpr (fun z => c (hst.mp z).1), Bool.false_and]
theorem sy_isBetter {post : Int32 → MS → Prop} (O : rOk (tR x) Γ σ) (Y : Sy x) (hw : w < Γ.2.2.1) (h : post (b01 (btr x w Γ.1 a3 a1 a2)) σ) : w_X11_isBetter Γ post σ a1 a2 a3 w := by
  unfold w_X11_isBetter
  unfold btr at h
  refine sx_bc (sx_bc ⟨fun c => ?_, fun c => ⟨fun d => sy_costOf O Y hw (sy_costOf O Y hw ⟨fun e => ?_, fun e => ?_⟩), fun d => ?_⟩⟩)
  · rw [decide_eq_true (Or.inl c)] at h; exact h
  · rw [decide_eq_false (fun q => q.elim c (fun q => q.2 e))] at h; exact h
  · rw [decide_eq_true (Or.inr ⟨d, e⟩)] at h; exact h
  · rw [decide_eq_false (fun q => q.elim c (fun q => d q.1))] at h; exact h
theorem nI_nm1 {n : Nat} (h : n < 2 ^ 31) : ¬ nI n = -1 := fun e => nI_pos h (by rw [e]; decide)
theorem bR_rg : ∀ n, n < 1024 → bR x w P free had n = -1 ∨ ∃ s, 1 ≤ s ∧ s ≤ n ∧ bR x w P free had n = nI s ∧ subB free s = true ∧ filB x w P s = true
  | 0, _ => Or.inl rfl
  | n + 1, hn => by
    have ih := bR_rg n (by omega)
    unfold bR
    by_cases c : subB free (n + 1) = true ∧ filB x w P (n + 1) = true ∧ (bR x w P free had n = -1 ∨ btr x w P had (nI (n + 1)) (bR x w P free had n) = true)
    · rw [if_pos c]
      exact Or.inr ⟨n + 1, by omega, Nat.le_refl _, rfl, c.1, c.2.1⟩
    · rw [if_neg c]
      rcases ih with ih | ⟨s, h1, h2, h3⟩
      · exact Or.inl ih
      · exact Or.inr ⟨s, h1, by omega, h3⟩
theorem bR_none : ∀ n, n < 1024 → (bR x w P free had n = -1 ↔ ∀ s, 1 ≤ s → s ≤ n → ¬ (subB free s = true ∧ filB x w P s = true))
  | 0, _ => ⟨fun _ s h1 h2 => by omega, fun _ => rfl⟩
  | n + 1, hn => by
    have ih := bR_none n (by omega)
    unfold bR
    by_cases c : subB free (n + 1) = true ∧ filB x w P (n + 1) = true
    · by_cases d : bR x w P free had n = -1 ∨ btr x w P had (nI (n + 1)) (bR x w P free had n) = true
      · rw [if_pos ⟨c.1, c.2, d⟩]
        exact ⟨fun e => absurd e (nI_nm1 (by omega)), fun g => absurd c (g (n + 1) (by omega) (Nat.le_refl _))⟩
      · rw [if_neg (fun z => d z.2.2)]
        exact ⟨fun e => absurd (Or.inl e) d, fun g => absurd c (g (n + 1) (by omega) (Nat.le_refl _))⟩
    · rw [if_neg (fun z => c ⟨z.1, z.2.1⟩), ih]
      constructor
      · intro g s h1 h2
        rcases Nat.eq_or_lt_of_le h2 with z | z
        · rw [z]; exact c
        · exact g s h1 (by omega)
      · intro g s h1 h2
        exact g s h1 (by omega)
theorem bR_skip {n : Nat} : ∀ d, (∀ s, n < s → s ≤ n + d → ¬ subB free s = true) → bR x w P free had (n + d) = bR x w P free had n
  | 0, _ => rfl
  | d + 1, h => by
    have ih := bR_skip (n := n) d (fun s h1 h2 => h s h1 (by omega))
    rw [← ih]
    show (if _ then _ else _) = _
    exact if_neg (fun z => h (n + d + 1) (by omega) (by omega) z.1)
theorem cR_skip {n : Nat} : ∀ d, (∀ s, n < s → s ≤ n + d → ¬ subB free s = true) → cR x w P free (n + d) = cR x w P free n
  | 0, _ => rfl
  | d + 1, h => by
    have ih := cR_skip (n := n) d (fun s h1 h2 => h s h1 (by omega))
    rw [← ih]
    show _ + (if _ then 1 else 0) = _
    rw [if_neg (fun z => h (n + d + 1) (by omega) (by omega) z.1)]
    rfl
theorem anS_skip {n : Nat} : ∀ d, (∀ s, n < s → s ≤ n + d → ¬ subB free s = true) → anS x w P free (n + d) = anS x w P free n
  | 0, _ => rfl
  | d + 1, h => by
    have ih := anS_skip (n := n) d (fun s h1 h2 => h s h1 (by omega))
    rw [← ih]
    show (_ || (subB free (n + d + 1) && _)) = _
    rw [Bool.eq_false_iff.mpr (h (n + d + 1) (by omega) (by omega)), Bool.false_and, Bool.or_false]
    rfl
theorem anK_skip {n : Nat} : ∀ d, (∀ s, n < s → s ≤ n + d → ¬ subB free s = true) → anK x w P free (n + d) = anK x w P free n
  | 0, _ => rfl
  | d + 1, h => by
    have ih := anK_skip (n := n) d (fun s h1 h2 => h s h1 (by omega))
    rw [← ih]
    show (_ || (subB free (n + d + 1) && _)) = _
    rw [Bool.eq_false_iff.mpr (h (n + d + 1) (by omega) (by omega)), Bool.false_and, Bool.or_false]
    rfl
theorem tb_big {n i : Nat} (h : n < 1024) (hi : 10 ≤ i) : n.testBit i = false := Nat.testBit_lt_two_pow (Nat.lt_of_lt_of_le h (Nat.pow_le_pow_right (n := 2) (by decide) hi))
theorem sub_iff {F s : Nat} (hF : F < 1024) (hs : s < 1024) : subB (nI F) s = true ↔ s &&& F = s := by
  unfold subB
  rw [decide_eq_true_iff]
  constructor
  · intro h
    refine Nat.eq_of_testBit_eq fun i => ?_
    rw [Nat.testBit_and]
    rcases Nat.lt_or_ge i 10 with c | c
    · have := congrArg (fun y => bt y i) h
      simp only [b_and, b_cmp (show i < 32 by omega), b_0, bt_nI, decide_eq_true (show i < 32 by omega), Bool.true_and] at this
      cases q : s.testBit i with
      | false => rfl
      | true =>
        rw [q] at this
        simpa using this
    · rw [tb_big hs c]; rfl
  · intro h
    refine b_ext fun i hi => ?_
    rw [b_and, b_cmp hi, b_0, bt_nI, bt_nI, decide_eq_true hi, Bool.true_and, Bool.true_and]
    have := congrArg (fun y => y.testBit i) h
    simp only [Nat.testBit_and] at this
    cases q : s.testBit i with
    | false => rfl
    | true =>
      rw [q, Bool.true_and] at this
      rw [this]
      rfl
theorem sub_le {F s : Nat} (hF : F < 1024) (hs : s < 1024) (h : subB (nI F) s = true) : s ≤ F := by
  have h1 := (sub_iff hF hs).mp h
  have : s &&& F ≤ F := Nat.and_le_right
  omega
theorem freeF_lt {W : Nat} : ∀ n, n ≤ 10 → ∃ m, m < 2 ^ n ∧ freeF y w W n = nI m
  | 0, _ => ⟨0, by decide, nI_0.symm⟩
  | n + 1, hn => by
    obtain ⟨m, hm, e⟩ := freeF_lt (W := W) n (by omega)
    have h1 : freeF y w W (n + 1) = nI m ||| (if freeB y n w W = true then one n else 0) := by rw [← e]; rfl
    rw [h1]
    by_cases c : freeB y n w W = true
    · rw [if_pos c]
      unfold one
      rw [shl1 n (by omega), nx_or]
      exact ⟨_, Nat.or_lt_two_pow (by rw [Nat.pow_succ]; omega) (by rw [Nat.pow_succ]; have := Nat.one_le_two_pow (n := n); omega), rfl⟩
    · rw [if_neg c, Int32.or_zero]
      exact ⟨m, by rw [Nat.pow_succ]; omega, rfl⟩
/-- who is free, of the wedding w as things are -/
abbrev frR (x : MS) (Γ : RG) (w : Nat) : Int32 := freeF (stg x Γ.2.2.1) w Γ.2.2.1 Γ.1
theorem sy_best {post : Int32 → MS → Prop} (O : rOk (tR x) Γ σ) (Y : Sy x) (S : Sh x Γ) (G : Gs x) (hw : w < Γ.2.2.1) (e : a1 = nI w) (h : post (bR x w Γ.1 (frR x Γ w &&& (a2 ^^^ (-1))) a3 (2 ^ Γ.1 - 1)) σ) : w_X11_best Γ post σ a1 a2 a3 := by
  have hW := O.hW
  have hP := O.hP
  unfold w_X11_best
  refine sf_wget O hw e ⟨⟨by omega, hw⟩, sy_freeFor O Y hw e ?_⟩
  unfold frR at h
  obtain ⟨m, hm, em⟩ := freeF_lt (y := stg x Γ.2.2.1) (w := w) (W := Γ.2.2.1) Γ.1 hP
  obtain ⟨p1, p2⟩ := pw1024 hP
  obtain ⟨F, hF, eF⟩ := and_small (show m < 1024 by omega) (by decide) (a2 ^^^ (-1))
  rw [em, eF] at h ⊢
  refine sub_loopX (fun k (v : Int32) q => u_X11_best_38 Γ post a1 a2 a3 k σ w (nI F) v q) (fun V v => v = bR x w Γ.1 (nI F) a3 (V - 1)) (F := F) (by omega) (fun k v hv => ?_) (fun k v V h1 h2 h3 hv ih => ?_) (fun V v v1 v2 hn hv => ?_) (-1) rfl
  · unfold u_X11_best_38
    refine ⟨fun _ => ?_, fun c => absurd (le_self (nI 0)) c⟩
    have sk := bR_skip (x := x) (w := w) (P := Γ.1) (had := a3) (free := nI F) (n := 2 ^ Γ.1 - 1) (1023 - (2 ^ Γ.1 - 1)) (fun s g1 g2 g3 => by have := sub_le (by omega) (by omega) g3; omega)
    rw [show 2 ^ Γ.1 - 1 + (1023 - (2 ^ Γ.1 - 1)) = 1024 - 1 by omega] at sk
    rw [hv, sk]
    exact h
  · have hVF : V ≤ F := by
      have : V &&& F ≤ F := Nat.and_le_right
      omega
    have hsub : subB (nI F) V = true := (sub_iff (by omega) h1).mpr h3
    obtain ⟨n, rfl⟩ : ∃ n, V = n + 1 := ⟨V - 1, by omega⟩
    have hv : v = bR x w Γ.1 (nI F) a3 n := hv
    have st : ∀ v', v' = bR x w Γ.1 (nI F) a3 (n + 1) → u_X11_best_38 Γ post a1 a2 a3 k σ w (nI F) v' ((nI (n + 1) - nI F) &&& nI F) := fun v' e => ih v' e
    unfold bR at st
    unfold u_X11_best_38
    refine ⟨fun c => absurd (show nI (n + 1) ≤ nI 0 from c) (nI_ge (by omega) (by omega)), fun _ => sy_isFilling O S G hw (by omega) ⟨fun c => st v ?_, fun c => ⟨fun d => st _ ?_, fun d => ?_⟩⟩⟩
    · rw [if_neg (fun z => by rw [b01_0.mp c] at z; exact Bool.false_ne_true z.2.1)]
      exact hv
    · rw [if_pos ⟨hsub, b01_1.mp c, Or.inl (hv ▸ d)⟩]
    · rw [hv] at d ⊢
      refine sy_isBetter O Y hw ⟨fun f => st _ ?_, fun f => st _ ?_⟩
      · rw [if_neg (fun z => z.2.2.elim d (fun z => by rw [b01_0.mp f] at z; exact Bool.false_ne_true z))]
      · rw [if_pos ⟨hsub, b01_1.mp c, Or.inr (b01_1.mp f)⟩]
  · obtain ⟨n, rfl⟩ : ∃ n, V = n + 1 := ⟨V - 1, by omega⟩
    show v = bR x w Γ.1 (nI F) a3 (n + 1)
    have hv : v = bR x w Γ.1 (nI F) a3 n := hv
    unfold bR
    rw [if_neg (fun z => hn ((sub_iff (by omega) v2).mp z.1))]
    exact hv
theorem sy_fillings {post : Int32 → MS → Prop} (O : rOk (tR x) Γ σ) (Y : Sy x) (S : Sh x Γ) (G : Gs x) (hw : w < Γ.2.2.1) (e : a1 = nI w) (h : post (nI (cR x w Γ.1 (frR x Γ w) (2 ^ Γ.1 - 1))) σ) : w_X11_fillings Γ post σ a1 := by
  have hW := O.hW
  have hP := O.hP
  unfold w_X11_fillings
  refine sf_wget O hw e ⟨⟨by omega, hw⟩, sy_freeFor O Y hw e ?_⟩
  unfold frR at h
  obtain ⟨m, hm, em⟩ := freeF_lt (y := stg x Γ.2.2.1) (w := w) (W := Γ.2.2.1) Γ.1 hP
  obtain ⟨p1, p2⟩ := pw1024 hP
  rw [em] at h ⊢
  have sk := cR_skip (x := x) (w := w) (P := Γ.1) (free := nI m) (n := m) (2 ^ Γ.1 - 1 - m) (fun s g1 g2 g3 => by have := sub_le (by omega) (by omega) g3; omega)
  rw [show m + (2 ^ Γ.1 - 1 - m) = 2 ^ Γ.1 - 1 by omega] at sk
  rw [sk] at h
  refine up_loop (fun k (q : Int32 × Int32) => u_X11_fillings_24 Γ post a1 k σ w (nI m) q.1 q.2) (fun i => (nI (cR x w Γ.1 (nI m) i), nI (i + 1))) m ?_ (fun i k hi hk => ?_)
  · show u_X11_fillings_24 Γ post a1 1 σ w (nI m) (nI (cR x w Γ.1 (nI m) m)) (nI (m + 1))
    unfold u_X11_fillings_24
    exact ⟨fun _ => h, fun c => absurd (nI_lt (Nat.lt_succ_self m) (by omega)) c⟩
  · have hk : ∀ v, v = nI (cR x w Γ.1 (nI m) i + (if subB (nI m) (i + 1) = true ∧ filB x w Γ.1 (i + 1) = true then 1 else 0)) → u_X11_fillings_24 Γ post a1 k σ w (nI m) v (nI (i + 1 + 1)) := fun v e => by rw [e]; exact hk
    show u_X11_fillings_24 Γ post a1 (k + 1) σ w (nI m) (nI (cR x w Γ.1 (nI m) i)) (nI (i + 1))
    unfold u_X11_fillings_24
    rw [nI_1]
    have no : ¬ (subB (nI m) (i + 1) = true ∧ filB x w Γ.1 (i + 1) = true) → u_X11_fillings_24 Γ post a1 k σ w (nI m) (nI (cR x w Γ.1 (nI m) i) + 0) (nI (i + 1 + 1)) := fun z => hk _ (by
      rw [if_neg z]
      show nI _ + nI 0 = _
      rw [nI_add])
    refine ⟨fun c => absurd c (nI_nlt (show i + 1 ≤ m by omega) (by omega)), fun _ => ⟨fun c => sy_isFilling O S G hw (by omega) ⟨fun d => no (fun z => ?_), fun d => hk _ ?_⟩, fun c => no (fun z => c (of_decide_eq_true z.1))⟩⟩
    · rw [b01_0.mp d] at z
      exact Bool.false_ne_true z.2
    · rw [if_pos ⟨decide_eq_true c, b01_1.mp d⟩]
      show nI _ + nI 1 = _
      rw [nI_add]
theorem bc_ct : ∀ n, n < 1024 → bcI (nI n) = nI (fb_ct (fun i => n.testBit i) 10) := by decide +kernel
theorem bc_mono {s F : Nat} (hF : F < 1024) (hs : s < 1024) (h : subB (nI F) s = true) : bcI (nI s) ≤ bcI (nI F) := by
  rw [bc_ct s hs, bc_ct F hF]
  have h1 := (sub_iff hF hs).mp h
  have h2 : fb_ct (fun i => s.testBit i) 10 ≤ fb_ct (fun i => F.testBit i) 10 := fb_ct_sub (fun i _ hi => by
    have := congrArg (fun y => y.testBit i) h1
    simp only [Nat.testBit_and] at this
    have hi : s.testBit i = true := hi
    rw [hi, Bool.true_and] at this
    exact this)
  have := fb_ct_le (fun i => F.testBit i) 10
  exact nI_le0 h2 (by omega)
/-- why there is none -/
def whyR (x : MS) (w P : Nat) (free : Int32) : Int32 := if x (55 + bdOf x w) 2 ≤ bcI free then (if cR x w P free (2 ^ P - 1) = 0 then (if anK x w P free (2 ^ P - 1) = true then 3 else if anS x w P free (2 ^ P - 1) = true then 4 else 2) else 0) else 1
theorem cR_none : ∀ n, (cR x w P free n = 0 ↔ ∀ s, 1 ≤ s → s ≤ n → ¬ (subB free s = true ∧ filB x w P s = true))
  | 0 => ⟨fun _ s h1 h2 => by omega, fun _ => rfl⟩
  | n + 1 => by
    have ih := cR_none n
    unfold cR
    by_cases c : subB free (n + 1) = true ∧ filB x w P (n + 1) = true
    · rw [if_pos c]
      exact ⟨fun e => by omega, fun g => absurd c (g (n + 1) (by omega) (Nat.le_refl _))⟩
    · rw [if_neg c, Nat.add_zero, ih]
      constructor
      · intro g s h1 h2
        rcases Nat.eq_or_lt_of_le h2 with z | z
        · rw [z]; exact c
        · exact g s h1 (by omega)
      · intro g s h1 h2
        exact g s h1 (by omega)
theorem anK_le {i n : Nat} (h : i ≤ n) (ht : anK x w P free i = true) : anK x w P free n = true := by
  induction n with
  | zero => obtain rfl : i = 0 := by omega
            exact ht
  | succ n ih =>
    by_cases q : i = n + 1
    · subst q; exact ht
    · unfold anK; rw [ih (by omega)]; rfl
theorem and_m1' : ((0 : Int32) ^^^ (-1)) = -1 := by decide
theorem and_all (v : Int32) : v &&& ((0 : Int32) ^^^ (-1)) = v := b_ext fun i hi => by rw [b_and, b_cmp hi, b_0, Bool.not_false, Bool.and_true]
theorem sy_why {post : Int32 → MS → Prop} (O : rOk (tR x) Γ σ) (Y : Sy x) (S : Sh x Γ) (G : Gs x) (hw : w < Γ.2.2.1) (e : a1 = nI w) (h : post (whyR x w Γ.1 (frR x Γ w)) σ) : w_X11_why Γ post σ a1 := by
  have hW := O.hW
  have hP := O.hP
  obtain ⟨b, m, sz, hb, eb, hbd, m2, e1, z1, e2, e3, e4⟩ := S.get O hw
  unfold w_X11_why
  refine sf_wget O hw e ⟨⟨by omega, hw⟩, sf_lbget O hb ((O.wd (j := 0) hw (by decide)).trans eb) ⟨hb, ?_⟩⟩
  unfold w_in_J6_intValue_8abf5
  rw [e1]
  refine sy_freeFor O Y hw e (sx_bc (law_X11_needed_ ?_))
  have hbest := fun (post : Int32 → MS → Prop) => sy_best (a2 := 0) (a3 := 0) (post := post) O Y S G hw e
  rw [and_all] at hbest
  unfold whyR at h
  rw [hbd, e3] at h
  unfold frR at h hbest
  obtain ⟨F, hF, em⟩ := freeF_lt (y := stg x Γ.2.2.1) (w := w) (W := Γ.2.2.1) Γ.1 hP
  obtain ⟨p1, p2⟩ := pw1024 hP
  rw [em] at h hbest ⊢
  rw [e2]
  refine ⟨fun c => hbest _ ⟨fun d => ?_, fun d => ?_⟩, fun c => ?_⟩
  · rw [if_pos c, if_pos ((cR_none _).mpr ((bR_none _ (by omega)).mp d))] at h
    have skS := anS_skip (x := x) (w := w) (P := Γ.1) (free := nI F) (n := F) (2 ^ Γ.1 - 1 - F) (fun s g1 g2 g3 => by have := sub_le (by omega) (by omega) g3; omega)
    have skK := anK_skip (x := x) (w := w) (P := Γ.1) (free := nI F) (n := F) (2 ^ Γ.1 - 1 - F) (fun s g1 g2 g3 => by have := sub_le (by omega) (by omega) g3; omega)
    rw [show F + (2 ^ Γ.1 - 1 - F) = 2 ^ Γ.1 - 1 by omega] at skS skK
    rw [skS, skK] at h
    have key : ∀ d i, i + d = F → anK x w Γ.1 (nI F) i = false → u_X11_why_70 Γ post a1 (d + 1) σ w (nI m) (nI F) (if anS x w Γ.1 (nI F) i = true then 4 else 2) (nI (i + 1)) := by
      intro d
      induction d with
      | zero =>
        intro i hi hk
        obtain rfl : i = F := by omega
        unfold u_X11_why_70
        rw [if_neg (by rw [hk]; exact Bool.false_ne_true)] at h
        exact ⟨fun _ => h, fun c => absurd (nI_lt (Nat.lt_succ_self i) (by omega)) c⟩
      | succ d ih =>
        intro i hi hk
        have nx : ∀ v, anK x w Γ.1 (nI F) (i + 1) = false → v = (if anS x w Γ.1 (nI F) (i + 1) = true then (4 : Int32) else 2) → u_X11_why_70 Γ post a1 (d + 1) σ w (nI m) (nI F) v (nI (i + 1) + 1) := fun v g e => by
          rw [nI_1, e]
          exact ih (i + 1) (by omega) g
        have same : (subB (nI F) (i + 1) && stB x w Γ.1 (i + 1)) = false → u_X11_why_70 Γ post a1 (d + 1) σ w (nI m) (nI F) (if anS x w Γ.1 (nI F) i = true then 4 else 2) (nI (i + 1) + 1) := fun g => nx _ (by
          unfold anK
          rw [hk, ← Bool.and_assoc, g, Bool.false_and]
          rfl) (by
          conv => rhs; unfold anS
          rw [g, Bool.or_false])
        have hst := stB_can (x := x) (w := w) (s := i + 1) hP z1 (by rw [hbd]; exact e3) (by omega)
        unfold u_X11_why_70
        refine ⟨fun c => absurd c (nI_nlt (show i + 1 ≤ F by omega) (by omega)), fun _ => ⟨fun c => sx_bc (law_X11_needed_ ?_), fun c => same ?_⟩⟩
        · rw [e2]
          refine ⟨fun c2 => sy_canPlay O (by omega) m2 z1 hbd e3 e4 c2 ⟨fun c3 => same ?_, fun c3 => ?_⟩, fun c2 => same ?_⟩
          · rw [b01_0.mp c3, Bool.and_false]
          · rw [O.wd (j := 5) hw (by decide)]
            refine sy_areKnown O (G w (by omega)) ⟨fun c4 => nx _ ?_ ?_, fun c4 => ?_⟩
            · unfold anK
              rw [hk, show knB x w Γ.1 (i + 1) = false from b01_0.mp c4, Bool.and_false, Bool.and_false]
              rfl
            · unfold anS
              rw [show subB (nI F) (i + 1) = true from decide_eq_true c, b01_1.mp c3, Bool.and_true, Bool.or_true, if_pos rfl]
            · have ht : anK x w Γ.1 (nI F) (i + 1) = true := by
                unfold anK
                rw [show subB (nI F) (i + 1) = true from decide_eq_true c, b01_1.mp c3, show knB x w Γ.1 (i + 1) = true from b01_1.mp c4, Bool.and_true, Bool.and_true, Bool.or_true]
              rw [if_pos (anK_le (n := F) (by omega) ht)] at h
              exact h
          · rw [Bool.eq_false_iff.mpr (fun z => c2 (hst.mp z).1), Bool.and_false]
        · rw [show subB (nI F) (i + 1) = false from decide_eq_false c, Bool.false_and]
    exact ⟨F + 1, key F 0 (by omega) rfl⟩
  · rw [if_pos c, if_neg (fun z => d ((bR_none _ (by omega)).mpr ((cR_none _).mp z)))] at h
    exact h
  · rw [if_neg c] at h
    exact h
end FILL
