/-! LAWS: set, ofBand, isSound -/
theorem Scr.flS (z : MS) (first : Int32) : ∀ m, Scr z (flS z first m).1 := fun m k hk => flS_k (by omega) (by omega) m
theorem Scr.cho (σ : MS) (pb : Int32) : Scr σ (choS σ pb) := by
  intro k hk
  unfold choS chE
  rw [flS_k (by omega) (by omega), up2_ne (by omega), chS_k (by omega) (by omega), putL_k (by omega) (by omega)]
def setR (y : MS) (mn : Int32) : Int32 := if mn = 0 then y 10 1 else y 10 2
def setS (σ : MS) (s : Int32) (P : Nat) : MS := choS σ (playF σ s P)
theorem Scr.set (σ : MS) (s : Int32) (P : Nat) : Scr σ (setS σ s P) := Scr.cho _ _
theorem law_T_set {post : Int32 → MS → Prop} {pex : String → MS → Prop} {σ : MS} {P B W T : Nat} {s mn : Int32} (O : Ok σ P B W T)
    (hx : ¬ (0 ≤ s ∧ s < nI (2 ^ P)) → pex xIA σ)
    (h : 0 ≤ s → s < nI (2 ^ P) → post (setR (setS σ s P) mn) (setS σ s P)) : w_T_X7_set post pex σ s mn := by
  have hP := O.hP
  unfold w_T_X7_set u_T_X7_set_14
  rw [O.h6, shl1 P hP]
  refine ⟨fun c => hx fun q => Int32.not_lt.mpr q.1 c, fun c => ⟨fun d => law_playableFor O.h6 hP (law_choose ?_), fun d => hx fun q => d q.2⟩⟩
  have hh := h (Int32.not_lt.mp c) d
  unfold setR setS at hh
  exact ⟨fun e => by rw [if_pos e] at hh; exact hh, fun e => by rw [if_neg e] at hh; exact hh⟩
theorem law_N_set {post : Int32 → MS → Prop} {σ : MS} {P B W T : Nat} {s mn : Int32} (O : Ok σ P B W T) (hs : 0 ≤ s) (hs2 : s < nI (2 ^ P))
    (hh : post (setR (setS σ s P) mn) (setS σ s P)) : w_N_X7_set post σ s mn := by
  have hP := O.hP
  unfold w_N_X7_set u_N_X7_set_14
  rw [O.h6, shl1 P hP]
  refine ⟨fun c => Int32.not_lt.mpr hs c, fun c => ⟨fun d => law_playableFor O.h6 hP (law_choose ?_), fun d => d hs2⟩⟩
  unfold setR setS at hh
  exact ⟨fun e => by rw [if_pos e] at hh; exact hh, fun e => by rw [if_neg e] at hh; exact hh⟩
def ofBF (σ : MS) (W b : Nat) (k : Nat) : Int32 := if k < 6 then σ (61 + b) k else if k = 6 then σ (55 + b) 2 else nI (fb_ct (ofBd σ (nI b) (if k = 8 then 1 else 0)) W)
theorem law_T_ofBand {post : Int32 → MS → Prop} {pex : String → MS → Prop} {σ : MS} {P B W T : Nat} {a c : Int32} (O : Ok σ P B W T)
    (hx : (∀ b, b < B → a ≠ nI b) → pex xIO σ)
    (hq : ∀ b, b < B → a = nI b → (∀ k, k ≤ 8 → c ≠ nI k) → pex xIA σ)
    (h : ∀ b k, b < B → k ≤ 8 → a = nI b → c = nI k → post (ofBF σ W b k) σ) : w_T_X7_ofBand post pex σ a c := by
  have hB := O.hB
  unfold w_T_X7_ofBand u_T_X7_ofBand_15
  refine law_T_checkBand O (fun b hb e => ?_) hx
  have hq2 := hq b hb e
  have hh := fun k hk e2 => h b k hb hk e e2
  subst e
  have hv : vp_in (nI b) 6 := vp_in_nI (by omega) (by decide)
  refine ⟨fun d => hq2 fun k hk e => ?_, fun d => ⟨fun f => ?_, fun f => hq2 fun k hk e => ?_⟩⟩
  · subst e
    exact nI_pos (by omega) d
  · obtain ⟨k, hk, rfl⟩ := nI_of d
    have hk8 : k ≤ 8 := (nI_leI hk (by decide)).mp (show nI k ≤ nI 8 from f)
    have hp := hh k hk8 rfl
    unfold ofBF at hp
    refine ⟨fun g => ?_, fun g => ?_⟩
    · have h6 : 6 ≤ k := (nI_leI (by decide) hk).mp (show nI 6 ≤ nI k from g)
      rw [if_neg (by omega)] at hp
      refine ⟨fun e => ⟨hv, ?_⟩, fun e => ⟨fun e8 => ?_, fun e8 => ?_⟩⟩
      · have : k = 6 := by rcases Nat.lt_or_ge 6 k with z | z
                           · exact absurd (by rw [e]; decide) (nI_ge z hk)
                           · omega
        subst this
        rw [nI_clamp (by omega)]
        exact hp
      · have k8 : k = 8 := by
          rcases Nat.lt_or_ge k 8 with z | z
          · exact absurd (by rw [e8]; exact le_self _) (nI_ge z (by decide))
          · omega
        subst k8
        exact law_countOfBand O.h8 O.hW hp
      · have k8 : k ≠ 8 := fun z => e8 (by rw [z]; rfl)
        have k6 : k ≠ 6 := fun z => e (by rw [z]; rfl)
        rw [if_neg k6, if_neg k8] at hp
        exact law_countOfBand O.h8 O.hW hp
    · have h6 : k < 6 := Nat.lt_of_not_le fun z => g (nI_le z hk)
      rw [if_pos h6] at hp
      refine ⟨hv, vp_in_nI h6 (by decide), ?_⟩
      rw [nI_clamp (by omega), nI_clamp (by omega)]
      exact hp
  · subst e
    exact f (show nI k ≤ nI 8 from nI_le hk (by decide))
theorem law_N_ofBand {post : Int32 → MS → Prop} {σ : MS} {P B W T b k : Nat} (O : Ok σ P B W T) (hb : b < B) (hk8 : k ≤ 8) (hp : post (ofBF σ W b k) σ) : w_N_X7_ofBand post σ (nI b) (nI k) := by
  have hB := O.hB
  unfold w_N_X7_ofBand u_N_X7_ofBand_15
  refine law_N_checkBand O hb ?_
  have hv : vp_in (nI b) 6 := vp_in_nI (by omega) (by decide)
  have hk : k < 2 ^ 31 := by omega
  refine ⟨fun d => nI_pos (by omega) d, fun d => ⟨fun f => ?_, fun f => f (show nI k ≤ nI 8 from nI_le hk8 (by decide))⟩⟩
  unfold ofBF at hp
  refine ⟨fun g => ?_, fun g => ?_⟩
  · have h6 : 6 ≤ k := (nI_leI (by decide) hk).mp (show nI 6 ≤ nI k from g)
    rw [if_neg (by omega)] at hp
    refine ⟨fun e => ⟨hv, ?_⟩, fun e => ⟨fun e8 => ?_, fun e8 => ?_⟩⟩
    · have : k = 6 := by rcases Nat.lt_or_ge 6 k with z | z
                         · exact absurd (by rw [e]; decide) (nI_ge z hk)
                         · omega
      subst this
      rw [nI_clamp (by omega)]
      exact hp
    · have k8 : k = 8 := by
        rcases Nat.lt_or_ge k 8 with z | z
        · exact absurd (by rw [e8]; exact le_self _) (nI_ge z (by decide))
        · omega
      subst k8
      exact law_countOfBand O.h8 O.hW hp
    · have k8 : k ≠ 8 := fun z => e8 (by rw [z]; rfl)
      have k6 : k ≠ 6 := fun z => e (by rw [z]; rfl)
      rw [if_neg k6, if_neg k8] at hp
      exact law_countOfBand O.h8 O.hW hp
  · have h6 : k < 6 := Nat.lt_of_not_le fun z => g (nI_le z hk)
    rw [if_pos h6] at hp
    refine ⟨hv, vp_in_nI h6 (by decide), ?_⟩
    rw [nI_clamp (by omega), nI_clamp (by omega)]
    exact hp
/-- a fixed one is sound: as many players as its band has, no other fixed one ahead of it of its band and day -/
def fixSnd (σ : MS) (w : Nat) : Bool := decide (bcI (σ (73 + w) 8) = σ (55 + bdOf σ w) 2) && !taken σ (σ (73 + w) 0) (σ (73 + w) 1) w
theorem law_isFixedOneSound {post : Int32 → MS → Prop} {σ : MS} {P B W T w : Nat} (O : Ok σ P B W T) (hw : w < 14) (h : post (b01 (fixSnd σ w)) σ) : w_X7_isFixedOneSound post σ (nI w) := by
  unfold w_X7_isFixedOneSound
  rw [nI_clamp (by omega)]
  unfold fixSnd bdOf at h
  have hb := O.band w hw
  refine ⟨vp_in_nI hw (by decide), law_bitCount ⟨hb, fun c => ⟨w + 1, ?_⟩, fun c => ?_⟩⟩
  · rw [decide_eq_true c, Bool.true_and] at h
    have key : ∀ d i, i + d = w → taken σ (σ (73 + w) 0) (σ (73 + w) 1) i = false → u_X7_isFixedOneSound_33 post (nI w) (d + 1) σ w (nI i) := by
      intro d
      induction d with
      | zero =>
        intro i hi hf
        obtain rfl : i = w := by omega
        rw [u_X7_isFixedOneSound_33]
        rw [hf] at h
        exact ⟨fun _ => h, fun c => absurd (le_self _) c⟩
      | succ d ih =>
        intro i hi hf
        have step : ¬ (σ (73 + i) 7 = 1 ∧ σ (73 + i) 0 = σ (73 + w) 0 ∧ σ (73 + i) 1 = σ (73 + w) 1) → u_X7_isFixedOneSound_33 post (nI w) (d + 1) σ w (nI (i + 1)) := fun hx => ih (i + 1) (by omega) (by unfold taken; rw [hf, decide_eq_false hx]; rfl)
        rw [u_X7_isFixedOneSound_33, nI_1, nI_clamp (by omega)]
        refine ⟨fun c => absurd c (nI_ge (by omega) (by omega)), fun _ => ⟨vp_in_nI (by omega) (by decide), fun c1 => ⟨fun c2 => ⟨fun c3 => ?_, fun c3 => step fun q => c3 q.2.2⟩, fun c2 => step fun q => c2 q.2.1⟩, fun c1 => step fun q => c1 q.1⟩⟩
        have ht : taken σ (σ (73 + w) 0) (σ (73 + w) 1) (i + 1) = true := by unfold taken; rw [decide_eq_true ⟨c1, c2, c3⟩, Bool.or_true]
        rw [taken_le (n := w) (by omega) ht] at h
        exact h
    exact key w 0 (by omega) rfl
  · rw [decide_eq_false c] at h
    exact h
def allFx (σ : MS) : Nat → Bool
  | 0 => true
  | n + 1 => allFx σ n && (!decide (σ (73 + n) 7 = 1) || fixSnd σ n)
theorem allFx_le {σ : MS} {i n : Nat} (h : i ≤ n) (ht : allFx σ i = false) : allFx σ n = false := by
  induction n with
  | zero => obtain rfl : i = 0 := by omega
            exact ht
  | succ n ih =>
    by_cases q : i = n + 1
    · subst q; exact ht
    · unfold allFx; rw [ih (by omega)]; rfl
theorem law_areFixedOnesSound {post : Int32 → MS → Prop} {σ : MS} {P B W T : Nat} (O : Ok σ P B W T) (h : post (b01 (allFx σ W)) σ) : w_X7_areFixedOnesSound post σ := by
  unfold w_X7_areFixedOnesSound
  have hW := O.hW
  have key : ∀ d i, i + d = W → allFx σ i = true → u_X7_areFixedOnesSound_2 post (d + 1) σ (nI i) := by
    intro d
    induction d with
    | zero =>
      intro i hi hf
      obtain rfl : i = W := by omega
      rw [u_X7_areFixedOnesSound_2, O.h8]
      rw [hf] at h
      exact ⟨fun _ => h, fun c => absurd (le_self _) c⟩
    | succ d ih =>
      intro i hi hf
      rw [u_X7_areFixedOnesSound_2, O.h8, nI_1, nI_clamp (by omega)]
      refine ⟨fun c => absurd c (nI_ge (by omega) (by omega)), fun _ => ⟨vp_in_nI (by omega) (by decide), fun c1 => law_isFixedOneSound O (by omega) ⟨fun c2 => ?_, fun c2 => ?_⟩, fun c1 => ?_⟩⟩
      · have ht : allFx σ (i + 1) = false := by unfold allFx; rw [hf, decide_eq_true c1, b01_0.mp c2]; rfl
        rw [allFx_le (n := W) (by omega) ht] at h
        exact h
      · exact ih (i + 1) (by omega) (by unfold allFx; rw [hf, b01_1.mp c2, Bool.or_true]; rfl)
      · exact ih (i + 1) (by omega) (by unfold allFx; rw [hf, decide_eq_false c1]; rfl)
  exact ⟨W + 1, key W 0 (by omega) rfl⟩
def paidI (σ : MS) (n : Nat) : Int32 := sumI (fun w => σ (73 + w) 11) n
def earnI (σ : MS) (n : Nat) : Int32 := sumI (fun p => σ (29 + p) 5) n
theorem law_isCashSound {post : Int32 → MS → Prop} {σ : MS} {P B W T : Nat} (O : Ok σ P B W T) (h : post (b01 (decide (σ 0 10 = paidI σ W - earnI σ P))) σ) : w_X7_isCashSound post σ := by
  have hW := O.hW
  unfold w_X7_isCashSound
  refine up_loop (fun k (q : MS × Int32 × Int32) => u_X7_isCashSound_4 post k q.1 q.2.1 q.2.2) (fun i => (σ, paidI σ i, nI i)) W ?_ (fun i k hi hk => ?_)
  · show u_X7_isCashSound_4 post 1 σ (paidI σ W) (nI W)
    rw [u_X7_isCashSound_4, O.h8]
    refine ⟨fun _ => law_allEarned O.h6 O.hP ⟨fun c => ?_, fun c => ?_⟩, fun c => absurd (le_self _) c⟩
    · rw [decide_eq_true (show σ 0 10 = paidI σ W - earnI σ P from c)] at h
      exact h
    · rw [decide_eq_false (show ¬ σ 0 10 = paidI σ W - earnI σ P from c)] at h
      exact h
  · show u_X7_isCashSound_4 post (k + 1) σ (paidI σ i) (nI i)
    rw [u_X7_isCashSound_4, O.h8, nI_1, nI_clamp (by omega)]
    exact ⟨fun c => absurd c (nI_ge hi (by omega)), fun _ => ⟨vp_in_nI (by omega) (by decide), hk⟩⟩
def hrsI (σ : MS) (n : Nat) : Int32 := sumI (fun p => σ (29 + p) 7) n
def hrsD (σ : MS) (v : Int32) : Nat → Int32
  | 0 => v
  | n + 1 => if σ (73 + n) 7 = 2 then hrsD σ v n - (σ (73 + n) 4 * bcI (σ (73 + n) 8)) else hrsD σ v n
theorem law_hrs32 {post : Int32 → MS → Prop} {σ : MS} {P B W T : Nat} {v : Int32} (O : Ok σ P B W T) (h : post (b01 (decide (hrsD σ v W = 0))) σ) : ∃ k, u_X7_areHoursSound_32 post k σ v 0 := by
  have hW := O.hW
  refine up_loop (fun k (q : MS × Int32 × Int32) => u_X7_areHoursSound_32 post k q.1 q.2.1 q.2.2) (fun i => (σ, hrsD σ v i, nI i)) W ?_ (fun i k hi hk => ?_)
  · show u_X7_areHoursSound_32 post 1 σ (hrsD σ v W) (nI W)
    rw [u_X7_areHoursSound_32, O.h8]
    refine ⟨fun _ => ⟨fun c => ?_, fun c => ?_⟩, fun c => absurd (le_self _) c⟩
    · rw [decide_eq_true c] at h
      exact h
    · rw [decide_eq_false c] at h
      exact h
  · show u_X7_areHoursSound_32 post (k + 1) σ (hrsD σ v i) (nI i)
    have hk : u_X7_areHoursSound_32 post k σ (hrsD σ v (i + 1)) (nI (i + 1)) := hk
    unfold hrsD at hk
    have vp : vp_in (nI i) 14 := vp_in_nI (by omega) (by decide)
    rw [u_X7_areHoursSound_32, O.h8, nI_1, nI_clamp (by omega)]
    refine ⟨fun c => absurd c (nI_ge hi (by omega)), fun _ => ⟨vp, fun c => ⟨vp, vp, law_bitCount ?_⟩, fun c => ?_⟩⟩
    · rw [if_pos c] at hk; exact hk
    · rw [if_neg c] at hk; exact hk
theorem law_areHoursSound {post : Int32 → MS → Prop} {σ : MS} {P B W T : Nat} (O : Ok σ P B W T) (h : post (b01 (decide (hrsD σ (hrsI σ P) W = 0))) σ) : w_X7_areHoursSound post σ := by
  have hP := O.hP
  unfold w_X7_areHoursSound
  refine up_loop (fun k (q : MS × Int32 × Int32) => u_X7_areHoursSound_4 post k q.1 q.2.1 q.2.2) (fun i => (σ, hrsI σ i, nI i)) P ?_ (fun i k hi hk => ?_)
  · show u_X7_areHoursSound_4 post 1 σ (hrsI σ P) (nI P)
    rw [u_X7_areHoursSound_4, O.h6]
    exact ⟨fun _ => law_hrs32 O h, fun c => absurd (le_self _) c⟩
  · show u_X7_areHoursSound_4 post (k + 1) σ (hrsI σ i) (nI i)
    rw [u_X7_areHoursSound_4, O.h6, nI_1, nI_clamp (by omega)]
    exact ⟨fun c => absurd c (nI_ge hi (by omega)), fun _ => ⟨vp_in_nI (by omega) (by decide), hk⟩⟩
def shrI (σ : MS) (n : Nat) : Int32 := sumI (fun s => shareF σ s) n
theorem law_areSharesSound {post : Int32 → MS → Prop} {σ : MS} (h : post (b01 (decide (¬ 1000 < shrI σ 16))) σ) : w_X7_areSharesSound post σ := by
  unfold w_X7_areSharesSound
  refine up_loop (fun k (q : MS × Int32 × Int32) => u_X7_areSharesSound_4 post k q.1 q.2.1 q.2.2) (fun i => (σ, shrI σ i, nI i)) 16 ?_ (fun i k hi hk => ?_)
  · show u_X7_areSharesSound_4 post 1 σ (shrI σ 16) (nI 16)
    rw [u_X7_areSharesSound_4]
    refine ⟨fun _ => ⟨fun c => ?_, fun c => ?_⟩, fun c => absurd (le_self _) c⟩
    · rw [decide_eq_false (fun q => q c)] at h
      exact h
    · rw [decide_eq_true c] at h
      exact h
  · show u_X7_areSharesSound_4 post (k + 1) σ (shrI σ i) (nI i)
    rw [u_X7_areSharesSound_4, nI_1, nI_clamp (by omega)]
    exact ⟨fun c => absurd (show nI 16 ≤ nI i from c) (nI_ge hi (by decide)), fun _ => ⟨vp_in_nI hi (by decide), law_shareOf hk⟩⟩
def sndB (σ : MS) (P W : Nat) : Bool := allFx σ W && (decide (σ 0 10 = paidI σ W - earnI σ P) && (decide (hrsD σ (hrsI σ P) W = 0) && decide (¬ 1000 < shrI σ 16)))
theorem law_isSound {post : Int32 → MS → Prop} {σ : MS} {P B W T : Nat} (O : Ok σ P B W T) (h : post (b01 (sndB σ P W)) σ) : w_X7_isSound post σ := by
  unfold w_X7_isSound
  unfold sndB at h
  refine law_areFixedOnesSound O ⟨fun c => ?_, fun c => law_isCashSound O ⟨fun d => ?_, fun d => law_areHoursSound O ⟨fun e => ?_, fun e => law_areSharesSound ⟨fun f => ?_, fun f => ?_⟩⟩⟩⟩
  · rw [b01_0.mp c] at h; exact h
  · rw [b01_1.mp c, b01_0.mp d] at h; exact h
  · rw [b01_1.mp c, b01_1.mp d, b01_0.mp e] at h; exact h
  · rw [b01_1.mp c, b01_1.mp d, b01_1.mp e, b01_0.mp f] at h; exact h
  · rw [b01_1.mp c, b01_1.mp d, b01_1.mp e, b01_1.mp f] at h; exact h
