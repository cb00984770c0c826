/-! LAWS: what holds of every state; who is free; feuds, costs, songs of a set -/
def Ok (σ : MS) (P B W T : Nat) : Prop :=
  (σ 0 6 = nI P) ∧ (P ≤ 10) ∧ (σ 0 7 = nI B) ∧ (B ≤ 6) ∧ (σ 0 8 = nI W) ∧ (W ≤ 14) ∧ (σ 0 9 = nI T) ∧ (T ≤ 365) ∧ (∀ p, p < 10 → vp_in (σ (29 + p) 2) 6) ∧ (∀ w, w < 14 → vp_in (σ (73 + w) 0) 6) ∧ (∀ w, w < 14 → vp_in (σ (73 + w) 1) 366) ∧ (∀ w, w < 14 → vp_in (σ (73 + w) 2) 6) ∧ (∀ b, b < 6 → ∃ s, s ≤ 5 ∧ σ (55 + b) 2 = nI s) ∧ (∀ b j, b < 6 → j < 5 → ∃ q, q < 6 ∧ σ (67 + b) j = nI q)
theorem Ok.h6 {σ : MS} {P B W T : Nat} (O : Ok σ P B W T) : σ 0 6 = nI P := O.1
theorem Ok.hP {σ : MS} {P B W T : Nat} (O : Ok σ P B W T) : P ≤ 10 := O.2.1
theorem Ok.h7 {σ : MS} {P B W T : Nat} (O : Ok σ P B W T) : σ 0 7 = nI B := O.2.2.1
theorem Ok.hB {σ : MS} {P B W T : Nat} (O : Ok σ P B W T) : B ≤ 6 := O.2.2.2.1
theorem Ok.h8 {σ : MS} {P B W T : Nat} (O : Ok σ P B W T) : σ 0 8 = nI W := O.2.2.2.2.1
theorem Ok.hW {σ : MS} {P B W T : Nat} (O : Ok σ P B W T) : W ≤ 14 := O.2.2.2.2.2.1
theorem Ok.h9 {σ : MS} {P B W T : Nat} (O : Ok σ P B W T) : σ 0 9 = nI T := O.2.2.2.2.2.2.1
theorem Ok.hT {σ : MS} {P B W T : Nat} (O : Ok σ P B W T) : T ≤ 365 := O.2.2.2.2.2.2.2.1
theorem Ok.home {σ : MS} {P B W T : Nat} (O : Ok σ P B W T) : ∀ p, p < 10 → vp_in (σ (29 + p) 2) 6 := O.2.2.2.2.2.2.2.2.1
theorem Ok.band {σ : MS} {P B W T : Nat} (O : Ok σ P B W T) : ∀ w, w < 14 → vp_in (σ (73 + w) 0) 6 := O.2.2.2.2.2.2.2.2.2.1
theorem Ok.day {σ : MS} {P B W T : Nat} (O : Ok σ P B W T) : ∀ w, w < 14 → vp_in (σ (73 + w) 1) 366 := O.2.2.2.2.2.2.2.2.2.2.1
theorem Ok.town {σ : MS} {P B W T : Nat} (O : Ok σ P B W T) : ∀ w, w < 14 → vp_in (σ (73 + w) 2) 6 := O.2.2.2.2.2.2.2.2.2.2.2.1
theorem Ok.size {σ : MS} {P B W T : Nat} (O : Ok σ P B W T) : ∀ b, b < 6 → ∃ s, s ≤ 5 ∧ σ (55 + b) 2 = nI s := O.2.2.2.2.2.2.2.2.2.2.2.2.1
theorem Ok.place {σ : MS} {P B W T : Nat} (O : Ok σ P B W T) : ∀ b j, b < 6 → j < 5 → ∃ q, q < 6 ∧ σ (67 + b) j = nI q := O.2.2.2.2.2.2.2.2.2.2.2.2.2
/-- but for stage, seated, found and the best set -/
def Scr (σ σ' : MS) : Prop := ∀ k, (k < 7 ∨ 15 ≤ k) → σ' k = σ k
theorem Scr.rf (σ : MS) : Scr σ σ := fun _ _ => rfl
theorem Scr.tr {a b c : MS} (h : Scr a b) (g : Scr b c) : Scr a c := fun k hk => (g k hk).trans (h k hk)
theorem Scr.up {σ : MS} {k j : Nat} {v : Int32} (h1 : 7 ≤ k) (h2 : k < 15) : Scr σ (up2 σ k j v) := fun i hi => up2_ne (by omega)
theorem Scr.stg (σ : MS) (n : Nat) : Scr σ (stg σ n) := fun k hk => stg_k (by omega)
theorem Ok.scr {σ σ' : MS} {P B W T : Nat} (O : Ok σ P B W T) (h : Scr σ σ') : Ok σ' P B W T := ⟨(by rw [h 0 (by omega)]; exact O.h6), O.hP, (by rw [h 0 (by omega)]; exact O.h7), O.hB, (by rw [h 0 (by omega)]; exact O.h8), O.hW, (by rw [h 0 (by omega)]; exact O.h9), O.hT, (fun p hp => by rw [h (29 + p) (by omega)]; exact O.home p hp), (fun w hw => by rw [h (73 + w) (by omega)]; exact O.band w hw), (fun w hw => by rw [h (73 + w) (by omega)]; exact O.day w hw), (fun w hw => by rw [h (73 + w) (by omega)]; exact O.town w hw), (fun b hb => by rw [h (55 + b) (by omega)]; exact O.size b hb), (fun b j hb hj => by rw [h (67 + b) (by omega)]; exact O.place b j hb hj)⟩
def lv2 (σ : MS) (e l : Nat) : Bool := decide (¬ wayF σ (σ (73 + e) 2) (σ (73 + l) 2) = -1 ∧ ¬ σ (73 + l) 3 < (σ (73 + e) 3 + σ (73 + e) 4) + wayF σ (σ (73 + e) 2) (σ (73 + l) 2))
def leaveB (σ : MS) (a b : Nat) : Bool := if σ (73 + a) 3 ≤ σ (73 + b) 3 then lv2 σ a b else lv2 σ b a
theorem law_lv2 {post : Int32 → MS → Prop} {σ : MS} {a1 a2 : Int32} {e l : Nat} (hl : l < 14) (h1 : vp_in (σ (73 + e) 2) 6) (h2 : vp_in (σ (73 + l) 2) 6) (h : post (b01 (lv2 σ e l)) σ) : u_X7_leaveTime_56 post a1 a2 σ e (nI l) := by
  unfold u_X7_leaveTime_56
  rw [nI_clamp (by omega)]
  unfold lv2 at h
  refine ⟨vp_in_nI hl (by decide), law_between h1 h2 ⟨fun c => ?_, fun c => ⟨fun d => ?_, fun d => ?_⟩⟩⟩
  · rw [decide_eq_false (fun q => q.1 c)] at h; exact h
  · rw [decide_eq_false (fun q => q.2 d)] at h; exact h
  · rw [decide_eq_true ⟨c, d⟩] at h; exact h
theorem law_leaveTime {post : Int32 → MS → Prop} {σ : MS} {P B W T a b : Nat} (O : Ok σ P B W T) (ha : a < 14) (hb : b < 14) (h : post (b01 (leaveB σ a b)) σ) : w_X7_leaveTime post σ (nI a) (nI b) := by
  unfold w_X7_leaveTime
  rw [nI_clamp (by omega), nI_clamp (by omega)]
  unfold leaveB at h
  refine ⟨vp_in_nI hb (by decide), vp_in_nI ha (by decide), fun c => ?_, fun c => ?_⟩
  · rw [if_pos c] at h
    unfold u_X7_leaveTime_26 u_X7_leaveTime_40
    rw [nI_clamp (by omega)]
    exact ⟨fun _ => ⟨vp_in_nI ha (by decide), fun _ => law_lv2 hb (O.town a ha) (O.town b hb) h, fun q => absurd rfl q⟩, fun q => absurd rfl q⟩
  · rw [if_neg c] at h
    unfold u_X7_leaveTime_26 u_X7_leaveTime_40
    rw [nI_clamp (by omega), nI_clamp (by omega)]
    exact ⟨fun q => absurd q (by decide), fun _ => ⟨vp_in_nI hb (by decide), fun q => absurd q (by decide), fun _ => law_lv2 ha (O.town b hb) (O.town a ha) h⟩⟩
def othB (σ : MS) (p w i : Nat) : Bool := decide (i ≠ w ∧ σ (73 + i) 1 = σ (73 + w) 1 ∧ bt (σ 7 i) p = true)
def okUp (σ : MS) (p w : Nat) : Nat → Bool
  | 0 => true
  | n + 1 => okUp σ p w n && (!othB σ p w n || leaveB σ (if w < n then w else n) (if n < w then w else n))
theorem okUp_le {σ : MS} {p w i n : Nat} (h : i ≤ n) (ht : okUp σ p w i = false) : okUp σ p w n = false := by
  induction n with
  | zero => obtain rfl : i = 0 := by omega
            exact ht
  | succ n ih =>
    by_cases q : i = n + 1
    · subst q; exact ht
    · unfold okUp; rw [ih (by omega)]; rfl
/-- whether the player is there that day, and can come -/
def freeB (σ : MS) (p w W : Nat) : Bool := !bt (σ 6 (σ (73 + w) 1).toNatClampNeg) p && (!decide (wayF σ (σ (29 + p) 2) (σ (73 + w) 2) = -1) && okUp σ p w W)
theorem law_isFreeFor {post : Int32 → MS → Prop} {σ : MS} {P B W T p w : Nat} (O : Ok σ P B W T) (hp : p < 10) (hw : w < 14) (h : post (b01 (freeB σ p w W)) σ) : w_X7_isFreeFor post σ (nI p) (nI w) := by
  have hW := O.hW
  have key : ∀ d i, i + d = W → okUp σ p w i = true → post (b01 (okUp σ p w W)) σ → u_X7_isFreeFor_52 post (nI p) (nI w) (d + 1) σ w (nI i) := by
    intro d
    induction d with
    | zero =>
      intro i hi hf h
      obtain rfl : i = W := by omega
      rw [u_X7_isFreeFor_52, O.h8]
      rw [hf] at h
      exact ⟨fun _ => h, fun c => absurd (le_self _) c⟩
    | succ d ih =>
      intro i hi hf h
      have step : ¬ (othB σ p w i = true) → u_X7_isFreeFor_102 post (nI p) (nI w) (fun σ w0 w1 => u_X7_isFreeFor_52 post (nI p) (nI w) (d + 1) σ w0 w1) σ w (nI i) := fun hx => by
        unfold u_X7_isFreeFor_102 u_X7_isFreeFor_103
        refine ⟨fun _ => ?_, fun q => absurd rfl q⟩
        show u_X7_isFreeFor_52 post (nI p) (nI w) (d + 1) σ w (nI i + 1)
        rw [nI_1]
        refine ih (i + 1) (by omega) ?_ h
        have hx2 : othB σ p w i = false := by cases q : othB σ p w i with
          | false => rfl
          | true => exact absurd q hx
        unfold okUp
        rw [hf, hx2]
        rfl
      rw [u_X7_isFreeFor_52, O.h8, nI_clamp (by omega)]
      have v : vp_in (nI i) 14 := vp_in_nI (by omega) (by decide)
      refine ⟨fun c => absurd c (nI_ge (by omega) (by omega)), fun _ => ⟨fun c => step fun q => ?_, fun c => ⟨v, fun c2 => ⟨v, law_has (by omega) ⟨fun c3 => step fun q => ?_, fun c3 => ?_⟩⟩, fun c2 => step fun q => ?_⟩⟩⟩
      · exact (of_decide_eq_true q).1 ((nI_eq (by omega) (by omega)).mp c)
      · have := (of_decide_eq_true q).2.2
        rw [b01_0.mp c3] at this
        exact Bool.false_ne_true this
      · have ho : othB σ p w i = true := decide_eq_true ⟨fun q => c (by rw [q]), c2, b01_1.mp c3⟩
        unfold u_X7_isFreeFor_103
        refine ⟨fun q => absurd q (by decide), fun _ => ?_⟩
        have e1 : (if nI w < nI i then nI w else nI i) = nI (if w < i then w else i) := by
          by_cases q : w < i
          · rw [if_pos q, if_pos (nI_lt q (by omega))]
          · rw [if_neg q, if_neg (nI_nlt (by omega) (by omega))]
        have e2 : (if nI i < nI w then nI w else nI i) = nI (if i < w then w else i) := by
          by_cases q : i < w
          · rw [if_pos q, if_pos (nI_lt q (by omega))]
          · rw [if_neg q, if_neg (nI_nlt (by omega) (by omega))]
        rw [e1, e2]
        refine law_leaveTime O (by split <;> omega) (by split <;> omega) ⟨fun c4 => ?_, fun c4 => ?_⟩
        · have : okUp σ p w (i + 1) = false := by
            unfold okUp
            rw [hf, ho, b01_0.mp c4]
            rfl
          rw [okUp_le (n := W) (by omega) this] at h
          exact h
        · show u_X7_isFreeFor_52 post (nI p) (nI w) (d + 1) σ w (nI i + 1)
          rw [nI_1]
          refine ih (i + 1) (by omega) ?_ h
          unfold okUp
          rw [hf, ho, b01_1.mp c4]
          rfl
      · exact c2 (of_decide_eq_true q).2.1
  unfold w_X7_isFreeFor
  rw [nI_clamp (by omega), nI_clamp (by omega)]
  unfold freeB at h
  refine ⟨vp_in_nI hw (by decide), O.day w hw, law_has (by omega) ⟨fun c => ⟨vp_in_nI hp (by decide), law_between (O.home p hp) (O.town w hw) ⟨fun c2 => ?_, fun c2 => ⟨W + 1, ?_⟩⟩⟩, fun c => ?_⟩⟩
  · rw [decide_eq_true c2, b01_0.mp c] at h
    exact h
  · rw [decide_eq_false c2, b01_0.mp c] at h
    exact key W 0 (by omega) rfl h
  · rw [b01_1.mp c] at h
    exact h
def orI (f : Nat → Int32) : Nat → Int32
  | 0 => 0
  | n + 1 => orI f n ||| f n
abbrev one (i : Nat) : Int32 := 1 <<< (nI i &&& 31)
def freeF (σ : MS) (w W n : Nat) : Int32 := orI (fun p => if freeB σ p w W = true then one p else 0) n
theorem law_freeFor {post : Int32 → MS → Prop} {σ : MS} {P B W T w : Nat} (O : Ok σ P B W T) (hw : w < 14) (h : post (freeF σ w W P) σ) : w_X7_freeFor post σ (nI w) := by
  have hP := O.hP
  unfold w_X7_freeFor
  refine up_loop (fun k (q : MS × Int32 × Int32) => u_X7_freeFor_4 post (nI w) k q.1 q.2.1 q.2.2) (fun i => (σ, freeF σ w W i, nI i)) P ?_ (fun i k hi hk => ?_)
  · show u_X7_freeFor_4 post (nI w) 1 σ (freeF σ w W P) (nI P)
    rw [u_X7_freeFor_4, O.h6]
    exact ⟨fun _ => h, fun c => absurd (le_self _) c⟩
  · show u_X7_freeFor_4 post (nI w) (k + 1) σ (freeF σ w W i) (nI i)
    have hk : u_X7_freeFor_4 post (nI w) k σ (freeF σ w W i ||| (if freeB σ i w W = true then one i else 0)) (nI (i + 1)) := hk
    rw [u_X7_freeFor_4, O.h6, nI_1]
    refine ⟨fun c => absurd c (nI_ge hi (by omega)), fun _ => law_isFreeFor O (by omega) hw ⟨fun c => ?_, fun c => ?_⟩⟩
    · rw [if_neg (by rw [b01_0.mp c]; exact Bool.false_ne_true), Int32.or_zero] at hk
      exact hk
    · rw [if_pos (b01_1.mp c)] at hk
      exact hk
/-- one of the first n, in the set, has a feud with one in the set -/
def feudB (σ : MS) (s : Int32) : Nat → Bool
  | 0 => false
  | n + 1 => feudB σ s n || decide (bt s n = true ∧ ¬ (σ (29 + n) 4 &&& s) = 0)
theorem feudB_le {σ : MS} {s : Int32} {i n : Nat} (h : i ≤ n) (ht : feudB σ s i = true) : feudB σ s n = true := by
  induction n with
  | zero => obtain rfl : i = 0 := by omega
            exact ht
  | succ n ih =>
    by_cases q : i = n + 1
    · subst q; exact ht
    · unfold feudB; rw [ih (by omega)]; rfl
theorem law_hasFeud {post : Int32 → MS → Prop} {σ : MS} {s : Int32} {n : Nat} (h6 : σ 0 6 = nI n) (hn : n ≤ 10) (h : post (b01 (feudB σ s n)) σ) : w_X7_hasFeud post σ s := by
  have key : ∀ d i, i + d = n → feudB σ s i = false → u_X7_hasFeud_2 post s (d + 1) σ (nI i) := by
    intro d
    induction d with
    | zero =>
      intro i hi hf
      obtain rfl : i = n := by omega
      rw [u_X7_hasFeud_2, h6]
      rw [hf] at h
      exact ⟨fun _ => h, fun c => absurd (le_self _) c⟩
    | succ d ih =>
      intro i hi hf
      have step : ¬ (bt s i = true ∧ ¬ (σ (29 + i) 4 &&& s) = 0) → u_X7_hasFeud_2 post s (d + 1) σ (nI (i + 1)) := fun hx => ih (i + 1) (by omega) (by unfold feudB; rw [hf, decide_eq_false hx]; rfl)
      rw [u_X7_hasFeud_2, h6, nI_1, nI_clamp (by omega)]
      refine ⟨fun c => absurd c (nI_ge (by omega) (by omega)), fun _ => law_has (by omega) ⟨fun c => step fun q => ?_, fun c => ⟨vp_in_nI (by omega) (by decide), fun c2 => step fun q => q.2 c2, fun c2 => ?_⟩⟩⟩
      · rw [b01_0.mp c] at q
        exact Bool.false_ne_true q.1
      · have ht : feudB σ s (i + 1) = true := by unfold feudB; rw [decide_eq_true ⟨b01_1.mp c, c2⟩, Bool.or_true]
        rw [feudB_le (n := n) (by omega) ht] at h
        exact h
  exact ⟨n + 1, key n 0 (by omega) rfl⟩
def costsF (σ : MS) (s : Int32) (w n : Nat) : Int32 := sumI (ifb s fun p => costF σ p w) n
theorem law_costOfAll {post : Int32 → MS → Prop} {σ : MS} {P B W T w : Nat} {s : Int32} (O : Ok σ P B W T) (hw : w < 14) (h : post (costsF σ s w P) σ) : w_X7_costOfAll post σ s w := by
  have hP := O.hP
  unfold w_X7_costOfAll
  refine up_loop (fun k (q : MS × Int32 × Int32) => u_X7_costOfAll_5 post s w k q.1 q.2.1 q.2.2) (fun i => (σ, costsF σ s w i, nI i)) P ?_ (fun i k hi hk => ?_)
  · show u_X7_costOfAll_5 post s w 1 σ (costsF σ s w P) (nI P)
    rw [u_X7_costOfAll_5, O.h6]
    exact ⟨fun _ => h, fun c => absurd (le_self _) c⟩
  · show u_X7_costOfAll_5 post s w (k + 1) σ (costsF σ s w i) (nI i)
    have hk : u_X7_costOfAll_5 post s w k σ (costsF σ s w i + ifb s (fun p => costF σ p w) i) (nI (i + 1)) := hk
    rw [u_X7_costOfAll_5, O.h6, nI_1, nI_clamp (by omega)]
    refine ⟨fun c => absurd c (nI_ge hi (by omega)), fun _ => law_has (by omega) ⟨fun c => ?_, fun c => ⟨vp_in_nI (by omega) (by decide), law_costAt (O.home i (by omega)) (O.town w hw) ?_⟩⟩⟩
    · unfold ifb at hk
      rw [if_neg (by rw [b01_0.mp c]; exact Bool.false_ne_true), Int32.add_zero] at hk
      exact hk
    · unfold ifb at hk
      rw [if_pos (b01_1.mp c)] at hk
      exact hk
/-- songs that one of the set knows, and that two of them know -/
def kn (σ : MS) (s : Int32) : Nat → Int32 × Int32
  | 0 => (0, 0)
  | n + 1 => if bt s n = true then ((kn σ s n).1 ||| σ (29 + n) 1, (kn σ s n).2 ||| ((kn σ s n).1 &&& σ (29 + n) 1)) else kn σ s n
def playF (σ : MS) (s : Int32) (n : Nat) : Int32 := if bcI s = 1 then (kn σ s n).1 else (kn σ s n).2
theorem law_playableFor {post : Int32 → MS → Prop} {σ : MS} {s : Int32} {n : Nat} (h6 : σ 0 6 = nI n) (hn : n ≤ 10) (h : post (playF σ s n) σ) : w_X7_playableFor post σ s := by
  unfold w_X7_playableFor
  refine up_loop (fun k (q : MS × Int32 × Int32 × Int32) => u_X7_playableFor_7 post s k q.1 q.2.1 q.2.2.1 q.2.2.2) (fun i => (σ, (kn σ s i).1, (kn σ s i).2, nI i)) n ?_ (fun i k hi hk => ?_)
  · show u_X7_playableFor_7 post s 1 σ (kn σ s n).1 (kn σ s n).2 (nI n)
    rw [u_X7_playableFor_7, h6]
    unfold playF at h
    refine ⟨fun _ => law_bitCount ⟨fun c => ?_, fun c => ?_⟩, fun c => absurd (le_self _) c⟩
    · rw [if_pos c] at h; exact h
    · rw [if_neg c] at h; exact h
  · show u_X7_playableFor_7 post s (k + 1) σ (kn σ s i).1 (kn σ s i).2 (nI i)
    have hk : u_X7_playableFor_7 post s k σ (kn σ s (i + 1)).1 (kn σ s (i + 1)).2 (nI (i + 1)) := hk
    unfold kn at hk
    rw [u_X7_playableFor_7, h6, nI_1, nI_clamp (by omega)]
    refine ⟨fun c => absurd c (nI_ge hi (by omega)), fun _ => law_has (by omega) ⟨fun c => ?_, fun c => ⟨vp_in_nI (by omega) (by decide), vp_in_nI (by omega) (by decide), ?_⟩⟩⟩
    · rw [if_neg (by rw [b01_0.mp c]; exact Bool.false_ne_true)] at hk
      exact hk
    · rw [if_pos (b01_1.mp c)] at hk
      exact hk
