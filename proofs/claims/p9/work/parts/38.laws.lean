/-! LAWS: stages filled anew, money moved, sets of weddings -/
def swS (σ : MS) (P W p : Nat) (day : Int32) : Nat → MS × Int32
  | 0 => (stg σ W, 0)
  | n + 1 =>
    let x := swS σ P W p day n
    let y := survF x.1 n P (freeF x.1 n W P &&& (one p ^^^ (-1))) (x.1 7 n)
    if x.1 (73 + n) 1 = day ∧ bt (x.1 7 n) p = true then (up2 y 7 n (if y 9 3 = 0 then 0 else y 9 0), x.2 + (if y 9 3 = 0 then 1 else 0)) else x
theorem Scr.sw (σ : MS) (P W p : Nat) (day : Int32) : ∀ n, Scr σ (swS σ P W p day n).1
  | 0 => Scr.stg σ W
  | n + 1 => by
    unfold swS
    dsimp only
    split
    · exact ((Scr.sw σ P W p day n).tr (Scr.surv _ _ _ _ _)).tr (Scr.up (by decide) (by decide))
    · exact Scr.sw σ P W p day n
theorem law_stageWithout {post : Int32 → MS → Prop} {σ : MS} {P B W T p : Nat} {day : Int32} (O : Ok σ P B W T) (hp : p < 10) (h : post (swS σ P W p day W).2 (swS σ P W p day W).1) : w_X7_stageWithout post σ (nI p) day := by
  have hW := O.hW
  refine law_stageAsFixed O.h8 hW ?_
  have hl := up_loop (fun k (q : (MS × Int32) × Int32) => u_X7_stageWithout_9 post (nI p) day k q.1.1 q.1.2 q.2) (fun i => (swS σ P W p day i, nI i)) W ?_ (fun i k hi hk => ?_)
  · exact hl
  · show u_X7_stageWithout_9 post (nI p) day 1 (swS σ P W p day W).1 (swS σ P W p day W).2 (nI W)
    rw [u_X7_stageWithout_9, (O.scr (Scr.sw σ P W p day W)).h8]
    exact ⟨fun _ => h, fun c => absurd (le_self _) c⟩
  · show u_X7_stageWithout_9 post (nI p) day (k + 1) (swS σ P W p day i).1 (swS σ P W p day i).2 (nI i)
    have hk : u_X7_stageWithout_9 post (nI p) day k (swS σ P W p day (i + 1)).1 (swS σ P W p day (i + 1)).2 (nI (i + 1)) := hk
    unfold swS at hk
    have Ox := O.scr (Scr.sw σ P W p day i)
    generalize swS σ P W p day i = x at hk Ox ⊢
    dsimp only at hk
    have v : vp_in (nI i) 14 := vp_in_nI (by omega) (by decide)
    rw [u_X7_stageWithout_9, Ox.h8, nI_1, nI_clamp (by omega)]
    refine ⟨fun c => absurd c (nI_ge hi (by omega)), fun _ => ⟨v, fun c => ⟨v, law_has (by omega) ⟨fun d => ?_, fun d => law_freeFor Ox (by omega) ⟨v, law_survey Ox (by omega) ?_⟩⟩⟩, fun c => ?_⟩⟩
    · rw [if_neg (fun q => by rw [b01_0.mp d] at q; exact Bool.false_ne_true q.2)] at hk
      exact hk
    · rw [if_pos ⟨c, b01_1.mp d⟩] at hk
      dsimp only at hk
      generalize survF x.1 i P (freeF x.1 i W P &&& (one p ^^^ (-1))) (x.1 7 i) = y at hk ⊢
      unfold u_X7_stageWithout_98
      rw [nI_clamp (by omega), nI_1]
      refine ⟨fun e => ⟨v, fun _ => ?_, fun f => absurd e f⟩, fun e => ⟨v, fun f => absurd f e, fun _ => ?_⟩⟩
      · rw [if_pos e, if_pos e] at hk
        exact hk
      · rw [if_neg e, if_neg e] at hk
        exact hk
    · rw [if_neg (fun q => c q.1)] at hk
      exact hk
def priceI (c : Int32) : Int32 := ((c * 6) / 5) + 50
/-- the chosen ones filled, one after the other, of the first n; none where one has no filling -/
def saS (σ : MS) (P W : Nat) (ch : Int32) : Nat → Option (MS × Int32) × MS
  | 0 => (some (stg σ W, 0), stg σ W)
  | n + 1 => match (saS σ P W ch n).1 with
    | none => saS σ P W ch n
    | some x =>
      if bt ch n = true then
        (let y := survF x.1 n P (freeF x.1 n W P) 0
         if y 9 3 = 0 then (none, y) else (some (up2 y 7 n (y 9 0), x.2 + priceI (y 9 1)), y))
      else (some x, x.1)
theorem Scr.sa (σ : MS) (P W : Nat) (ch : Int32) : ∀ n, Scr σ (saS σ P W ch n).2 ∧ ∀ x, (saS σ P W ch n).1 = some x → Scr σ x.1
  | 0 => ⟨Scr.stg σ W, fun x hx => by cases hx; exact Scr.stg σ W⟩
  | n + 1 => by
    have ih := Scr.sa σ P W ch n
    unfold saS
    cases q : (saS σ P W ch n).1 with
    | none => exact ih
    | some x =>
      have hx := ih.2 x q
      dsimp only
      by_cases c : bt ch n = true
      · rw [if_pos c]
        have hy : Scr σ (survF x.1 n P (freeF x.1 n W P) 0) := hx.tr (Scr.surv _ _ _ _ _)
        by_cases d : survF x.1 n P (freeF x.1 n W P) 0 9 3 = 0
        · rw [if_pos d]
          exact ⟨hy, fun z hz => by cases hz⟩
        · rw [if_neg d]
          exact ⟨hy, fun z hz => by cases hz; exact hy.tr (Scr.up (by decide) (by decide))⟩
      · rw [if_neg c]
        exact ⟨hx, fun z hz => by cases hz; exact hx⟩
theorem saS_none {σ : MS} {P W : Nat} {ch : Int32} {i n : Nat} (h : i ≤ n) (hi : (saS σ P W ch i).1 = none) : saS σ P W ch n = saS σ P W ch i := by
  induction n with
  | zero => obtain rfl : i = 0 := by omega
            rfl
  | succ n ih =>
    by_cases q : i = n + 1
    · subst q; rfl
    · have e := ih (by omega)
      have hn : (saS σ P W ch n).1 = none := by rw [e]; exact hi
      rw [← e]
      conv => lhs; unfold saS
      rw [hn]
def saR (x : Option (MS × Int32) × MS) : Int32 × MS := match x.1 with
  | none => (-1, x.2)
  | some z => (z.2, z.1)
theorem law_stageAll {post : Int32 → MS → Prop} {σ : MS} {P B W T : Nat} {ch : Int32} (O : Ok σ P B W T) (h : post (saR (saS σ P W ch W)).1 (saR (saS σ P W ch W)).2) : w_X7_stageAll post σ ch := by
  have hW := O.hW
  refine law_stageAsFixed O.h8 hW ⟨W + 1, ?_⟩
  have key : ∀ d i, i + d = W → ∀ x, (saS σ P W ch i).1 = some x → u_X7_stageAll_8 post ch (d + 1) x.1 x.2 (nI i) := by
    intro d
    induction d with
    | zero =>
      intro i hi x hx
      obtain rfl : i = W := by omega
      have Ox := O.scr ((Scr.sa σ P i ch i).2 x hx)
      unfold saR at h
      rw [hx] at h
      rw [u_X7_stageAll_8, Ox.h8]
      exact ⟨fun _ => h, fun c => absurd (le_self _) c⟩
    | succ d ih =>
      intro i hi x hx
      have Ox := O.scr ((Scr.sa σ P W ch i).2 x hx)
      have hs : saS σ P W ch (i + 1) = if bt ch i = true then (if survF x.1 i P (freeF x.1 i W P) 0 9 3 = 0 then (none, survF x.1 i P (freeF x.1 i W P) 0) else (some (up2 (survF x.1 i P (freeF x.1 i W P) 0) 7 i (survF x.1 i P (freeF x.1 i W P) 0 9 0), x.2 + priceI (survF x.1 i P (freeF x.1 i W P) 0 9 1)), survF x.1 i P (freeF x.1 i W P) 0)) else (some x, x.1) := by
        conv => lhs; unfold saS
        rw [hx]
      rw [u_X7_stageAll_8, Ox.h8, nI_1, nI_clamp (by omega)]
      refine ⟨fun c => absurd c (nI_ge (by omega) (by omega)), fun _ => law_has (by omega) ⟨fun c => ?_, fun c => law_freeFor Ox (by omega) (law_survey Ox (by omega) ⟨fun e => ?_, fun e => ⟨vp_in_nI (by omega) (by decide), ?_⟩⟩)⟩⟩
      · rw [if_neg (by rw [b01_0.mp c]; exact Bool.false_ne_true)] at hs
        exact ih (i + 1) (by omega) x (by rw [hs])
      · rw [if_pos (b01_1.mp c), if_pos e] at hs
        have e2 := saS_none (n := W) (by omega) (show (saS σ P W ch (i + 1)).1 = none by rw [hs])
        rw [e2, hs] at h
        exact h
      · rw [if_pos (b01_1.mp c), if_neg e] at hs
        clear h
        generalize survF x.1 i P (freeF x.1 i W P) 0 = y at hs e ⊢
        have e9 : up2 y 7 i (y 9 0) 9 = y 9 := up2_ne (by decide)
        have hq := ih (i + 1) (by omega) (up2 y 7 i (y 9 0), x.2 + priceI (y 9 1)) (by rw [hs])
        unfold w_X7_priceOf
        rw [e9]
        exact hq
  exact key W 0 (by omega) (stg σ W, 0) rfl
def paidF (σ : MS) (w : Nat) (a : Int32) : MS := up2 (up2 σ (73 + w) 11 (σ (73 + w) 11 + a)) 0 10 (σ 0 10 + a)
theorem law_getPaid {post : MS → Prop} {σ : MS} {w : Nat} {a : Int32} (h : post (paidF σ w a)) : w_X7_getPaid post σ w a := by
  unfold w_X7_getPaid
  rw [up2_ne (show 0 ≠ 73 + w by omega)]
  exact h
def putF (σ : MS) (w : Nat) (s : Int32) : MS := if s = 0 then paidF (up2 σ (73 + w) 7 3) w ((-(σ (73 + w) 9 / 5)) - σ (73 + w) 9 / 10) else up2 σ (73 + w) 8 s
theorem law_putOnStage {post : MS → Prop} {σ : MS} {w : Nat} {s : Int32} (h : post (putF σ w s)) : w_X7_putOnStage post σ w s := by
  unfold w_X7_putOnStage
  unfold putF at h
  have e : up2 σ (73 + w) 7 3 (73 + w) 9 = σ (73 + w) 9 := by
    rw [up2_eq]
    exact if_neg (by decide)
  rw [e]
  refine ⟨fun c => law_getPaid ?_, fun c => ?_⟩
  · rw [if_pos c] at h; exact h
  · rw [if_neg c] at h; exact h
/-- the members of s at the places of c, of the first n: they, and how many s has -/
def memS (s c : Int32) : Nat → Int32 × Nat
  | 0 => (0, 0)
  | n + 1 => if bt s n = true then ((memS s c n).1 ||| (if bt c (memS s c n).2 = true then one n else 0), (memS s c n).2 + 1) else memS s c n
theorem memS_le (s c : Int32) : ∀ n, (memS s c n).2 ≤ n
  | 0 => Nat.le_refl _
  | n + 1 => by
    have := memS_le s c n
    unfold memS
    split
    · dsimp only; omega
    · omega
theorem law_membersAt {post : Int32 → MS → Prop} {σ : MS} {s c : Int32} (h : post (memS s c 14).1 σ) : w_X7_membersAt post σ s c := by
  unfold w_X7_membersAt
  refine up_loop (fun k (q : MS × Int32 × Int32 × Int32) => u_X7_membersAt_7 post s c k q.1 q.2.1 q.2.2.1 q.2.2.2) (fun i => (σ, (memS s c i).1, nI (memS s c i).2, nI i)) 14 ?_ (fun i k hi hk => ?_)
  · show u_X7_membersAt_7 post s c 1 σ (memS s c 14).1 (nI (memS s c 14).2) (nI 14)
    rw [u_X7_membersAt_7]
    exact ⟨fun _ => h, fun c => absurd (show (14 : Int32) ≤ nI 14 by decide) c⟩
  · show u_X7_membersAt_7 post s c (k + 1) σ (memS s c i).1 (nI (memS s c i).2) (nI i)
    have hk : u_X7_membersAt_7 post s c k σ (memS s c (i + 1)).1 (nI (memS s c (i + 1)).2) (nI (i + 1)) := hk
    have hm := memS_le s c i
    unfold memS at hk
    rw [u_X7_membersAt_7, nI_1, nI_1]
    refine ⟨fun q => absurd (show nI 14 ≤ nI i from q) (nI_ge hi (by decide)), fun _ => law_has (by omega) ⟨fun d => ?_, fun d => law_has (by omega) ⟨fun e => ?_, fun e => ?_⟩⟩⟩
    · rw [if_neg (by rw [b01_0.mp d]; exact Bool.false_ne_true)] at hk
      exact hk
    · rw [if_pos (b01_1.mp d), if_neg (by rw [b01_0.mp e]; exact Bool.false_ne_true)] at hk
      exact hk
    · rw [if_pos (b01_1.mp d), if_pos (b01_1.mp e)] at hk
      exact hk
def fstF (σ : MS) (day : Int32) : Nat → Int32
  | 0 => 0
  | n + 1 => if σ (73 + n) 1 = day ∧ isFst σ n = true ∧ ¬ 3 ≤ bcI (fstF σ day n) then fstF σ day n ||| one n else fstF σ day n
theorem law_firstOnesOf {post : Int32 → MS → Prop} {σ : MS} {day : Int32} {n : Nat} (h8 : σ 0 8 = nI n) (hn : n ≤ 14) (h : post (fstF σ day n) σ) : w_X7_firstOnesOf post σ day := by
  unfold w_X7_firstOnesOf
  refine up_loop (fun k (q : MS × Int32 × Int32) => u_X7_firstOnesOf_4 post day k q.1 q.2.1 q.2.2) (fun i => (σ, fstF σ day i, nI i)) n ?_ (fun i k hi hk => ?_)
  · show u_X7_firstOnesOf_4 post day 1 σ (fstF σ day n) (nI n)
    rw [u_X7_firstOnesOf_4, h8]
    exact ⟨fun _ => h, fun c => absurd (le_self _) c⟩
  · show u_X7_firstOnesOf_4 post day (k + 1) σ (fstF σ day i) (nI i)
    have hk : u_X7_firstOnesOf_4 post day k σ (fstF σ day (i + 1)) (nI (i + 1)) := hk
    unfold fstF at hk
    rw [u_X7_firstOnesOf_4, h8, nI_1, nI_clamp (by omega)]
    refine ⟨fun c => absurd c (nI_ge hi (by omega)), fun _ => ⟨vp_in_nI (by omega) (by decide), fun c => law_isFirst (by omega) ⟨fun d => ?_, fun d => law_bitCount ⟨fun e => ?_, fun e => ?_⟩⟩, fun c => ?_⟩⟩
    · rw [if_neg (fun q => by rw [b01_0.mp d] at q; exact Bool.false_ne_true q.2.1)] at hk
      exact hk
    · rw [if_neg (fun q => q.2.2 e)] at hk
      exact hk
    · rw [if_pos ⟨c, b01_1.mp d, e⟩] at hk
      exact hk
    · rw [if_neg (fun q => c q.1)] at hk
      exact hk
