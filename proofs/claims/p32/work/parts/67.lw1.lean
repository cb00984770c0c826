/-! LAWS of p32's law: below, asked, isDone -/
def bl (a : Int32) (k : Nat) : Nat := (a.toBitVec.toNat &&& 2147483647) % k
theorem bl_lt {a : Int32} {k : Nat} (h : 0 < k) : bl a k < k := Nat.mod_lt _ h
theorem law_below {post : Int32 → MS → Prop} {σ : MS} {a : Int32} {k : Nat} (h0 : 0 < k) (hk : k < 2 ^ 31) (h : post (nI (bl a k)) σ) : w_L_below post σ a (nI k) := by
  unfold w_L_below
  have hx : (a.toBitVec.toNat &&& 2147483647) < 2 ^ 31 := Nat.lt_of_le_of_lt Nat.and_le_right (by decide)
  have e : a &&& 2147483647 = nI (a.toBitVec.toNat &&& 2147483647) := by
    have h1 := nx_and a.toBitVec.toNat 2147483647
    rw [← nI_bv a] at h1
    exact h1
  rw [e, pk_rem hx h0 hk]
  exact ⟨nI_ne0 h0 hk, h⟩
/-- the smaller of a number and a bound -/
theorem min_nI {a b : Nat} (ha : a < 2 ^ 31) (hb : b < 2 ^ 31) : (if nI a < nI b then nI a else nI b) = nI (min a b) := by
  by_cases c : a < b
  · rw [if_pos (nI_lt c hb), Nat.min_eq_left (by omega)]
  · rw [if_neg (nI_nlt (by omega) ha), Nat.min_eq_right (by omega)]
theorem nI_sub {a b : Nat} (h : b ≤ a) : nI a - nI b = nI (a - b) := by
  have h1 := nI_add (a - b) b
  rw [Nat.sub_add_cancel h] at h1
  rw [← h1]
  grind
theorem one16 : ∀ r, r < 16 → 0 ≤ one r ∧ one r < 65536 := by decide +kernel
/-! the callers' view of what never throws -/
theorem law_N_road {post : Int32 → MS → Prop} {σ : MS} {i j v : Nat} (hi : i < 6) (hj : j < 6) (hne : i ≠ j) (hv : v ≤ 9) (h : ∀ r, post r (layS σ i j (nI v))) : w_N_X7_road post σ (nI i) (nI j) (nI v) := by
  have H : w_T_X7_road post (fun _ _ => False) σ (nI i) (nI j) (nI v) := law_T_road (fun z => by
      rcases z with z | z
      · exact z i hi rfl
      · exact z j hj rfl) (fun x y hx hy ex ey z => z ⟨fun q => hne ((nI_eq (by omega) (by omega)).mp q), nI_pos (by omega), nI_le hv (by decide)⟩) (fun x y hx hy ex ey _ => by
      obtain rfl := (nI_eq (by omega) (by omega)).mp ex
      obtain rfl := (nI_eq (by omega) (by omega)).mp ey
      exact h _)
  exact H
theorem law_N_player {post : Int32 → MS → Prop} {σ : MS} {P B W T : Nat} {i s t f : Int32} (O : Ok σ P B W T) (ht : 0 ≤ t ∧ t < 6) (hp : plOk i s f) (hP : P < 10) (h : ∀ r, post r (telP σ P i s t f)) : w_N_X7_player post σ i s t f := by
  have H : w_T_X7_player post (fun _ _ => False) σ i s t f := law_T_player O (fun z => z ht) (fun _ z => z hp) (fun _ _ z => by omega) (fun _ _ _ => h _)
  exact H
theorem law_N_song {post : Int32 → MS → Prop} {σ : MS} {a : Nat} {k e m : Int32} (ha : a < 16) (hs : sgOk k e m) (h : ∀ r, post r (songS σ a k e m)) : w_N_X7_song post σ (nI a) k e m := by
  have H : w_T_X7_song post (fun _ _ => False) σ (nI a) k e m := law_T_song (fun z => z a ha rfl) (fun _ _ _ z => z hs) (fun s hs e _ => by
    obtain rfl := (nI_eq (by omega) (by omega)).mp e
    exact h _)
  exact H
theorem law_N_feud {post : Int32 → MS → Prop} {σ : MS} {P B W T p q : Nat} {c : Int32} (O : Ok σ P B W T) (hp : p < P) (hq : q < P) (hne : p ≠ q) (h : ∀ r x, post r (feudS σ p q x c)) : w_N_X7_feud post σ (nI p) (nI q) c := by
  have hP := O.hP
  have H : w_T_X7_feud post (fun _ _ => False) σ (nI p) (nI q) c := law_T_feud O (fun z => by
      rcases z with z | z
      · exact z p hp rfl
      · exact z q hq rfl) (fun x hx e1 e2 => hne (by
      rw [(nI_eq (by omega) (by omega)).mp e1, (nI_eq (by omega) (by omega)).mp e2])) (fun x y hx hy e1 e2 _ => by
      obtain rfl := (nI_eq (by omega) (by omega)).mp e1
      obtain rfl := (nI_eq (by omega) (by omega)).mp e2
      exact h _ _)
  exact H
theorem law_N_band {post : Int32 → MS → Prop} {σ : MS} {P B W T m : Nat} (O : Ok σ P B W T) (h1 : 1 ≤ m) (hm : m ≤ 728) (hs : (szI (nI m) 6).1 ≤ 5) (hB : B < 6) (h : ∀ r, post r (bandS σ B m)) : w_N_X7_band post σ (nI m) := by
  have H : w_T_X7_band post (fun _ _ => False) σ (nI m) := law_T_band O (fun z => z m h1 hm rfl hs) (fun _ _ _ _ _ z => by omega) (fun x _ hx e _ _ => by
    obtain rfl := (nI_eq (by omega) (by omega)).mp e
    exact h _)
  exact H
theorem taken_0 {σ : MS} {a b : Int32} {W : Nat} (h : taken σ a b W = true) : 0 < W := by
  rcases Nat.eq_zero_or_pos W with q | q
  · subst q; cases h
  · exact q
theorem law_asked37 {post : MS → Prop} {σ : MS} {P B W T s : Nat} {a g : Int32} (H : Inv σ P B W T) (hB : 0 < B) (hs1 : 10 ≤ s) (hs2 : s ≤ 22) (hg : 0 ≤ g ∧ g < 65536) (h : ∀ τ W', (W' = W + 1 ∨ (W' = W ∧ 0 < W)) → W' ≤ 14 → Inv τ P B W' T → RlA σ τ → post τ) : u_L_asked_37 post a σ (nI s) g := by
  have O := H.2.2.1
  have hT := O.hT
  have hW := O.hW
  have hB6 := O.hB
  unfold u_L_asked_37
  refine law_N_desk (k := 2) O (by decide) ?_
  show w_L_below _ σ a (σ 0 7)
  rw [O.h7]
  refine law_below hB (by omega) ?_
  refine law_N_desk (k := 0) O (by decide) ?_
  refine law_below (k := 4) (by decide) (by decide) ?_
  refine law_below (k := 4) (by decide) (by decide) ?_
  have e24 : (if (24 : Int32) - nI s < 6 then (24 : Int32) - nI s else 6) = nI (min (24 - s) 6) := by
    rw [show (24 : Int32) - nI s = nI (24 - s) from nI_sub (a := 24) (by omega)]
    exact min_nI (b := 6) (by omega) (by decide)
  rw [e24]
  refine law_below (by omega) (by omega) ?_
  have hr1 : bl a B < B := bl_lt hB
  have hr3 : bl (a >>> (2 &&& 31)) 4 < 4 := bl_lt (by decide)
  have hr4 : bl (a >>> (9 &&& 31)) 4 < 4 := bl_lt (by decide)
  have hr5 : bl (a >>> (4 &&& 31)) (min (24 - s) 6) < min (24 - s) 6 := bl_lt (by omega)
  generalize bl a B = b at hr1
  generalize bl (a >>> (2 &&& 31)) 4 = dd at hr3
  generalize bl (a >>> (9 &&& 31)) 4 = t at hr4
  generalize bl (a >>> (4 &&& 31)) (min (24 - s) 6) = ln at hr5
  have ed : (if deskF σ P W 0 + nI dd < 365 then deskF σ P W 0 + nI dd else 365) = nI (min (T + dd) 365) := by
    rw [show deskF σ P W 0 = σ 0 9 from rfl, O.h9, nI_add]
    exact min_nI (b := 365) (by omega) (by decide)
  have el : (1 : Int32) + nI ln = nI (1 + ln) := nI_add 1 ln
  rw [ed, el]
  have hb : ∃ k, k < B ∧ nI b = nI k := ⟨b, hr1, rfl⟩
  have ht : ∃ k, k < 6 ∧ nI t = nI k := ⟨t, by omega, rfl⟩
  have hok : askOk σ (nI (min (T + dd) 365)) (nI s) (nI (1 + ln)) g := by
    refine ⟨?_, ?_, ?_, hg⟩
    · rw [O.h9]
      exact nI_nlt (by omega) (by omega)
    · exact nI_nlt (a := 365) (by omega) (by decide)
    · refine decide_eq_true ⟨?_, ?_, ?_, ?_, ?_⟩
      · exact nI_nlt (b := 10) hs1 (by omega)
      · exact nI_nlt (a := 22) hs2 (by decide)
      · exact nI_nlt (b := 1) (by omega) (by omega)
      · exact nI_nlt (a := 6) (by omega) (by decide)
      · rw [nI_add]
        exact nI_nlt (a := 24) (by omega) (by decide)
  refine law_T_ask O (fun z => ?_) (fun _ _ z => absurd hok z) (fun _ _ _ z => ⟨rfl, law_N_desk (k := 0) O (by decide) (h σ W (Or.inr ⟨rfl, ?_⟩) hW H (RlA.rf σ))⟩) (fun _ _ _ hW14 hn => ?_)
  · rcases z with z | z
    · exact absurd rfl (z b hr1)
    · exact absurd rfl (z t (by omega))
  · rcases z with z | z
    · omega
    · exact taken_0 z
  · obtain ⟨i1, i2⟩ := inv_ask hb ht hok hW14 hn H
    exact h _ (W + 1) (Or.inl rfl) (by omega) i1 i2
theorem law_asked {post : MS → Prop} {σ : MS} {P B W T : Nat} {a : Int32} (H : Inv σ P B W T) (hB : 0 < B) (h : ∀ τ W', (W' = W + 1 ∨ (W' = W ∧ 0 < W)) → W' ≤ 14 → Inv τ P B W' T → RlA σ τ → post τ) : w_L_asked post σ a := by
  unfold w_L_asked
  refine law_below (k := 13) (by decide) (by decide) ?_
  have h1 : bl (a >>> (5 &&& 31)) 13 < 13 := bl_lt (by decide)
  refine law_below (k := 3) (by decide) (by decide) ?_
  have es : (10 : Int32) + nI (bl (a >>> (5 &&& 31)) 13) = nI (10 + bl (a >>> (5 &&& 31)) 13) := nI_add 10 _
  rw [es]
  refine ⟨fun _ => law_below (k := 16) (by decide) (by decide) (law_asked37 H hB (by omega) (by omega) (one16 _ (bl_lt (by decide))) h), fun _ => law_asked37 H hB (by omega) (by omega) ⟨by decide, by decide⟩ h⟩
theorem law_isDone {post : Int32 → MS → Prop} {σ : MS} {P B W T : Nat} {a : Int32} (H : Inv σ P B W T) (hP0 : 0 < P) (hB : 0 < B) (hW0 : 0 < W) (hT2 : T + 2 ≤ 365) (h0 : ∀ τ, Scr σ τ → post 0 τ)
    (h1 : ∀ τ W' T', W ≤ W' → W' ≤ W + 1 → T ≤ T' → T' ≤ T + 2 → Inv τ P B W' T' → Rl σ τ → post 1 τ) : w_L_isDone post σ a := by
  have O := H.2.2.1
  have hT := O.hT
  have hW := O.hW
  have hP := O.hP
  unfold w_L_isDone
  refine law_N_desk (k := 3) O (by decide) ?_
  have ew : (if (1 : Int32) < deskF σ P W 3 then deskF σ P W 3 else 1) = nI W := by
    rw [show deskF σ P W 3 = σ 0 8 from rfl, O.h8]
    by_cases c : 1 < W
    · rw [if_pos (show (1 : Int32) < nI W from nI_lt (a := 1) c (by omega))]
    · rw [if_neg (show ¬ (1 : Int32) < nI W from nI_nlt (a := 1) (by omega) (by decide))]
      rw [show W = 1 by omega]
      rfl
  rw [ew]
  refine law_below hW0 (by omega) ?_
  refine law_N_desk (k := 1) O (by decide) ?_
  show w_L_below _ σ _ (σ 0 6)
  rw [O.h6]
  refine law_below hP0 (by omega) ?_
  refine law_below (k := 11) (by decide) (by decide) ?_
  have hw : bl (a >>> (4 &&& 31)) W < W := bl_lt hW0
  have hp : bl (a >>> (6 &&& 31)) P < P := bl_lt hP0
  generalize bl (a >>> (4 &&& 31)) W = w at hw
  generalize bl (a >>> (6 &&& 31)) P = p at hp
  generalize nI (bl a 11) = c
  have fx : w_T_X7_fix (fun _ τ => post 1 τ) (fun E9 τ => E9 = "java/lang/IllegalStateException" ∧ post 0 τ) σ (nI w) :=
    law_T_fix O (fun z => absurd rfl (z w hw)) (fun _ _ _ _ => ⟨rfl, h0 σ (Scr.rf σ)⟩) (fun v hv e _ _ => ⟨rfl, h0 _ (Scr.sn σ v P W)⟩) (fun v hv e h2 h3 => by
      obtain ⟨i1, i2⟩ := inv_fix hv h2 h3 H
      exact h1 _ W T (by omega) (by omega) (by omega) (by omega) i1 i2)
  refine ⟨fun _ => fx, fun _ => ⟨fun _ => fx, fun _ => ⟨fun _ => fx, fun _ => ⟨fun _ => ?_, fun _ => ⟨fun _ => ?_, fun _ => ⟨fun _ => ?_, fun _ => ⟨fun _ => ?_, fun _ => ⟨fun _ => ?_, fun _ => ⟨fun _ => ?_, fun _ => ?_⟩⟩⟩⟩⟩⟩⟩⟩⟩
  · refine law_T_cancel O (fun z => absurd rfl (z w hw)) (fun _ _ _ _ => ⟨rfl, h0 σ (Scr.rf σ)⟩) (fun v hv e hs => ?_)
    obtain ⟨i1, i2⟩ := inv_can hv hs H
    exact h1 _ W T (by omega) (by omega) (by omega) (by omega) i1 i2.rl
  · refine law_N_desk (k := 0) O (by decide) (law_below (k := 4) (by decide) (by decide) ?_)
    have hd : bl (a >>> (3 &&& 31)) 4 < 4 := bl_lt (by decide)
    generalize bl (a >>> (3 &&& 31)) 4 = dd at hd
    have ed : (if deskF σ P W 0 + nI dd < 365 then deskF σ P W 0 + nI dd else 365) = nI (min (T + dd) 365) := by
      rw [show deskF σ P W 0 = σ 0 9 from rfl, O.h9, nI_add]
      exact min_nI (b := 365) (by omega) (by decide)
    rw [ed]
    refine law_T_ill O (fun z => absurd rfl (z p hp)) (fun q hq e z => absurd rfl (z (min (T + dd) 365) (by omega) (by omega))) (fun q d hq d1 d2 e1 e2 => ?_)
    obtain ⟨i1, i2⟩ := inv_ill (p := q) (d := d) H
    exact h1 _ W T (by omega) (by omega) (by omega) (by omega) i1 i2.rl
  · refine law_below (k := 241) (by decide) (by decide) ?_
    have hm : bl (a >>> (5 &&& 31)) 241 < 241 := bl_lt (by decide)
    generalize bl (a >>> (5 &&& 31)) 241 = m at hm
    have hmm : ¬ nI m < 0 ∧ nI m ≤ 240 := ⟨nI_pos (by omega), nI_le (b := 240) (by omega) (by decide)⟩
    refine law_T_late O (fun z => absurd rfl (z w hw)) (fun _ _ _ z => absurd hmm z) (fun _ _ _ _ _ => ⟨rfl, h0 σ (Scr.rf σ)⟩) (fun v hv e _ _ => ?_)
    obtain ⟨i1, i2⟩ := inv_late (w := v) (m := nI m) (by omega) hmm.1 hmm.2 H
    exact h1 _ W T (by omega) (by omega) (by omega) (by omega) i1 i2.rl
  · refine law_below (k := 16) (by decide) (by decide) ?_
    refine law_T_learn O (fun z => absurd rfl (z p hp)) (fun _ _ _ z => absurd (one16 _ (bl_lt (by decide))) z) (fun q hq e _ => ?_)
    obtain ⟨i1, i2⟩ := inv_learn (p := q) (v := σ (29 + q) 1 ||| one (bl (a >>> (3 &&& 31)) 16)) (by omega) H
    exact h1 _ W T (by omega) (by omega) (by omega) (by omega) i1 i2.rl
  · exact law_asked H hB (fun τ W' hW' hW14 i1 i2 => h1 τ W' T (by omega) (by omega) (by omega) (by omega) i1 i2.rl)
  · refine law_below (k := 6) (by decide) (by decide) (law_below (k := 6) (by decide) (by decide) ⟨fun _ => h1 σ W T (by omega) (by omega) (by omega) (by omega) H (RlA.rf σ).rl, fun hne => ?_⟩)
    refine law_below (k := 6) (by decide) (by decide) (law_below (k := 6) (by decide) (by decide) (law_below (k := 8) (by decide) (by decide) ?_))
    have hi : bl (a >>> (9 &&& 31)) 6 < 6 := bl_lt (by decide)
    have hj : bl (a >>> (5 &&& 31)) 6 < 6 := bl_lt (by decide)
    have hv : bl (a >>> (3 &&& 31)) 8 < 8 := bl_lt (by decide)
    generalize bl (a >>> (9 &&& 31)) 6 = i at hi hne
    generalize bl (a >>> (5 &&& 31)) 6 = j at hj hne
    generalize bl (a >>> (3 &&& 31)) 8 = v at hv
    obtain ⟨i1, i2⟩ := inv_road (v := nI v) hi hj ⟨v, by omega, by omega, rfl⟩ H
    exact law_N_road hi hj (fun q => hne (by rw [q])) (by omega) (fun _ => h1 _ W T (by omega) (by omega) (by omega) (by omega) i1 i2.rl)
  · refine law_below (k := 2) (by decide) (by decide) ?_
    have hd : bl (a >>> (4 &&& 31)) 2 < 2 := bl_lt (by decide)
    generalize bl (a >>> (4 &&& 31)) 2 = d at hd
    have ed : (1 : Int32) + nI d = nI (1 + d) := nI_add 1 d
    rw [ed]
    refine law_T_pass O (fun z => absurd rfl (z (1 + d) (by omega) (by omega))) (fun x x1 x2 e z => ?_) (fun x x1 x2 e z => ?_)
    · have := (nI_eq (by omega) (by omega)).mp e
      omega
    · have hx := (nI_eq (by omega) (by omega)).mp e
      subst hx
      obtain ⟨i1, i2⟩ := inv_pass H (1 + d) (by omega)
      exact h1 _ W (T + (1 + d)) (by omega) (by omega) (by omega) (by omega) i1 i2.rl
