/-! LAWS: what is asked of players, songs, weddings, the desk -/
theorem law_N_checkPlayer {post : MS → Prop} {σ : MS} {P B W T p : Nat} (O : Ok σ P B W T) (hp : p < P) (h : post σ) : w_N_X7_checkPlayer post σ (nI p) := by
  have hM := O.hP
  unfold w_N_X7_checkPlayer
  rw [O.h6]
  exact ⟨fun c => absurd c (nI_pos (by omega)), fun _ => ⟨fun _ => h, fun c => absurd (nI_lt hp (by omega)) c⟩⟩
theorem law_N_checkBand {post : MS → Prop} {σ : MS} {P B W T p : Nat} (O : Ok σ P B W T) (hp : p < B) (h : post σ) : w_N_X7_checkBand post σ (nI p) := by
  have hM := O.hB
  unfold w_N_X7_checkBand
  rw [O.h7]
  exact ⟨fun c => absurd c (nI_pos (by omega)), fun _ => ⟨fun _ => h, fun c => absurd (nI_lt hp (by omega)) c⟩⟩
theorem law_N_checkWedding {post : MS → Prop} {σ : MS} {P B W T p : Nat} (O : Ok σ P B W T) (hp : p < W) (h : post σ) : w_N_X7_checkWedding post σ (nI p) := by
  have hM := O.hW
  unfold w_N_X7_checkWedding
  rw [O.h8]
  exact ⟨fun c => absurd c (nI_pos (by omega)), fun _ => ⟨fun _ => h, fun c => absurd (nI_lt hp (by omega)) c⟩⟩
theorem law_N_checkSong {post : MS → Prop} {σ : MS} {p : Nat} (hp : p < 16) (h : post σ) : w_N_X7_checkSong post σ (nI p) := by
  unfold w_N_X7_checkSong
  exact ⟨fun c => absurd c (nI_pos (by omega)), fun _ => ⟨fun _ => h, fun c => absurd (show nI p < nI 16 from nI_lt hp (by decide)) c⟩⟩
def ofPF (σ : MS) (W p : Nat) : Nat → Int32
  | 0 => σ (29 + p) 0
  | 1 => σ (29 + p) 1
  | 2 => σ (29 + p) 2
  | 3 => σ (29 + p) 3
  | 4 => σ (29 + p) 4
  | 5 => σ (29 + p) 5
  | 6 => nI (fb_ct (fun w => fxw σ w p) W)
  | 7 => σ (29 + p) 6
  | 8 => σ (29 + p) 7
  | _ => 0
set_option maxRecDepth 10000 in
theorem law_N_ofPlayer {post : Int32 → MS → Prop} {σ : MS} {P B W T p k : Nat} (O : Ok σ P B W T) (hp : p < P) (hk : k ≤ 8) (h : post (ofPF σ W p k) σ) : w_N_X7_ofPlayer post σ (nI p) (nI k) := by
  have hP := O.hP
  have hW := O.hW
  unfold w_N_X7_ofPlayer
  have q : ∀ m, m < 2 ^ 31 → nI k = nI m → k = m := fun m hm e => (nI_eq (by omega) hm).mp e
  refine law_N_checkPlayer O hp ?_
  rw [nI_clamp (by omega)]
  refine ⟨vp_in_nI (by omega) (by decide), ?_⟩
  refine ⟨fun c => ?_, fun c0 => ?_⟩
  · obtain rfl := q 0 (by decide) c
    exact h
  refine ⟨fun c => ?_, fun c1 => ?_⟩
  · obtain rfl := q 1 (by decide) c
    exact h
  refine ⟨fun c => ?_, fun c2 => ?_⟩
  · obtain rfl := q 2 (by decide) c
    exact h
  refine ⟨fun c => ?_, fun c3 => ?_⟩
  · obtain rfl := q 3 (by decide) c
    exact h
  refine ⟨fun c => ?_, fun c4 => ?_⟩
  · obtain rfl := q 4 (by decide) c
    exact h
  refine ⟨fun c => ?_, fun c5 => ?_⟩
  · obtain rfl := q 5 (by decide) c
    exact h
  refine ⟨fun c => ?_, fun c6 => ?_⟩
  · obtain rfl := q 6 (by decide) c
    exact law_countFixedWith (by omega) O.h8 O.hW h
  refine ⟨fun c => ?_, fun c7 => ?_⟩
  · obtain rfl := q 7 (by decide) c
    exact h
  refine ⟨fun c => ?_, fun c8 => ?_⟩
  · obtain rfl := q 8 (by decide) c
    exact h
  have n0 : k ≠ 0 := fun e => c0 (by rw [e]; rfl)
  have n1 : k ≠ 1 := fun e => c1 (by rw [e]; rfl)
  have n2 : k ≠ 2 := fun e => c2 (by rw [e]; rfl)
  have n3 : k ≠ 3 := fun e => c3 (by rw [e]; rfl)
  have n4 : k ≠ 4 := fun e => c4 (by rw [e]; rfl)
  have n5 : k ≠ 5 := fun e => c5 (by rw [e]; rfl)
  have n6 : k ≠ 6 := fun e => c6 (by rw [e]; rfl)
  have n7 : k ≠ 7 := fun e => c7 (by rw [e]; rfl)
  have n8 : k ≠ 8 := fun e => c8 (by rw [e]; rfl)
  omega
set_option maxRecDepth 10000 in
theorem law_T_ofPlayer {post : Int32 → MS → Prop} {pex : String → MS → Prop} {σ : MS} {P B W T : Nat} {a b : Int32} (O : Ok σ P B W T) (hx : (∀ p, p < P → a ≠ nI p) → pex xIO σ) (hq : ∀ p, p < P → a = nI p → (∀ k, k ≤ 8 → b ≠ nI k) → pex xIA σ) (h : ∀ p k, p < P → k ≤ 8 → a = nI p → b = nI k → post (ofPF σ W p k) σ) : w_T_X7_ofPlayer post pex σ a b := by
  have hP := O.hP
  have hW := O.hW
  unfold w_T_X7_ofPlayer
  refine law_T_checkPlayer O (fun p hp e => ?_) hx
  subst e
  have hq := hq p hp rfl
  have h := fun k hk e => h p k hp hk rfl e
  rw [nI_clamp (by omega)]
  refine ⟨vp_in_nI (by omega) (by decide), ?_⟩
  refine ⟨fun c => ?_, fun c0 => ?_⟩
  · have h := h 0 (by decide) c
    exact h
  refine ⟨fun c => ?_, fun c1 => ?_⟩
  · have h := h 1 (by decide) c
    exact h
  refine ⟨fun c => ?_, fun c2 => ?_⟩
  · have h := h 2 (by decide) c
    exact h
  refine ⟨fun c => ?_, fun c3 => ?_⟩
  · have h := h 3 (by decide) c
    exact h
  refine ⟨fun c => ?_, fun c4 => ?_⟩
  · have h := h 4 (by decide) c
    exact h
  refine ⟨fun c => ?_, fun c5 => ?_⟩
  · have h := h 5 (by decide) c
    exact h
  refine ⟨fun c => ?_, fun c6 => ?_⟩
  · have h := h 6 (by decide) c
    exact law_countFixedWith (by omega) O.h8 O.hW h
  refine ⟨fun c => ?_, fun c7 => ?_⟩
  · have h := h 7 (by decide) c
    exact h
  refine ⟨fun c => ?_, fun c8 => ?_⟩
  · have h := h 8 (by decide) c
    exact h
  refine hq fun k hk e => ?_
  subst e
  have n0 : k ≠ 0 := fun e => c0 (by rw [e]; rfl)
  have n1 : k ≠ 1 := fun e => c1 (by rw [e]; rfl)
  have n2 : k ≠ 2 := fun e => c2 (by rw [e]; rfl)
  have n3 : k ≠ 3 := fun e => c3 (by rw [e]; rfl)
  have n4 : k ≠ 4 := fun e => c4 (by rw [e]; rfl)
  have n5 : k ≠ 5 := fun e => c5 (by rw [e]; rfl)
  have n6 : k ≠ 6 := fun e => c6 (by rw [e]; rfl)
  have n7 : k ≠ 7 := fun e => c7 (by rw [e]; rfl)
  have n8 : k ≠ 8 := fun e => c8 (by rw [e]; rfl)
  omega
def ofSF (σ : MS) (P p : Nat) : Nat → Int32
  | 0 => σ (39 + p) 0
  | 1 => σ (39 + p) 1
  | 2 => σ (39 + p) 2
  | 3 => σ (39 + p) 3
  | 4 => shareF σ p
  | 5 => nI (fb_ct (fun q => bt (σ (29 + q) 1) p) P)
  | _ => 0
set_option maxRecDepth 10000 in
theorem law_N_ofSong {post : Int32 → MS → Prop} {σ : MS} {P B W T p k : Nat} (O : Ok σ P B W T) (hp : p < 16) (hk : k ≤ 5) (h : post (ofSF σ P p k) σ) : w_N_X7_ofSong post σ (nI p) (nI k) := by
  have hP := O.hP
  have hW := O.hW
  unfold w_N_X7_ofSong
  have q : ∀ m, m < 2 ^ 31 → nI k = nI m → k = m := fun m hm e => (nI_eq (by omega) hm).mp e
  refine law_N_checkSong hp ?_
  rw [nI_clamp (by omega)]
  refine ⟨vp_in_nI (by omega) (by decide), ?_⟩
  refine ⟨fun c => ?_, fun c0 => ?_⟩
  · obtain rfl := q 0 (by decide) c
    exact h
  refine ⟨fun c => ?_, fun c1 => ?_⟩
  · obtain rfl := q 1 (by decide) c
    exact h
  refine ⟨fun c => ?_, fun c2 => ?_⟩
  · obtain rfl := q 2 (by decide) c
    exact h
  refine ⟨fun c => ?_, fun c3 => ?_⟩
  · obtain rfl := q 3 (by decide) c
    exact h
  refine ⟨fun c => ?_, fun c4 => ?_⟩
  · obtain rfl := q 4 (by decide) c
    exact law_shareOf h
  refine ⟨fun c => ?_, fun c5 => ?_⟩
  · obtain rfl := q 5 (by decide) c
    exact law_countKnowing (by omega) O.h6 O.hP h
  have n0 : k ≠ 0 := fun e => c0 (by rw [e]; rfl)
  have n1 : k ≠ 1 := fun e => c1 (by rw [e]; rfl)
  have n2 : k ≠ 2 := fun e => c2 (by rw [e]; rfl)
  have n3 : k ≠ 3 := fun e => c3 (by rw [e]; rfl)
  have n4 : k ≠ 4 := fun e => c4 (by rw [e]; rfl)
  have n5 : k ≠ 5 := fun e => c5 (by rw [e]; rfl)
  omega
set_option maxRecDepth 10000 in
theorem law_T_ofSong {post : Int32 → MS → Prop} {pex : String → MS → Prop} {σ : MS} {P B W T : Nat} {a b : Int32} (O : Ok σ P B W T) (hx : (∀ p, p < 16 → a ≠ nI p) → pex xIO σ) (hq : ∀ p, p < 16 → a = nI p → (∀ k, k ≤ 5 → b ≠ nI k) → pex xIA σ) (h : ∀ p k, p < 16 → k ≤ 5 → a = nI p → b = nI k → post (ofSF σ P p k) σ) : w_T_X7_ofSong post pex σ a b := by
  have hP := O.hP
  have hW := O.hW
  unfold w_T_X7_ofSong
  refine law_T_checkSong (fun p hp e => ?_) hx
  subst e
  have hq := hq p hp rfl
  have h := fun k hk e => h p k hp hk rfl e
  rw [nI_clamp (by omega)]
  refine ⟨vp_in_nI (by omega) (by decide), ?_⟩
  refine ⟨fun c => ?_, fun c0 => ?_⟩
  · have h := h 0 (by decide) c
    exact h
  refine ⟨fun c => ?_, fun c1 => ?_⟩
  · have h := h 1 (by decide) c
    exact h
  refine ⟨fun c => ?_, fun c2 => ?_⟩
  · have h := h 2 (by decide) c
    exact h
  refine ⟨fun c => ?_, fun c3 => ?_⟩
  · have h := h 3 (by decide) c
    exact h
  refine ⟨fun c => ?_, fun c4 => ?_⟩
  · have h := h 4 (by decide) c
    exact law_shareOf h
  refine ⟨fun c => ?_, fun c5 => ?_⟩
  · have h := h 5 (by decide) c
    exact law_countKnowing (by omega) O.h6 O.hP h
  refine hq fun k hk e => ?_
  subst e
  have n0 : k ≠ 0 := fun e => c0 (by rw [e]; rfl)
  have n1 : k ≠ 1 := fun e => c1 (by rw [e]; rfl)
  have n2 : k ≠ 2 := fun e => c2 (by rw [e]; rfl)
  have n3 : k ≠ 3 := fun e => c3 (by rw [e]; rfl)
  have n4 : k ≠ 4 := fun e => c4 (by rw [e]; rfl)
  have n5 : k ≠ 5 := fun e => c5 (by rw [e]; rfl)
  omega
def ofWF (σ : MS) (p : Nat) : Nat → Int32
  | 0 => σ (73 + p) 0
  | 1 => σ (73 + p) 1
  | 2 => σ (73 + p) 2
  | 3 => σ (73 + p) 3
  | 4 => σ (73 + p) 4
  | 5 => σ (73 + p) 5
  | 6 => σ (73 + p) 7
  | 7 => σ (73 + p) 8
  | 8 => σ (73 + p) 9
  | 9 => σ (73 + p) 10
  | 10 => σ (73 + p) 11
  | 11 => pq σ p
  | 12 => quF σ p
  | _ => 0
set_option maxRecDepth 10000 in
theorem law_N_ofWedding {post : Int32 → MS → Prop} {σ : MS} {P B W T p k : Nat} (O : Ok σ P B W T) (hp : p < W) (hk : k ≤ 12) (h : post (ofWF σ p k) σ) : w_N_X7_ofWedding post σ (nI p) (nI k) := by
  have hP := O.hP
  have hW := O.hW
  unfold w_N_X7_ofWedding
  have q : ∀ m, m < 2 ^ 31 → nI k = nI m → k = m := fun m hm e => (nI_eq (by omega) hm).mp e
  refine law_N_checkWedding O hp ?_
  rw [nI_clamp (by omega)]
  refine ⟨vp_in_nI (by omega) (by decide), ?_⟩
  refine ⟨fun c => ?_, fun c0 => ?_⟩
  · obtain rfl := q 0 (by decide) c
    exact h
  refine ⟨fun c => ?_, fun c1 => ?_⟩
  · obtain rfl := q 1 (by decide) c
    exact h
  refine ⟨fun c => ?_, fun c2 => ?_⟩
  · obtain rfl := q 2 (by decide) c
    exact h
  refine ⟨fun c => ?_, fun c3 => ?_⟩
  · obtain rfl := q 3 (by decide) c
    exact h
  refine ⟨fun c => ?_, fun c4 => ?_⟩
  · obtain rfl := q 4 (by decide) c
    exact h
  refine ⟨fun c => ?_, fun c5 => ?_⟩
  · obtain rfl := q 5 (by decide) c
    exact h
  refine ⟨fun c => ?_, fun c6 => ?_⟩
  · obtain rfl := q 6 (by decide) c
    exact h
  refine ⟨fun c => ?_, fun c7 => ?_⟩
  · obtain rfl := q 7 (by decide) c
    exact h
  refine ⟨fun c => ?_, fun c8 => ?_⟩
  · obtain rfl := q 8 (by decide) c
    exact h
  refine ⟨fun c => ?_, fun c9 => ?_⟩
  · obtain rfl := q 9 (by decide) c
    exact h
  refine ⟨fun c => ?_, fun c10 => ?_⟩
  · obtain rfl := q 10 (by decide) c
    exact h
  refine ⟨fun c => ?_, fun c11 => ?_⟩
  · obtain rfl := q 11 (by decide) c
    exact law_placeInQueue (by omega) h
  refine ⟨fun c => ?_, fun c12 => ?_⟩
  · obtain rfl := q 12 (by decide) c
    exact law_quarters h
  have n0 : k ≠ 0 := fun e => c0 (by rw [e]; rfl)
  have n1 : k ≠ 1 := fun e => c1 (by rw [e]; rfl)
  have n2 : k ≠ 2 := fun e => c2 (by rw [e]; rfl)
  have n3 : k ≠ 3 := fun e => c3 (by rw [e]; rfl)
  have n4 : k ≠ 4 := fun e => c4 (by rw [e]; rfl)
  have n5 : k ≠ 5 := fun e => c5 (by rw [e]; rfl)
  have n6 : k ≠ 6 := fun e => c6 (by rw [e]; rfl)
  have n7 : k ≠ 7 := fun e => c7 (by rw [e]; rfl)
  have n8 : k ≠ 8 := fun e => c8 (by rw [e]; rfl)
  have n9 : k ≠ 9 := fun e => c9 (by rw [e]; rfl)
  have n10 : k ≠ 10 := fun e => c10 (by rw [e]; rfl)
  have n11 : k ≠ 11 := fun e => c11 (by rw [e]; rfl)
  have n12 : k ≠ 12 := fun e => c12 (by rw [e]; rfl)
  omega
set_option maxRecDepth 10000 in
theorem law_T_ofWedding {post : Int32 → MS → Prop} {pex : String → MS → Prop} {σ : MS} {P B W T : Nat} {a b : Int32} (O : Ok σ P B W T) (hx : (∀ p, p < W → a ≠ nI p) → pex xIO σ) (hq : ∀ p, p < W → a = nI p → (∀ k, k ≤ 12 → b ≠ nI k) → pex xIA σ) (h : ∀ p k, p < W → k ≤ 12 → a = nI p → b = nI k → post (ofWF σ p k) σ) : w_T_X7_ofWedding post pex σ a b := by
  have hP := O.hP
  have hW := O.hW
  unfold w_T_X7_ofWedding
  refine law_T_checkWedding O (fun p hp e => ?_) hx
  subst e
  have hq := hq p hp rfl
  have h := fun k hk e => h p k hp hk rfl e
  rw [nI_clamp (by omega)]
  refine ⟨vp_in_nI (by omega) (by decide), ?_⟩
  refine ⟨fun c => ?_, fun c0 => ?_⟩
  · have h := h 0 (by decide) c
    exact h
  refine ⟨fun c => ?_, fun c1 => ?_⟩
  · have h := h 1 (by decide) c
    exact h
  refine ⟨fun c => ?_, fun c2 => ?_⟩
  · have h := h 2 (by decide) c
    exact h
  refine ⟨fun c => ?_, fun c3 => ?_⟩
  · have h := h 3 (by decide) c
    exact h
  refine ⟨fun c => ?_, fun c4 => ?_⟩
  · have h := h 4 (by decide) c
    exact h
  refine ⟨fun c => ?_, fun c5 => ?_⟩
  · have h := h 5 (by decide) c
    exact h
  refine ⟨fun c => ?_, fun c6 => ?_⟩
  · have h := h 6 (by decide) c
    exact h
  refine ⟨fun c => ?_, fun c7 => ?_⟩
  · have h := h 7 (by decide) c
    exact h
  refine ⟨fun c => ?_, fun c8 => ?_⟩
  · have h := h 8 (by decide) c
    exact h
  refine ⟨fun c => ?_, fun c9 => ?_⟩
  · have h := h 9 (by decide) c
    exact h
  refine ⟨fun c => ?_, fun c10 => ?_⟩
  · have h := h 10 (by decide) c
    exact h
  refine ⟨fun c => ?_, fun c11 => ?_⟩
  · have h := h 11 (by decide) c
    exact law_placeInQueue (by omega) h
  refine ⟨fun c => ?_, fun c12 => ?_⟩
  · have h := h 12 (by decide) c
    exact law_quarters h
  refine hq fun k hk e => ?_
  subst e
  have n0 : k ≠ 0 := fun e => c0 (by rw [e]; rfl)
  have n1 : k ≠ 1 := fun e => c1 (by rw [e]; rfl)
  have n2 : k ≠ 2 := fun e => c2 (by rw [e]; rfl)
  have n3 : k ≠ 3 := fun e => c3 (by rw [e]; rfl)
  have n4 : k ≠ 4 := fun e => c4 (by rw [e]; rfl)
  have n5 : k ≠ 5 := fun e => c5 (by rw [e]; rfl)
  have n6 : k ≠ 6 := fun e => c6 (by rw [e]; rfl)
  have n7 : k ≠ 7 := fun e => c7 (by rw [e]; rfl)
  have n8 : k ≠ 8 := fun e => c8 (by rw [e]; rfl)
  have n9 : k ≠ 9 := fun e => c9 (by rw [e]; rfl)
  have n10 : k ≠ 10 := fun e => c10 (by rw [e]; rfl)
  have n11 : k ≠ 11 := fun e => c11 (by rw [e]; rfl)
  have n12 : k ≠ 12 := fun e => c12 (by rw [e]; rfl)
  omega
def deskF (σ : MS) (P W : Nat) : Nat → Int32
  | 0 => σ 0 9
  | 1 => σ 0 6
  | 2 => σ 0 7
  | 3 => σ 0 8
  | 4 => nI (fb_ct (fun w => decide (σ (73 + w) 7 = 0)) W)
  | 5 => nI (fb_ct (fun w => decide (σ (73 + w) 7 = 1)) W)
  | 6 => nI (fb_ct (fun w => decide (σ (73 + w) 7 = 2)) W)
  | 7 => nI (fb_ct (fun w => decide (σ (73 + w) 7 = 3)) W)
  | 8 => σ 0 10
  | 9 => sumI (fun p => bcI (σ (29 + p) 4)) P / 2
  | 10 => sumI (fun p => σ (29 + p) 5) P
  | 11 => sumI (fun d => bcI (σ 6 d)) 366
  | 12 => gapF σ P
  | _ => 0
set_option maxRecDepth 10000 in
theorem law_N_desk {post : Int32 → MS → Prop} {σ : MS} {P B W T k : Nat} (O : Ok σ P B W T) (hk : k ≤ 12) (h : post (deskF σ P W k) σ) : w_N_X7_desk post σ (nI k) := by
  have hP := O.hP
  have hW := O.hW
  unfold w_N_X7_desk
  have q : ∀ m, m < 2 ^ 31 → nI k = nI m → k = m := fun m hm e => (nI_eq (by omega) hm).mp e
  refine ⟨fun c => ?_, fun c0 => ?_⟩
  · obtain rfl := q 0 (by decide) c
    exact h
  refine ⟨fun c => ?_, fun c1 => ?_⟩
  · obtain rfl := q 1 (by decide) c
    exact h
  refine ⟨fun c => ?_, fun c2 => ?_⟩
  · obtain rfl := q 2 (by decide) c
    exact h
  refine ⟨fun c => ?_, fun c3 => ?_⟩
  · obtain rfl := q 3 (by decide) c
    exact h
  refine ⟨fun c => ?_, fun c4 => ?_⟩
  · obtain rfl := q 4 (by decide) c
    exact law_countInState O.h8 O.hW h
  refine ⟨fun c => ?_, fun c5 => ?_⟩
  · obtain rfl := q 5 (by decide) c
    exact law_countInState O.h8 O.hW h
  refine ⟨fun c => ?_, fun c6 => ?_⟩
  · obtain rfl := q 6 (by decide) c
    exact law_countInState O.h8 O.hW h
  refine ⟨fun c => ?_, fun c7 => ?_⟩
  · obtain rfl := q 7 (by decide) c
    exact law_countInState O.h8 O.hW h
  refine ⟨fun c => ?_, fun c8 => ?_⟩
  · obtain rfl := q 8 (by decide) c
    exact h
  refine ⟨fun c => ?_, fun c9 => ?_⟩
  · obtain rfl := q 9 (by decide) c
    exact law_countFeuds O.h6 O.hP h
  refine ⟨fun c => ?_, fun c10 => ?_⟩
  · obtain rfl := q 10 (by decide) c
    exact law_allEarned O.h6 O.hP h
  refine ⟨fun c => ?_, fun c11 => ?_⟩
  · obtain rfl := q 11 (by decide) c
    exact law_countDaysOff h
  refine ⟨fun c => ?_, fun c12 => ?_⟩
  · obtain rfl := q 12 (by decide) c
    exact law_gapOfHours O.h6 O.hP h
  have n0 : k ≠ 0 := fun e => c0 (by rw [e]; rfl)
  have n1 : k ≠ 1 := fun e => c1 (by rw [e]; rfl)
  have n2 : k ≠ 2 := fun e => c2 (by rw [e]; rfl)
  have n3 : k ≠ 3 := fun e => c3 (by rw [e]; rfl)
  have n4 : k ≠ 4 := fun e => c4 (by rw [e]; rfl)
  have n5 : k ≠ 5 := fun e => c5 (by rw [e]; rfl)
  have n6 : k ≠ 6 := fun e => c6 (by rw [e]; rfl)
  have n7 : k ≠ 7 := fun e => c7 (by rw [e]; rfl)
  have n8 : k ≠ 8 := fun e => c8 (by rw [e]; rfl)
  have n9 : k ≠ 9 := fun e => c9 (by rw [e]; rfl)
  have n10 : k ≠ 10 := fun e => c10 (by rw [e]; rfl)
  have n11 : k ≠ 11 := fun e => c11 (by rw [e]; rfl)
  have n12 : k ≠ 12 := fun e => c12 (by rw [e]; rfl)
  omega
set_option maxRecDepth 10000 in
theorem law_T_desk {post : Int32 → MS → Prop} {pex : String → MS → Prop} {σ : MS} {P B W T : Nat} {b : Int32} (O : Ok σ P B W T) (hq : (∀ k, k ≤ 12 → b ≠ nI k) → pex xIA σ) (h : ∀ k, k ≤ 12 → b = nI k → post (deskF σ P W k) σ) : w_T_X7_desk post pex σ b := by
  have hP := O.hP
  have hW := O.hW
  unfold w_T_X7_desk
  refine ⟨fun c => ?_, fun c0 => ?_⟩
  · have h := h 0 (by decide) c
    exact h
  refine ⟨fun c => ?_, fun c1 => ?_⟩
  · have h := h 1 (by decide) c
    exact h
  refine ⟨fun c => ?_, fun c2 => ?_⟩
  · have h := h 2 (by decide) c
    exact h
  refine ⟨fun c => ?_, fun c3 => ?_⟩
  · have h := h 3 (by decide) c
    exact h
  refine ⟨fun c => ?_, fun c4 => ?_⟩
  · have h := h 4 (by decide) c
    exact law_countInState O.h8 O.hW h
  refine ⟨fun c => ?_, fun c5 => ?_⟩
  · have h := h 5 (by decide) c
    exact law_countInState O.h8 O.hW h
  refine ⟨fun c => ?_, fun c6 => ?_⟩
  · have h := h 6 (by decide) c
    exact law_countInState O.h8 O.hW h
  refine ⟨fun c => ?_, fun c7 => ?_⟩
  · have h := h 7 (by decide) c
    exact law_countInState O.h8 O.hW h
  refine ⟨fun c => ?_, fun c8 => ?_⟩
  · have h := h 8 (by decide) c
    exact h
  refine ⟨fun c => ?_, fun c9 => ?_⟩
  · have h := h 9 (by decide) c
    exact law_countFeuds O.h6 O.hP h
  refine ⟨fun c => ?_, fun c10 => ?_⟩
  · have h := h 10 (by decide) c
    exact law_allEarned O.h6 O.hP h
  refine ⟨fun c => ?_, fun c11 => ?_⟩
  · have h := h 11 (by decide) c
    exact law_countDaysOff h
  refine ⟨fun c => ?_, fun c12 => ?_⟩
  · have h := h 12 (by decide) c
    exact law_gapOfHours O.h6 O.hP h
  refine hq fun k hk e => ?_
  subst e
  have n0 : k ≠ 0 := fun e => c0 (by rw [e]; rfl)
  have n1 : k ≠ 1 := fun e => c1 (by rw [e]; rfl)
  have n2 : k ≠ 2 := fun e => c2 (by rw [e]; rfl)
  have n3 : k ≠ 3 := fun e => c3 (by rw [e]; rfl)
  have n4 : k ≠ 4 := fun e => c4 (by rw [e]; rfl)
  have n5 : k ≠ 5 := fun e => c5 (by rw [e]; rfl)
  have n6 : k ≠ 6 := fun e => c6 (by rw [e]; rfl)
  have n7 : k ≠ 7 := fun e => c7 (by rw [e]; rfl)
  have n8 : k ≠ 8 := fun e => c8 (by rw [e]; rfl)
  have n9 : k ≠ 9 := fun e => c9 (by rw [e]; rfl)
  have n10 : k ≠ 10 := fun e => c10 (by rw [e]; rfl)
  have n11 : k ≠ 11 := fun e => c11 (by rw [e]; rfl)
  have n12 : k ≠ 12 := fun e => c12 (by rw [e]; rfl)
  omega
