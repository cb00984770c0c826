section
/-! LAWS: what is asked of players, songs, weddings, the desk -/
theorem law_N_checkPlayer {post : MS → Prop} {σ : MS} {P B W T p : Nat} (O : Ok σ P B W T) (hp : p < P) (h : post σ) : w_N_X7_checkPlayer post σ (nI p) := by
  have hM := O.hP
  unfold w_N_X7_checkPlayer
  rw [O.h6]
  exact ⟨fun c => absurd c (nI_pos (by omega)), fun _ => ⟨fun _ => h, fun c => absurd (nI_lt hp (by omega)) c⟩⟩
theorem law_N_checkBand {post : MS → Prop} {σ : MS} {P B W T p : Nat} (O : Ok σ P B W T) (hp : p < B) (h : post σ) : w_N_X7_checkBand post σ (nI p) := by
  have hM := O.hB
  unfold w_N_X7_checkBand
  rw [O.h7]
  exact ⟨fun c => absurd c (nI_pos (by omega)), fun _ => ⟨fun _ => h, fun c => absurd (nI_lt hp (by omega)) c⟩⟩
theorem law_N_checkWedding {post : MS → Prop} {σ : MS} {P B W T p : Nat} (O : Ok σ P B W T) (hp : p < W) (h : post σ) : w_N_X7_checkWedding post σ (nI p) := by
  have hM := O.hW
  unfold w_N_X7_checkWedding
  rw [O.h8]
  exact ⟨fun c => absurd c (nI_pos (by omega)), fun _ => ⟨fun _ => h, fun c => absurd (nI_lt hp (by omega)) c⟩⟩
theorem law_N_checkSong {post : MS → Prop} {σ : MS} {p : Nat} (hp : p < 16) (h : post σ) : w_N_X7_checkSong post σ (nI p) := by
  unfold w_N_X7_checkSong
  exact ⟨fun c => absurd c (nI_pos (by omega)), fun _ => ⟨fun _ => h, fun c => absurd (show nI p < nI 16 from nI_lt hp (by decide)) c⟩⟩
def ofPF (σ : MS) (W p : Nat) : Nat → Int32
  | 0 => σ (29 + p) 0
  | 1 => σ (29 + p) 1
  | 2 => σ (29 + p) 2
  | 3 => σ (29 + p) 3
  | 4 => σ (29 + p) 4
  | 5 => σ (29 + p) 5
  | 6 => nI (fb_ct (fun w => fxw σ w p) W)
  | 7 => σ (29 + p) 6
  | 8 => σ (29 + p) 7
  | _ => 0
set_option maxRecDepth 10000 in
theorem law_N_ofPlayer {post : Int32 → MS → Prop} {σ : MS} {P B W T p k : Nat} (O : Ok σ P B W T) (hp : p < P) (hk : k ≤ 8) (h : post (ofPF σ W p k) σ) : w_N_X7_ofPlayer post σ (nI p) (nI k) := by
  have hP := O.hP
  have hW := O.hW
  unfold w_N_X7_ofPlayer
  have q : ∀ m, m < 2 ^ 31 → nI k = nI m → k = m := fun m hm e => (nI_eq (by omega) hm).mp e
  refine law_N_checkPlayer O hp ?_
  rw [nI_clamp (by omega)]
  refine ⟨vp_in_nI (by omega) (by decide), ?_⟩
  refine ⟨fun c => ?_, fun c0 => ?_⟩
  · obtain rfl := q 0 (by decide) c
    exact h
  refine ⟨fun c => ?_, fun c1 => ?_⟩
  · obtain rfl := q 1 (by decide) c
    exact h
  refine ⟨fun c => ?_, fun c2 => ?_⟩
  · obtain rfl := q 2 (by decide) c
    exact h
  refine ⟨fun c => ?_, fun c3 => ?_⟩
  · obtain rfl := q 3 (by decide) c
    exact h
  refine ⟨fun c => ?_, fun c4 => ?_⟩
  · obtain rfl := q 4 (by decide) c
    exact h
  refine ⟨fun c => ?_, fun c5 => ?_⟩
  · obtain rfl := q 5 (by decide) c
    exact h
  refine ⟨fun c => ?_, fun c6 => ?_⟩
  · obtain rfl := q 6 (by decide) c
    exact law_countFixedWith (by omega) O.h8 O.hW h
  refine ⟨fun c => ?_, fun c7 => ?_⟩
  · obtain rfl := q 7 (by decide) c
    exact h
  refine ⟨fun c => ?_, fun c8 => ?_⟩
  · obtain rfl := q 8 (by decide) c
    exact h
  have n0 : k ≠ 0 := fun e => c0 (by rw [e]; rfl)
  have n1 : k ≠ 1 := fun e => c1 (by rw [e]; rfl)
  have n2 : k ≠ 2 := fun e => c2 (by rw [e]; rfl)
  have n3 : k ≠ 3 := fun e => c3 (by rw [e]; rfl)
  have n4 : k ≠ 4 := fun e => c4 (by rw [e]; rfl)
  have n5 : k ≠ 5 := fun e => c5 (by rw [e]; rfl)
  have n6 : k ≠ 6 := fun e => c6 (by rw [e]; rfl)
  have n7 : k ≠ 7 := fun e => c7 (by rw [e]; rfl)
  have n8 : k ≠ 8 := fun e => c8 (by rw [e]; rfl)
  omega
set_option maxRecDepth 10000 in
theorem law_T_ofPlayer {post : Int32 → MS → Prop} {pex : String → MS → Prop} {σ : MS} {P B W T : Nat} {a b : Int32} (O : Ok σ P B W T) (hx : (∀ p, p < P → a ≠ nI p) → pex xIO σ) (hq : ∀ p, p < P → a = nI p → (∀ k, k ≤ 8 → b ≠ nI k) → pex xIA σ) (h : ∀ p k, p < P → k ≤ 8 → a = nI p → b = nI k → post (ofPF σ W p k) σ) : w_T_X7_ofPlayer post pex σ a b := by
  have hP := O.hP
  have hW := O.hW
  unfold w_T_X7_ofPlayer
  refine law_T_checkPlayer O (fun p hp e => ?_) hx
  subst e
  have hq := hq p hp rfl
  have h := fun k hk e => h p k hp hk rfl e
  rw [nI_clamp (by omega)]
  refine ⟨vp_in_nI (by omega) (by decide), ?_⟩
  refine ⟨fun c => ?_, fun c0 => ?_⟩
  · have h := h 0 (by decide) c
    exact h
  refine ⟨fun c => ?_, fun c1 => ?_⟩
  · have h := h 1 (by decide) c
    exact h
  refine ⟨fun c => ?_, fun c2 => ?_⟩
  · have h := h 2 (by decide) c
    exact h
  refine ⟨fun c => ?_, fun c3 => ?_⟩
  · have h := h 3 (by decide) c
    exact h
  refine ⟨fun c => ?_, fun c4 => ?_⟩
  · have h := h 4 (by decide) c
    exact h
  refine ⟨fun c => ?_, fun c5 => ?_⟩
  · have h := h 5 (by decide) c
    exact h
  refine ⟨fun c => ?_, fun c6 => ?_⟩
  · have h := h 6 (by decide) c
    exact law_countFixedWith (by omega) O.h8 O.hW h
  refine ⟨fun c => ?_, fun c7 => ?_⟩
  · have h := h 7 (by decide) c
    exact h
  refine ⟨fun c => ?_, fun c8 => ?_⟩
  · have h := h 8 (by decide) c
    exact h
  refine hq fun k hk e => ?_
  subst e
  have n0 : k ≠ 0 := fun e => c0 (by rw [e]; rfl)
  have n1 : k ≠ 1 := fun e => c1 (by rw [e]; rfl)
  have n2 : k ≠ 2 := fun e => c2 (by rw [e]; rfl)
  have n3 : k ≠ 3 := fun e => c3 (by rw [e]; rfl)
  have n4 : k ≠ 4 := fun e => c4 (by rw [e]; rfl)
  have n5 : k ≠ 5 := fun e => c5 (by rw [e]; rfl)
  have n6 : k ≠ 6 := fun e => c6 (by rw [e]; rfl)
  have n7 : k ≠ 7 := fun e => c7 (by rw [e]; rfl)
  have n8 : k ≠ 8 := fun e => c8 (by rw [e]; rfl)
  omega
def ofSF (σ : MS) (P p : Nat) : Nat → Int32
  | 0 => σ (39 + p) 0
  | 1 => σ (39 + p) 1
  | 2 => σ (39 + p) 2
  | 3 => σ (39 + p) 3
  | 4 => shareF σ p
  | 5 => nI (fb_ct (fun q => bt (σ (29 + q) 1) p) P)
  | _ => 0
set_option maxRecDepth 10000 in
theorem law_N_ofSong {post : Int32 → MS → Prop} {σ : MS} {P B W T p k : Nat} (O : Ok σ P B W T) (hp : p < 16) (hk : k ≤ 5) (h : post (ofSF σ P p k) σ) : w_N_X7_ofSong post σ (nI p) (nI k) := by
  have hP := O.hP
  have hW := O.hW
  unfold w_N_X7_ofSong
  have q : ∀ m, m < 2 ^ 31 → nI k = nI m → k = m := fun m hm e => (nI_eq (by omega) hm).mp e
  refine law_N_checkSong hp ?_
  rw [nI_clamp (by omega)]
  refine ⟨vp_in_nI (by omega) (by decide), ?_⟩
  refine ⟨fun c => ?_, fun c0 => ?_⟩
  · obtain rfl := q 0 (by decide) c
    exact h
  refine ⟨fun c => ?_, fun c1 => ?_⟩
  · obtain rfl := q 1 (by decide) c
    exact h
  refine ⟨fun c => ?_, fun c2 => ?_⟩
  · obtain rfl := q 2 (by decide) c
    exact h
  refine ⟨fun c => ?_, fun c3 => ?_⟩
  · obtain rfl := q 3 (by decide) c
    exact h
  refine ⟨fun c => ?_, fun c4 => ?_⟩
  · obtain rfl := q 4 (by decide) c
    exact law_shareOf h
  refine ⟨fun c => ?_, fun c5 => ?_⟩
  · obtain rfl := q 5 (by decide) c
    exact law_countKnowing (by omega) O.h6 O.hP h
  have n0 : k ≠ 0 := fun e => c0 (by rw [e]; rfl)
  have n1 : k ≠ 1 := fun e => c1 (by rw [e]; rfl)
  have n2 : k ≠ 2 := fun e => c2 (by rw [e]; rfl)
  have n3 : k ≠ 3 := fun e => c3 (by rw [e]; rfl)
  have n4 : k ≠ 4 := fun e => c4 (by rw [e]; rfl)
  have n5 : k ≠ 5 := fun e => c5 (by rw [e]; rfl)
  omega
set_option maxRecDepth 10000 in
theorem law_T_ofSong {post : Int32 → MS → Prop} {pex : String → MS → Prop} {σ : MS} {P B W T : Nat} {a b : Int32} (O : Ok σ P B W T) (hx : (∀ p, p < 16 → a ≠ nI p) → pex xIO σ) (hq : ∀ p, p < 16 → a = nI p → (∀ k, k ≤ 5 → b ≠ nI k) → pex xIA σ) (h : ∀ p k, p < 16 → k ≤ 5 → a = nI p → b = nI k → post (ofSF σ P p k) σ) : w_T_X7_ofSong post pex σ a b := by
  have hP := O.hP
  have hW := O.hW
  unfold w_T_X7_ofSong
  refine law_T_checkSong (fun p hp e => ?_) hx
  subst e
  have hq := hq p hp rfl
  have h := fun k hk e => h p k hp hk rfl e
  rw [nI_clamp (by omega)]
  refine ⟨vp_in_nI (by omega) (by decide), ?_⟩
  refine ⟨fun c => ?_, fun c0 => ?_⟩
  · have h := h 0 (by decide) c
    exact h
  refine ⟨fun c => ?_, fun c1 => ?_⟩
  · have h := h 1 (by decide) c
    exact h
  refine ⟨fun c => ?_, fun c2 => ?_⟩
  · have h := h 2 (by decide) c
    exact h
  refine ⟨fun c => ?_, fun c3 => ?_⟩
  · have h := h 3 (by decide) c
    exact h
  refine ⟨fun c => ?_, fun c4 => ?_⟩
  · have h := h 4 (by decide) c
    exact law_shareOf h
  refine ⟨fun c => ?_, fun c5 => ?_⟩
  · have h := h 5 (by decide) c
    exact law_countKnowing (by omega) O.h6 O.hP h
  refine hq fun k hk e => ?_
  subst e
  have n0 : k ≠ 0 := fun e => c0 (by rw [e]; rfl)
  have n1 : k ≠ 1 := fun e => c1 (by rw [e]; rfl)
  have n2 : k ≠ 2 := fun e => c2 (by rw [e]; rfl)
  have n3 : k ≠ 3 := fun e => c3 (by rw [e]; rfl)
  have n4 : k ≠ 4 := fun e => c4 (by rw [e]; rfl)
  have n5 : k ≠ 5 := fun e => c5 (by rw [e]; rfl)
  omega
def ofWF (σ : MS) (p : Nat) : Nat → Int32
  | 0 => σ (73 + p) 0
  | 1 => σ (73 + p) 1
  | 2 => σ (73 + p) 2
  | 3 => σ (73 + p) 3
  | 4 => σ (73 + p) 4
  | 5 => σ (73 + p) 5
  | 6 => σ (73 + p) 7
  | 7 => σ (73 + p) 8
  | 8 => σ (73 + p) 9
  | 9 => σ (73 + p) 10
  | 10 => σ (73 + p) 11
  | 11 => pq σ p
  | 12 => quF σ p
  | _ => 0
set_option maxRecDepth 10000 in
theorem law_N_ofWedding {post : Int32 → MS → Prop} {σ : MS} {P B W T p k : Nat} (O : Ok σ P B W T) (hp : p < W) (hk : k ≤ 12) (h : post (ofWF σ p k) σ) : w_N_X7_ofWedding post σ (nI p) (nI k) := by
  have hP := O.hP
  have hW := O.hW
  unfold w_N_X7_ofWedding
  have q : ∀ m, m < 2 ^ 31 → nI k = nI m → k = m := fun m hm e => (nI_eq (by omega) hm).mp e
  refine law_N_checkWedding O hp ?_
  rw [nI_clamp (by omega)]
  refine ⟨vp_in_nI (by omega) (by decide), ?_⟩
  refine ⟨fun c => ?_, fun c0 => ?_⟩
  · obtain rfl := q 0 (by decide) c
    exact h
  refine ⟨fun c => ?_, fun c1 => ?_⟩
  · obtain rfl := q 1 (by decide) c
    exact h
  refine ⟨fun c => ?_, fun c2 => ?_⟩
  · obtain rfl := q 2 (by decide) c
    exact h
  refine ⟨fun c => ?_, fun c3 => ?_⟩
  · obtain rfl := q 3 (by decide) c
    exact h
  refine ⟨fun c => ?_, fun c4 => ?_⟩
  · obtain rfl := q 4 (by decide) c
    exact h
  refine ⟨fun c => ?_, fun c5 => ?_⟩
  · obtain rfl := q 5 (by decide) c
    exact h
  refine ⟨fun c => ?_, fun c6 => ?_⟩
  · obtain rfl := q 6 (by decide) c
    exact h
  refine ⟨fun c => ?_, fun c7 => ?_⟩
  · obtain rfl := q 7 (by decide) c
    exact h
  refine ⟨fun c => ?_, fun c8 => ?_⟩
  · obtain rfl := q 8 (by decide) c
    exact h
  refine ⟨fun c => ?_, fun c9 => ?_⟩
  · obtain rfl := q 9 (by decide) c
    exact h
  refine ⟨fun c => ?_, fun c10 => ?_⟩
  · obtain rfl := q 10 (by decide) c
    exact h
  refine ⟨fun c => ?_, fun c11 => ?_⟩
  · obtain rfl := q 11 (by decide) c
    exact law_placeInQueue (by omega) h
  refine ⟨fun c => ?_, fun c12 => ?_⟩
  · obtain rfl := q 12 (by decide) c
    exact law_quarters h
  have n0 : k ≠ 0 := fun e => c0 (by rw [e]; rfl)
  have n1 : k ≠ 1 := fun e => c1 (by rw [e]; rfl)
  have n2 : k ≠ 2 := fun e => c2 (by rw [e]; rfl)
  have n3 : k ≠ 3 := fun e => c3 (by rw [e]; rfl)
  have n4 : k ≠ 4 := fun e => c4 (by rw [e]; rfl)
  have n5 : k ≠ 5 := fun e => c5 (by rw [e]; rfl)
  have n6 : k ≠ 6 := fun e => c6 (by rw [e]; rfl)
  have n7 : k ≠ 7 := fun e => c7 (by rw [e]; rfl)
  have n8 : k ≠ 8 := fun e => c8 (by rw [e]; rfl)
  have n9 : k ≠ 9 := fun e => c9 (by rw [e]; rfl)
  have n10 : k ≠ 10 := fun e => c10 (by rw [e]; rfl)
  have n11 : k ≠ 11 := fun e => c11 (by rw [e]; rfl)
  have n12 : k ≠ 12 := fun e => c12 (by rw [e]; rfl)
  omega
set_option maxRecDepth 10000 in
theorem law_T_ofWedding {post : Int32 → MS → Prop} {pex : String → MS → Prop} {σ : MS} {P B W T : Nat} {a b : Int32} (O : Ok σ P B W T) (hx : (∀ p, p < W → a ≠ nI p) → pex xIO σ) (hq : ∀ p, p < W → a = nI p → (∀ k, k ≤ 12 → b ≠ nI k) → pex xIA σ) (h : ∀ p k, p < W → k ≤ 12 → a = nI p → b = nI k → post (ofWF σ p k) σ) : w_T_X7_ofWedding post pex σ a b := by
  have hP := O.hP
  have hW := O.hW
  unfold w_T_X7_ofWedding
  refine law_T_checkWedding O (fun p hp e => ?_) hx
  subst e
  have hq := hq p hp rfl
  have h := fun k hk e => h p k hp hk rfl e
  rw [nI_clamp (by omega)]
  refine ⟨vp_in_nI (by omega) (by decide), ?_⟩
  refine ⟨fun c => ?_, fun c0 => ?_⟩
  · have h := h 0 (by decide) c
    exact h
  refine ⟨fun c => ?_, fun c1 => ?_⟩
  · have h := h 1 (by decide) c
    exact h
  refine ⟨fun c => ?_, fun c2 => ?_⟩
  · have h := h 2 (by decide) c
    exact h
  refine ⟨fun c => ?_, fun c3 => ?_⟩
  · have h := h 3 (by decide) c
    exact h
  refine ⟨fun c => ?_, fun c4 => ?_⟩
  · have h := h 4 (by decide) c
    exact h
  refine ⟨fun c => ?_, fun c5 => ?_⟩
  · have h := h 5 (by decide) c
    exact h
  refine ⟨fun c => ?_, fun c6 => ?_⟩
  · have h := h 6 (by decide) c
    exact h
  refine ⟨fun c => ?_, fun c7 => ?_⟩
  · have h := h 7 (by decide) c
    exact h
  refine ⟨fun c => ?_, fun c8 => ?_⟩
  · have h := h 8 (by decide) c
    exact h
  refine ⟨fun c => ?_, fun c9 => ?_⟩
  · have h := h 9 (by decide) c
    exact h
  refine ⟨fun c => ?_, fun c10 => ?_⟩
  · have h := h 10 (by decide) c
    exact h
  refine ⟨fun c => ?_, fun c11 => ?_⟩
  · have h := h 11 (by decide) c
    exact law_placeInQueue (by omega) h
  refine ⟨fun c => ?_, fun c12 => ?_⟩
  · have h := h 12 (by decide) c
    exact law_quarters h
  refine hq fun k hk e => ?_
  subst e
  have n0 : k ≠ 0 := fun e => c0 (by rw [e]; rfl)
  have n1 : k ≠ 1 := fun e => c1 (by rw [e]; rfl)
  have n2 : k ≠ 2 := fun e => c2 (by rw [e]; rfl)
  have n3 : k ≠ 3 := fun e => c3 (by rw [e]; rfl)
  have n4 : k ≠ 4 := fun e => c4 (by rw [e]; rfl)
  have n5 : k ≠ 5 := fun e => c5 (by rw [e]; rfl)
  have n6 : k ≠ 6 := fun e => c6 (by rw [e]; rfl)
  have n7 : k ≠ 7 := fun e => c7 (by rw [e]; rfl)
  have n8 : k ≠ 8 := fun e => c8 (by rw [e]; rfl)
  have n9 : k ≠ 9 := fun e => c9 (by rw [e]; rfl)
  have n10 : k ≠ 10 := fun e => c10 (by rw [e]; rfl)
  have n11 : k ≠ 11 := fun e => c11 (by rw [e]; rfl)
  have n12 : k ≠ 12 := fun e => c12 (by rw [e]; rfl)
  omega
def deskF (σ : MS) (P W : Nat) : Nat → Int32
  | 0 => σ 0 9
  | 1 => σ 0 6
  | 2 => σ 0 7
  | 3 => σ 0 8
  | 4 => nI (fb_ct (fun w => decide (σ (73 + w) 7 = 0)) W)
  | 5 => nI (fb_ct (fun w => decide (σ (73 + w) 7 = 1)) W)
  | 6 => nI (fb_ct (fun w => decide (σ (73 + w) 7 = 2)) W)
  | 7 => nI (fb_ct (fun w => decide (σ (73 + w) 7 = 3)) W)
  | 8 => σ 0 10
  | 9 => sumI (fun p => bcI (σ (29 + p) 4)) P / 2
  | 10 => sumI (fun p => σ (29 + p) 5) P
  | 11 => sumI (fun d => bcI (σ 6 d)) 366
  | 12 => gapF σ P
  | _ => 0
set_option maxRecDepth 10000 in
theorem law_N_desk {post : Int32 → MS → Prop} {σ : MS} {P B W T k : Nat} (O : Ok σ P B W T) (hk : k ≤ 12) (h : post (deskF σ P W k) σ) : w_N_X7_desk post σ (nI k) := by
  have hP := O.hP
  have hW := O.hW
  unfold w_N_X7_desk
  have q : ∀ m, m < 2 ^ 31 → nI k = nI m → k = m := fun m hm e => (nI_eq (by omega) hm).mp e
  refine ⟨fun c => ?_, fun c0 => ?_⟩
  · obtain rfl := q 0 (by decide) c
    exact h
  refine ⟨fun c => ?_, fun c1 => ?_⟩
  · obtain rfl := q 1 (by decide) c
    exact h
  refine ⟨fun c => ?_, fun c2 => ?_⟩
  · obtain rfl := q 2 (by decide) c
    exact h
  refine ⟨fun c => ?_, fun c3 => ?_⟩
  · obtain rfl := q 3 (by decide) c
    exact h
  refine ⟨fun c => ?_, fun c4 => ?_⟩
  · obtain rfl := q 4 (by decide) c
    exact law_countInState O.h8 O.hW h
  refine ⟨fun c => ?_, fun c5 => ?_⟩
  · obtain rfl := q 5 (by decide) c
    exact law_countInState O.h8 O.hW h
  refine ⟨fun c => ?_, fun c6 => ?_⟩
  · obtain rfl := q 6 (by decide) c
    exact law_countInState O.h8 O.hW h
  refine ⟨fun c => ?_, fun c7 => ?_⟩
  · obtain rfl := q 7 (by decide) c
    exact law_countInState O.h8 O.hW h
  refine ⟨fun c => ?_, fun c8 => ?_⟩
  · obtain rfl := q 8 (by decide) c
    exact h
  refine ⟨fun c => ?_, fun c9 => ?_⟩
  · obtain rfl := q 9 (by decide) c
    exact law_countFeuds O.h6 O.hP h
  refine ⟨fun c => ?_, fun c10 => ?_⟩
  · obtain rfl := q 10 (by decide) c
    exact law_allEarned O.h6 O.hP h
  refine ⟨fun c => ?_, fun c11 => ?_⟩
  · obtain rfl := q 11 (by decide) c
    exact law_countDaysOff h
  refine ⟨fun c => ?_, fun c12 => ?_⟩
  · obtain rfl := q 12 (by decide) c
    exact law_gapOfHours O.h6 O.hP h
  have n0 : k ≠ 0 := fun e => c0 (by rw [e]; rfl)
  have n1 : k ≠ 1 := fun e => c1 (by rw [e]; rfl)
  have n2 : k ≠ 2 := fun e => c2 (by rw [e]; rfl)
  have n3 : k ≠ 3 := fun e => c3 (by rw [e]; rfl)
  have n4 : k ≠ 4 := fun e => c4 (by rw [e]; rfl)
  have n5 : k ≠ 5 := fun e => c5 (by rw [e]; rfl)
  have n6 : k ≠ 6 := fun e => c6 (by rw [e]; rfl)
  have n7 : k ≠ 7 := fun e => c7 (by rw [e]; rfl)
  have n8 : k ≠ 8 := fun e => c8 (by rw [e]; rfl)
  have n9 : k ≠ 9 := fun e => c9 (by rw [e]; rfl)
  have n10 : k ≠ 10 := fun e => c10 (by rw [e]; rfl)
  have n11 : k ≠ 11 := fun e => c11 (by rw [e]; rfl)
  have n12 : k ≠ 12 := fun e => c12 (by rw [e]; rfl)
  omega
set_option maxRecDepth 10000 in
theorem law_T_desk {post : Int32 → MS → Prop} {pex : String → MS → Prop} {σ : MS} {P B W T : Nat} {b : Int32} (O : Ok σ P B W T) (hq : (∀ k, k ≤ 12 → b ≠ nI k) → pex xIA σ) (h : ∀ k, k ≤ 12 → b = nI k → post (deskF σ P W k) σ) : w_T_X7_desk post pex σ b := by
  have hP := O.hP
  have hW := O.hW
  unfold w_T_X7_desk
  refine ⟨fun c => ?_, fun c0 => ?_⟩
  · have h := h 0 (by decide) c
    exact h
  refine ⟨fun c => ?_, fun c1 => ?_⟩
  · have h := h 1 (by decide) c
    exact h
  refine ⟨fun c => ?_, fun c2 => ?_⟩
  · have h := h 2 (by decide) c
    exact h
  refine ⟨fun c => ?_, fun c3 => ?_⟩
  · have h := h 3 (by decide) c
    exact h
  refine ⟨fun c => ?_, fun c4 => ?_⟩
  · have h := h 4 (by decide) c
    exact law_countInState O.h8 O.hW h
  refine ⟨fun c => ?_, fun c5 => ?_⟩
  · have h := h 5 (by decide) c
    exact law_countInState O.h8 O.hW h
  refine ⟨fun c => ?_, fun c6 => ?_⟩
  · have h := h 6 (by decide) c
    exact law_countInState O.h8 O.hW h
  refine ⟨fun c => ?_, fun c7 => ?_⟩
  · have h := h 7 (by decide) c
    exact law_countInState O.h8 O.hW h
  refine ⟨fun c => ?_, fun c8 => ?_⟩
  · have h := h 8 (by decide) c
    exact h
  refine ⟨fun c => ?_, fun c9 => ?_⟩
  · have h := h 9 (by decide) c
    exact law_countFeuds O.h6 O.hP h
  refine ⟨fun c => ?_, fun c10 => ?_⟩
  · have h := h 10 (by decide) c
    exact law_allEarned O.h6 O.hP h
  refine ⟨fun c => ?_, fun c11 => ?_⟩
  · have h := h 11 (by decide) c
    exact law_countDaysOff h
  refine ⟨fun c => ?_, fun c12 => ?_⟩
  · have h := h 12 (by decide) c
    exact law_gapOfHours O.h6 O.hP h
  refine hq fun k hk e => ?_
  subst e
  have n0 : k ≠ 0 := fun e => c0 (by rw [e]; rfl)
  have n1 : k ≠ 1 := fun e => c1 (by rw [e]; rfl)
  have n2 : k ≠ 2 := fun e => c2 (by rw [e]; rfl)
  have n3 : k ≠ 3 := fun e => c3 (by rw [e]; rfl)
  have n4 : k ≠ 4 := fun e => c4 (by rw [e]; rfl)
  have n5 : k ≠ 5 := fun e => c5 (by rw [e]; rfl)
  have n6 : k ≠ 6 := fun e => c6 (by rw [e]; rfl)
  have n7 : k ≠ 7 := fun e => c7 (by rw [e]; rfl)
  have n8 : k ≠ 8 := fun e => c8 (by rw [e]; rfl)
  have n9 : k ≠ 9 := fun e => c9 (by rw [e]; rfl)
  have n10 : k ≠ 10 := fun e => c10 (by rw [e]; rfl)
  have n11 : k ≠ 11 := fun e => c11 (by rw [e]; rfl)
  have n12 : k ≠ 12 := fun e => c12 (by rw [e]; rfl)
  omega
end
section
/-! LAWS: free, filling, wouldLose, wouldCancel, key, drive -/
theorem nar_b (x : Bool) : narrow .boolean (.int (b01 x)) = .int (b01 x) := by cases x <;> rfl
theorem law_T_free {post : Int32 → MS → Prop} {pex : String → MS → Prop} {σ : MS} {P B W T : Nat} {a b : Int32} (O : Ok σ P B W T)
    (hx : ((∀ p, p < P → a ≠ nI p) ∨ (∀ w, w < W → b ≠ nI w)) → pex xIO σ)
    (h : ∀ p w, p < P → w < W → a = nI p → b = nI w → post (b01 (freeB (stg σ W) p w W)) (stg σ W)) : w_T_X7_free post pex σ a b := by
  have hP := O.hP
  have hW := O.hW
  unfold w_T_X7_free
  refine law_T_checkPlayer O (fun p hp e => law_T_checkWedding O (fun w hw e2 => ?_) (fun z => hx (Or.inr z))) (fun z => hx (Or.inl z))
  have hh := h p w hp hw e e2
  subst e
  subst e2
  exact law_stageAsFixed O.h8 hW (law_isFreeFor (O.scr (Scr.stg σ W)) (by omega) (by omega) ⟨nar_b _, hh⟩)
def fillF (y : MS) : Nat → Int32
  | 0 => y 9 0
  | 1 => y 9 1
  | 2 => y 9 3
  | _ => y 9 5
theorem law_T_filling {post : Int32 → MS → Prop} {pex : String → MS → Prop} {σ : MS} {P B W T : Nat} {a b : Int32} (O : Ok σ P B W T)
    (hx : (∀ w, w < W → a ≠ nI w) → pex xIO σ)
    (hq : ∀ w, w < W → a = nI w → (∀ k, k ≤ 3 → b ≠ nI k) → pex xIA σ)
    (h : ∀ w k, w < W → k ≤ 3 → a = nI w → b = nI k → post (fillF (snF σ w P W) k) (snF σ w P W)) : w_T_X7_filling post pex σ a b := by
  have hW := O.hW
  unfold w_T_X7_filling u_T_X7_filling_14
  refine law_T_checkWedding O (fun w hw e => ?_) hx
  have hq2 := hq w hw e
  have hh := fun k hk e2 => h w k hw hk e e2
  subst e
  refine ⟨fun c => hq2 fun k hk e => ?_, fun c => ⟨fun d => law_surveyNow O (by omega) ⟨fun e => ?_, fun e0 => ⟨fun e => ?_, fun e1 => ⟨fun e => ?_, fun e2 => ?_⟩⟩⟩, fun d => hq2 fun k hk e => ?_⟩⟩
  · subst e
    exact nI_pos (by omega) c
  · exact hh 0 (by decide) e
  · exact hh 1 (by decide) e
  · exact hh 2 (by decide) e
  · obtain ⟨k, hk, rfl⟩ := nI_of c
    have hk3 : k ≤ 3 := (nI_leI hk (by decide)).mp (show nI k ≤ nI 3 from d)
    have n0 : k ≠ 0 := fun z => e0 (by rw [z]; rfl)
    have n1 : k ≠ 1 := fun z => e1 (by rw [z]; rfl)
    have n2 : k ≠ 2 := fun z => e2 (by rw [z]; rfl)
    obtain rfl : k = 3 := by omega
    exact hh 3 (by decide) rfl
  · subst e
    exact d (show nI k ≤ nI 3 from nI_le hk (by decide))
theorem law_T_wouldLose {post : Int32 → MS → Prop} {pex : String → MS → Prop} {σ : MS} {P B W T : Nat} {a b : Int32} (O : Ok σ P B W T)
    (hx : (∀ p, p < P → a ≠ nI p) → pex xIO σ)
    (hq : ∀ p, p < P → a = nI p → (∀ d, T ≤ d → d ≤ 365 → b ≠ nI d) → pex xIA σ)
    (h : ∀ p d, p < P → T ≤ d → d ≤ 365 → a = nI p → b = nI d → post (swS σ P W p (nI d) W).2 (swS σ P W p (nI d) W).1) : w_T_X7_wouldLose post pex σ a b := by
  have hP := O.hP
  unfold w_T_X7_wouldLose
  refine law_T_checkPlayer O (fun p hp e => law_T_checkDayToCome O (fun d hd1 hd2 e2 => ?_) (fun z => hq p hp e z)) hx
  have hh := h p d hp hd1 hd2 e e2
  subst e
  subst e2
  exact law_stageWithout O (by omega) hh
def wcF (σ : MS) (w P : Nat) : Int32 := (if 0 < owedF σ w - σ (73 + w) 11 then owedF σ w - σ (73 + w) 11 else 0) - (((σ (73 + w) 9 - σ (73 + w) 11) + extraF σ w P) - wagesF σ w P)
theorem law_T_wouldCancel {post : Int32 → MS → Prop} {pex : String → MS → Prop} {σ : MS} {P B W T : Nat} {a : Int32} (O : Ok σ P B W T)
    (hx : (∀ w, w < W → a ≠ nI w) → pex xIO σ)
    (hq : ∀ w, w < W → a = nI w → ¬ σ (73 + w) 7 = 1 → pex xIS σ)
    (h : ∀ w, w < W → a = nI w → σ (73 + w) 7 = 1 → post (wcF σ w P) σ) : w_T_X7_wouldCancel post pex σ a := by
  have hP := O.hP
  have hW := O.hW
  unfold w_T_X7_wouldCancel
  refine law_T_checkWedding O (fun w hw e => ?_) hx
  have hq2 := hq w hw e
  have hh := h w hw e
  subst e
  rw [nI_clamp (by omega)]
  refine ⟨vp_in_nI (by omega) (by decide), fun c => law_owedFor (law_extraOf O.h6 hP (law_allWagesAt O.h6 hP (fun p hp => O.home p (by omega)) (O.town w (by omega)) fun y hy => ?_)), fun c => hq2 c⟩
  subst hy
  exact hh c
/-- the first of the set, of n; else -1 -/
def keyF (s : Int32) : Nat → Nat → Int32
  | 0, _ => -1
  | n + 1, i => if bt s i = true then nI i else keyF s n (i + 1)
theorem law_T_key {post : Int32 → MS → Prop} {pex : String → MS → Prop} {σ : MS} {P B W T : Nat} {a : Int32} (O : Ok σ P B W T)
    (hx : (∀ w, w < W → a ≠ nI w) → pex xIO σ)
    (h : ∀ w, w < W → a = nI w → post (if snF σ w P W 9 3 = 0 then -1 else keyF (snF σ w P W 9 4) P 0) (snF σ w P W)) : w_T_X7_key post pex σ a := by
  have hP := O.hP
  have hW := O.hW
  unfold w_T_X7_key
  refine law_T_checkWedding O (fun w hw e => ?_) hx
  have hh := h w hw e
  subst e
  have Oy := O.scr (Scr.sn σ w P W)
  refine law_surveyNow O (by omega) ?_
  generalize snF σ w P W = y at hh Oy ⊢
  refine ⟨fun c => ?_, fun c => ⟨P + 1, ?_⟩⟩
  · rw [if_pos c] at hh; exact hh
  · rw [if_neg c] at hh
    have key : ∀ d i, i + d = P → post (keyF (y 9 4) d i) y → u_T_X7_key_24 post pex (nI w) (d + 1) y (nI i) := by
      intro d
      induction d with
      | zero =>
        intro i hi hp
        obtain rfl : i = P := by omega
        rw [u_T_X7_key_24, Oy.h6]
        exact ⟨fun _ => hp, fun c => absurd (le_self _) c⟩
      | succ d ih =>
        intro i hi hp
        unfold keyF at hp
        rw [u_T_X7_key_24, Oy.h6, nI_1]
        refine ⟨fun c => absurd c (nI_ge (by omega) (by omega)), fun _ => law_has (by omega) ⟨fun c => ?_, fun c => ?_⟩⟩
        · rw [if_neg (by rw [b01_0.mp c]; exact Bool.false_ne_true)] at hp
          exact ih (i + 1) (by omega) hp
        · rw [if_pos (b01_1.mp c)] at hp
          exact hp
    exact key P 0 (by omega) hh
theorem law_T_drive {post : Int32 → MS → Prop} {pex : String → MS → Prop} {σ : MS} {a b : Int32}
    (hx : ((∀ p, p < 6 → a ≠ nI p) ∨ (∀ w, w < 6 → b ≠ nI w)) → pex xIO σ)
    (h : ∀ p w, p < 6 → w < 6 → a = nI p → b = nI w → post (σ (23 + p) w) σ) : w_T_X7_drive post pex σ a b := by
  unfold w_T_X7_drive
  refine law_T_checkTown (fun p hp e => law_T_checkTown (fun w hw e2 => ?_) (fun z => hx (Or.inr z))) (fun z => hx (Or.inl z))
  have hh := h p w hp hw e e2
  subst e
  subst e2
  refine law_between (vp_in_nI hp (by decide)) (vp_in_nI hw (by decide)) ?_
  unfold wayF
  rw [nI_clamp (by omega), nI_clamp (by omega)]
  exact hh
end
section
/-! LAWS: the best set of songs: the order -/
def srtI (σ : MS) (pb : Int32) (e : Nat) (B : List Nat) : Nat → List Nat
  | 0 => B
  | s + 1 => if bt pb s = true ∧ σ (39 + s) 1 = nI e then srtI σ pb e B s ++ [s] else srtI σ pb e B s
/-- the songs that can be played, by energy, then by number: of the first n energies -/
def srtL (σ : MS) (pb : Int32) : Nat → List Nat
  | 0 => []
  | e + 1 => srtI σ pb e (srtL σ pb e) 16
def putL (σ : MS) (L : List Nat) : MS := fun k j => if k = 12 ∧ j < L.length then nI (L.getD j 0) else if k = 10 ∧ j = 6 then nI L.length else σ k j
theorem putL_nil (σ : MS) : putL σ [] = up2 σ 10 6 0 := by
  funext k j
  unfold putL
  rw [if_neg (fun q => absurd q.2 (Nat.not_lt_zero _))]
  by_cases h : k = 10 ∧ j = 6
  · obtain ⟨rfl, rfl⟩ := h
    rw [if_pos ⟨rfl, rfl⟩, up2_same]
    rfl
  · rw [if_neg h, up2_at (by omega)]
theorem putL_k {σ : MS} {L : List Nat} {k : Nat} (h : k ≠ 12) (h2 : k ≠ 10) : putL σ L k = σ k := by
  funext j
  unfold putL
  rw [if_neg (fun q => h q.1), if_neg (fun q => h2 q.1)]
theorem putL_n {σ : MS} {L : List Nat} : putL σ L 10 6 = nI L.length := by
  unfold putL
  rw [if_neg (fun q => absurd q.1 (by decide)), if_pos ⟨rfl, rfl⟩]
theorem putL_app (σ : MS) (L : List Nat) (s : Nat) : putL σ (L ++ [s]) = up2 (up2 (putL σ L) 12 L.length (nI s)) 10 6 (nI (L.length + 1)) := by
  funext k j
  have hl : (L ++ [s]).length = L.length + 1 := by simp
  by_cases h10 : k = 10 ∧ j = 6
  · obtain ⟨rfl, rfl⟩ := h10
    rw [up2_same, putL_n, hl]
  · rw [up2_at (by omega)]
    by_cases h12 : k = 12
    · subst h12
      by_cases hj : j = L.length
      · subst hj
        rw [up2_same]
        unfold putL
        rw [if_pos (show (12 : Nat) = 12 ∧ L.length < (L ++ [s]).length from ⟨rfl, by omega⟩)]
        simp [List.getD]
      · rw [up2_at (by omega)]
        unfold putL
        by_cases h2 : j < L.length
        · rw [if_pos (show (12 : Nat) = 12 ∧ j < (L ++ [s]).length from ⟨rfl, by omega⟩), if_pos (show (12 : Nat) = 12 ∧ j < L.length from ⟨rfl, h2⟩)]
          simp [List.getD, List.getElem?_append_left h2]
        · have a1 : ¬ ((12 : Nat) = 12 ∧ j < (L ++ [s]).length) := fun q => by omega
          have a2 : ¬ ((12 : Nat) = 12 ∧ j < L.length) := fun q => h2 q.2
          have a3 : ¬ ((12 : Nat) = 10 ∧ j = 6) := by omega
          rw [if_neg a1, if_neg a2, if_neg a3, if_neg a3]
    · rw [up2_at (by omega)]
      unfold putL
      rw [if_neg (fun q => h12 q.1), if_neg h10, if_neg (fun q => h12 q.1), if_neg h10]
/-- songs below 16, each once -/
def lst (L : List Nat) : Prop := L.Nodup ∧ ∀ x ∈ L, x < 16
theorem lst_len {L : List Nat} (h : lst L) : L.length ≤ 16 := by
  refine fb_holes 16 L.length (fun i => L.getD i 0) (fun i hi => ?_) (fun i j hij hj => ?_)
  · have : L.getD i 0 = L[i] := by simp [List.getD, hi]
    rw [this]
    exact h.2 _ (List.getElem_mem hi)
  · have e1 : L.getD i 0 = L[i]'(by omega) := by simp [List.getD, show i < L.length by omega]
    have e2 : L.getD j 0 = L[j] := by simp [List.getD, hj]
    rw [e1, e2]
    exact (List.pairwise_iff_getElem.mp h.1) i j (by omega) hj hij
theorem srtI_ok {σ : MS} {pb : Int32} {e : Nat} {B : List Nat} (he : e < 10) (hB : lst B) (hE : ∀ x ∈ B, ∃ f, f < e ∧ σ (39 + x) 1 = nI f) : ∀ s, s ≤ 16 → lst (srtI σ pb e B s) ∧ ∀ x ∈ srtI σ pb e B s, x ∈ B ∨ (x < s ∧ σ (39 + x) 1 = nI e) := by
  intro s
  induction s with
  | zero => intro _; exact ⟨hB, fun x hx => Or.inl hx⟩
  | succ s ih =>
    intro hs
    obtain ⟨h1, h2⟩ := ih (by omega)
    unfold srtI
    by_cases c : bt pb s = true ∧ σ (39 + s) 1 = nI e
    · rw [if_pos c]
      have hn : s ∉ srtI σ pb e B s := fun q => by
        rcases h2 s q with z | z
        · obtain ⟨f, hf, hz⟩ := hE s z
          have := (nI_eq (by omega) (by omega)).mp (hz.symm.trans c.2)
          omega
        · omega
      refine ⟨⟨List.nodup_append.mpr ⟨h1.1, by simp, fun a ha b hb => ?_⟩, fun x hx => ?_⟩, fun x hx => ?_⟩
      · obtain rfl : b = s := by simpa using hb
        exact fun z => hn (z ▸ ha)
      · rcases List.mem_append.mp hx with z | z
        · exact h1.2 x z
        · obtain rfl : x = s := by simpa using z
          omega
      · rcases List.mem_append.mp hx with z | z
        · rcases h2 x z with w | w
          · exact Or.inl w
          · exact Or.inr ⟨by omega, w.2⟩
        · obtain rfl : x = s := by simpa using z
          exact Or.inr ⟨by omega, c.2⟩
    · rw [if_neg c]
      exact ⟨h1, fun x hx => (h2 x hx).imp id fun z => ⟨by omega, z.2⟩⟩
theorem srtL_ok (σ : MS) (pb : Int32) : ∀ e, e ≤ 10 → lst (srtL σ pb e) ∧ ∀ x ∈ srtL σ pb e, ∃ f, f < e ∧ σ (39 + x) 1 = nI f
  | 0, _ => ⟨⟨List.nodup_nil, fun x hx => absurd hx List.not_mem_nil⟩, fun x hx => absurd hx List.not_mem_nil⟩
  | e + 1, he => by
    obtain ⟨h1, h2⟩ := srtL_ok σ pb e (by omega)
    obtain ⟨h3, h4⟩ := srtI_ok (pb := pb) (by omega : e < 10) h1 h2 16 (by omega)
    refine ⟨h3, fun x hx => ?_⟩
    rcases h4 x hx with z | z
    · obtain ⟨f, hf, hz⟩ := h2 x z
      exact ⟨f, by omega, hz⟩
    · exact ⟨e, by omega, z.2⟩
theorem law_sort {post : MS → Prop} {σ : MS} {pb : Int32} (h : post (putL σ (srtL σ pb 10))) : w_X1_sort post σ pb := by
  unfold w_X1_sort
  rw [← putL_nil]
  refine up_loop (fun k (q : MS × Int32) => u_X1_sort_7 post pb k q.1 q.2) (fun i => (putL σ (srtL σ pb i), nI i)) 10 ?_ (fun e k he hk => ?_)
  · show u_X1_sort_7 post pb 1 (putL σ (srtL σ pb 10)) (nI 10)
    rw [u_X1_sort_7]
    exact ⟨fun _ => h, fun c => absurd (show (10 : Int32) ≤ nI 10 by decide) c⟩
  · show u_X1_sort_7 post pb (k + 1) (putL σ (srtL σ pb e)) (nI e)
    have hk : u_X1_sort_7 post pb k (putL σ (srtL σ pb (e + 1))) (nI (e + 1)) := hk
    rw [u_X1_sort_7]
    refine ⟨fun c => absurd (show nI 10 ≤ nI e from c) (nI_ge he (by decide)), fun _ => ?_⟩
    obtain ⟨h1, h2⟩ := srtL_ok σ pb e (by omega)
    refine up_loop (fun k2 (q : MS × Int32) => u_X1_sort_16 post pb (fun σ w0 => u_X1_sort_7 post pb k σ w0) k2 q.1 (nI e) q.2) (fun i => (putL σ (srtI σ pb e (srtL σ pb e) i), nI i)) 16 ?_ (fun s k2 hs hk2 => ?_)
    · show u_X1_sort_16 post pb (fun σ w0 => u_X1_sort_7 post pb k σ w0) 1 (putL σ (srtI σ pb e (srtL σ pb e) 16)) (nI e) (nI 16)
      rw [u_X1_sort_16, nI_1]
      exact ⟨fun _ => hk, fun c => absurd (show (16 : Int32) ≤ nI 16 by decide) c⟩
    · show u_X1_sort_16 post pb (fun σ w0 => u_X1_sort_7 post pb k σ w0) (k2 + 1) (putL σ (srtI σ pb e (srtL σ pb e) s)) (nI e) (nI s)
      have hk2 : u_X1_sort_16 post pb (fun σ w0 => u_X1_sort_7 post pb k σ w0) k2 (putL σ (srtI σ pb e (srtL σ pb e) (s + 1))) (nI e) (nI (s + 1)) := hk2
      obtain ⟨h3, h4⟩ := srtI_ok (pb := pb) he h1 h2 s (by omega)
      obtain ⟨h5, -⟩ := srtI_ok (pb := pb) he h1 h2 (s + 1) (by omega)
      have h6 := lst_len h5
      unfold srtI at hk2 h6
      generalize srtI σ pb e (srtL σ pb e) s = L at hk2 h3 h4 h6 ⊢
      have e39 : putL σ L (39 + s) = σ (39 + s) := putL_k (by omega) (by omega)
      rw [u_X1_sort_16, nI_1 e, nI_1 s, nI_clamp (by omega)]
      refine ⟨fun c => absurd (show nI 16 ≤ nI s from c) (nI_ge hs (by decide)), fun _ => law_has (by omega) ⟨fun c => ?_, fun c => ⟨vp_in_nI hs (by decide), fun d => ?_, fun d => ?_⟩⟩⟩
      · rw [if_neg (fun q => by rw [b01_0.mp c] at q; exact Bool.false_ne_true q.1)] at hk2
        exact hk2
      · rw [e39] at d
        rw [if_pos ⟨b01_1.mp c, d⟩] at hk2 h6
        have hlen : L.length < 16 := by
          have : (L ++ [s]).length = L.length + 1 := by simp
          omega
        rw [putL_app] at hk2
        rw [up2_at (k' := 10) (by omega), putL_n, nI_clamp (by omega), nI_1]
        exact ⟨fun q => absurd (show nI 16 ≤ nI L.length from q) (nI_ge hlen (by decide)), fun _ => ⟨vp_in_nI hlen (by decide), hk2⟩⟩
      · rw [e39] at d
        rw [if_neg (fun q => d q.2)] at hk2
        exact hk2
end
section
/-! LAWS: the best set of songs: the row -/
def ps (n : Nat) (v : Int32) : Prop := v = -1 ∨ ∃ j, j < n ∧ v = nI j
theorem ps_vp {n : Nat} {v : Int32} (hn : n ≤ 16) (h : ps n v) (h2 : ¬ v = -1) : vp_in v 16 := by
  rcases h with h | ⟨j, hj, rfl⟩
  · exact absurd h h2
  · exact vp_in_nI (by omega) (by decide)
def bsF (σ : MS) (k : Nat) (b : Int32) : Int32 := if b = -1 then nI k else if σ 13 k ≤ σ 13 b.toNatClampNeg then (if σ 13 k = σ 13 b.toNatClampNeg then (if σ 12 b.toNatClampNeg ≤ σ 12 k then b else nI k) else b) else nI k
theorem bsF_ps {σ : MS} {n k : Nat} {b : Int32} (hk : k < n) (hb : ps n b) : ps n (bsF σ k b) := by
  unfold bsF
  have a : ps n (nI k) := Or.inr ⟨k, hk, rfl⟩
  split
  · exact a
  · split
    · split
      · split
        · exact hb
        · exact a
      · exact hb
    · exact a
theorem law_betterStart {post : Int32 → MS → Prop} {σ : MS} {n k : Nat} {b : Int32} (hn : n ≤ 16) (hk : k < n) (hb : ps n b) (h : post (bsF σ k b) σ) : w_X1_betterStart post σ (nI k) b := by
  unfold w_X1_betterStart
  unfold bsF at h
  rw [nI_clamp (by omega)]
  have v1 : vp_in (nI k) 16 := vp_in_nI (by omega) (by decide)
  refine ⟨fun c => ?_, fun c => ?_⟩
  · rw [if_pos c] at h; exact h
  · have v2 := ps_vp hn hb c
    rw [if_neg c] at h
    refine ⟨v1, v2, fun d => ⟨v1, v2, fun e => ⟨v1, v2, fun f => ?_, fun f => ?_⟩, fun e => ?_⟩, fun d => ?_⟩
    · rw [if_pos d, if_pos e, if_pos f] at h; exact h
    · rw [if_pos d, if_pos e, if_neg f] at h; exact h
    · rw [if_pos d, if_neg e] at h; exact h
    · rw [if_neg d] at h; exact h
def ordN (σ : MS) (k : Nat) : Nat := (σ 12 k).toNatClampNeg
def apart (σ : MS) (a b : Nat) : Int32 := if 0 ≤ σ (39 + a) 0 - σ (39 + b) 0 then σ (39 + a) 0 - σ (39 + b) 0 else 0 - (σ (39 + a) 0 - σ (39 + b) 0)
def fits2 (σ : MS) (a b : Nat) : Bool := decide (apart σ a b ≤ 2 ∨ ¬ apart σ a b < 10)
theorem law_fitsBeside {post : Int32 → MS → Prop} {σ : MS} {a b : Nat} (h : post (b01 (fits2 σ a b)) σ) : w_X5_fitsBeside post σ a b := by
  unfold w_X5_fitsBeside
  unfold fits2 apart at h
  refine ⟨fun c => ?_, fun c => ⟨fun d => ?_, fun d => ?_⟩⟩
  · rw [decide_eq_true (Or.inl c)] at h; exact h
  · rw [decide_eq_false (fun q => q.elim c (fun z => z d))] at h; exact h
  · rw [decide_eq_true (Or.inr d)] at h; exact h
/-- the best that goes on behind place p, of the m places next to it -/
def nv (σ : MS) (p : Nat) : Nat → Int32
  | 0 => -1
  | m + 1 => if fits2 σ (ordN σ p) (ordN σ (p + 1 + m)) = true then bsF σ (p + 1 + m) (nv σ p m) else nv σ p m
theorem nv_ps {σ : MS} {n p : Nat} : ∀ m, p + 1 + m ≤ n → ps n (nv σ p m)
  | 0, _ => Or.inl rfl
  | m + 1, h => by
    unfold nv
    split
    · exact bsF_ps (by omega) (nv_ps m (by omega))
    · exact nv_ps m (by omega)
def chV (x : MS) (p d : Nat) : MS := up2 (up2 x 14 p (nv x p d)) 13 p (x (39 + ordN x p) 2 + (if nv x p d = -1 then 0 else x 13 (nv x p d).toNatClampNeg))
/-- from the end on, the last d places -/
def chS (σ : MS) (n : Nat) : Nat → MS
  | 0 => σ
  | d + 1 => chV (chS σ n d) (n - 1 - d) d
theorem chS_k {σ : MS} {n k : Nat} (h : k ≠ 13) (h2 : k ≠ 14) : ∀ d, chS σ n d k = σ k
  | 0 => rfl
  | d + 1 => by
    unfold chS chV
    rw [up2_ne h, up2_ne h2]
    exact chS_k h h2 d
theorem chS_ps {σ : MS} {n : Nat} : ∀ d, d ≤ n → ∀ j, n - d ≤ j → j < n → ps n (chS σ n d 14 j)
  | 0, _, j, h1, h2 => absurd h2 (by omega)
  | d + 1, hd, j, h1, h2 => by
    unfold chS chV
    rw [up2_at (by omega)]
    by_cases q : j = n - 1 - d
    · subst q
      rw [up2_same]
      exact nv_ps d (by omega)
    · rw [up2_at (by omega)]
      exact chS_ps d (by omega) j (by omega) h2
theorem add_m1 (x : Int32) : x + -1 = x - 1 := (Int32.sub_eq_add_neg x 1).symm
theorem law_ch39 {post : MS → Prop} {a2 : Int32} {K : MS → Int32 → Prop} {x : MS} {n p d : Nat} (hn : n ≤ 16) (h6 : x 10 6 = nI n) (hO : ∀ k, k < n → vp_in (x 12 k) 16) (hp : p + 1 + d = n) (h : K (chV x p d) (nI p - 1)) : ∃ k, u_X1_choose_39 post a2 K k (up2 x 14 p (-1)) (nI p) (ordN x p) (nI (p + 1)) := by
  have vp : vp_in (nI p) 16 := vp_in_nI (by omega) (by decide)
  refine up_loop (fun k (q : MS × Int32) => u_X1_choose_39 post a2 K k q.1 (nI p) (ordN x p) q.2) (fun i => (up2 x 14 p (nv x p i), nI (p + 1 + i))) d ?_ (fun i k hi hk => ?_)
  · show u_X1_choose_39 post a2 K 1 (up2 x 14 p (nv x p d)) (nI p) (ordN x p) (nI (p + 1 + d))
    have hps : ps n (nv x p d) := nv_ps d (by omega)
    unfold chV at h
    rw [u_X1_choose_39, up2_at (k' := 10) (by omega), h6, hp, nI_clamp (by omega), up2_same, up2_at (k' := 39 + ordN x p) (by omega), add_m1]
    refine ⟨fun _ => ⟨vp, fun c => ⟨vp, ?_⟩, fun c => ⟨vp, ps_vp hn hps c, vp, ?_⟩⟩, fun c => absurd (le_self _) c⟩
    · rw [if_pos c] at h; exact h
    · rw [if_neg c] at h
      rw [up2_at (k' := 13) (by omega)]
      exact h
  · show u_X1_choose_39 post a2 K (k + 1) (up2 x 14 p (nv x p i)) (nI p) (ordN x p) (nI (p + 1 + i))
    have hk : u_X1_choose_39 post a2 K k (up2 x 14 p (nv x p (i + 1))) (nI p) (ordN x p) (nI (p + 1 + i + 1)) := hk
    have hps : ps n (nv x p i) := nv_ps i (by omega)
    unfold nv at hk
    have b12 : up2 x 14 p (nv x p i) 12 = x 12 := up2_ne (by decide)
    have b13 : up2 x 14 p (nv x p i) 13 = x 13 := up2_ne (by decide)
    have bsg : ∀ s, s < 16 → up2 x 14 p (nv x p i) (39 + s) = x (39 + s) := fun s _ => up2_ne (by omega)
    have hs1 : vp_in (x 12 (p + 1 + i)) 16 := hO _ (by omega)
    have hf : fits2 (up2 x 14 p (nv x p i)) (ordN x p) (ordN x (p + 1 + i)) = fits2 x (ordN x p) (ordN x (p + 1 + i)) := by
      unfold fits2 apart
      rw [bsg (ordN x p) (vlt (hO p (by omega))), bsg (ordN x (p + 1 + i)) (vlt hs1)]
    have hb : bsF (up2 x 14 p (nv x p i)) (p + 1 + i) (nv x p i) = bsF x (p + 1 + i) (nv x p i) := by
      unfold bsF
      rw [b12, b13]
    rw [u_X1_choose_39, up2_at (k' := 10) (by omega), h6, nI_1, nI_clamp (by omega), nI_clamp (by omega), b12]
    refine ⟨fun c => absurd c (nI_ge (by omega) (by omega)), fun _ => ⟨vp_in_nI (by omega) (by decide), hs1, law_fitsBeside ?_⟩⟩
    show (b01 (fits2 (up2 x 14 p (nv x p i)) (ordN x p) (ordN x (p + 1 + i))) = 0 → _) ∧ (¬ b01 (fits2 (up2 x 14 p (nv x p i)) (ordN x p) (ordN x (p + 1 + i))) = 0 → _)
    rw [hf, up2_same]
    refine ⟨fun c => ?_, fun c => ⟨vp, law_betterStart hn (by omega) hps ⟨vp, ?_⟩⟩⟩
    · rw [if_neg (by rw [b01_0.mp c]; exact Bool.false_ne_true)] at hk
      exact hk
    · rw [if_pos (b01_1.mp c)] at hk
      rw [hb]
      have e : ∀ v w : Int32, up2 (up2 x 14 p v) 14 p w = up2 x 14 p w := fun v w => by
        funext k j
        by_cases q : k = 14 ∧ j = p
        · obtain ⟨rfl, rfl⟩ := q
          rw [up2_same, up2_same]
        · rw [up2_at (by omega), up2_at (by omega), up2_at (by omega)]
      rw [e]
      exact hk
end
section
/-! LAWS: the best set of songs, chosen -/
def flS (z : MS) (first : Int32) : Nat → MS × Int32
  | 0 => (up2 z 10 1 0, first)
  | m + 1 =>
    if (flS z first m).2 = -1 then flS z first m
    else (up2 (up2 (flS z first m).1 11 m ((flS z first m).1 12 (flS z first m).2.toNatClampNeg)) 10 1 (nI (m + 1)), (flS z first m).1 14 (flS z first m).2.toNatClampNeg)
theorem flS_k {z : MS} {first : Int32} {k : Nat} (h1 : k ≠ 10) (h2 : k ≠ 11) : ∀ m, (flS z first m).1 k = z k
  | 0 => up2_ne h1
  | m + 1 => by
    unfold flS
    split
    · exact flS_k h1 h2 m
    · dsimp only
      rw [up2_ne h1, up2_ne h2]
      exact flS_k h1 h2 m
theorem flS_ps {z : MS} {first : Int32} {n : Nat} (hz : ∀ j, j < n → ps n (z 14 j)) (hf : ps n first) (hn : n ≤ 16) : ∀ m, ps n (flS z first m).2
  | 0 => hf
  | m + 1 => by
    have ih := flS_ps hz hf hn m
    unfold flS
    split
    · exact ih
    · dsimp only
      rw [flS_k (by decide) (by decide)]
      rcases ih with q | ⟨j, hj, q⟩
      · rename_i c
        exact absurd q c
      · rw [q, nI_clamp (by omega)]
        exact hz j hj
theorem flS_n {z : MS} {first : Int32} : ∀ m, ¬ (flS z first m).2 = -1 → (flS z first m).1 10 1 = nI m
  | 0, _ => (show up2 z 10 1 0 10 1 = 0 from up2_same).trans nI_0.symm
  | m + 1, h => by
    unfold flS at h ⊢
    by_cases c : (flS z first m).2 = -1
    · rw [if_pos c] at h
      exact absurd c h
    · rw [if_neg c]
      dsimp only
      exact up2_same
theorem flS_stop {z : MS} {first : Int32} {m n : Nat} (h : m ≤ n) (hm : (flS z first m).2 = -1) : flS z first n = flS z first m := by
  induction n with
  | zero => obtain rfl : m = 0 := by omega
            rfl
  | succ n ih =>
    by_cases q : m = n + 1
    · subst q; rfl
    · have e := ih (by omega)
      have hn : (flS z first n).2 = -1 := by rw [e]; exact hm
      rw [← e]
      conv => lhs; unfold flS
      rw [if_pos hn]
theorem law_follow {post : MS → Prop} {z : MS} {first : Int32} {n : Nat} (hn : n ≤ 16) (hz : ∀ j, j < n → ps n (z 14 j)) (hf : ps n first) (h : post (flS z first 16).1) : w_X1_follow post z first := by
  refine ⟨17, ?_⟩
  have key : ∀ d m, m + d = 16 → u_X1_follow_7 post first (d + 1) (flS z first m).1 (flS z first m).2 := by
    intro d
    induction d with
    | zero =>
      intro m hm
      obtain rfl : m = 16 := by omega
      rw [u_X1_follow_7]
      refine ⟨fun _ => h, fun c => ⟨fun _ => h, fun e => absurd ?_ e⟩⟩
      rw [flS_n 16 c]
      decide
    | succ d ih =>
      intro m hm
      have hk := ih (m + 1) (by omega)
      rw [u_X1_follow_7]
      refine ⟨fun c => ?_, fun c => ⟨fun e => ?_, fun e => ?_⟩⟩
      · rw [flS_stop (n := 16) (by omega) c] at h
        exact h
      · rw [flS_n m c] at e
        exact absurd (show nI 16 ≤ nI m from e) (nI_ge (by omega) (by decide))
      · have v := ps_vp hn (flS_ps hz hf hn m) c
        have e1 := flS_n m c
        unfold flS at hk
        rw [if_neg c] at hk
        dsimp only at hk
        have b14 := flS_k (z := z) (first := first) (k := 14) (by decide) (by decide) m
        generalize flS z first m = y at hk v e1 c e b14 ⊢
        rw [e1, nI_clamp (by omega), up2_at (k' := 10) (by omega), e1, nI_1]
        refine ⟨v, vp_in_nI (by omega) (by decide), v, fun y6 h6 => ?_⟩
        rw [up2_at (by omega), up2_at (by omega)] at h6
        subst h6
        exact hk
  exact key 16 0 (by omega)
def fsF (σ : MS) : Nat → Int32
  | 0 => -1
  | m + 1 => bsF σ m (fsF σ m)
theorem fsF_ps {σ : MS} {n : Nat} : ∀ m, m ≤ n → ps n (fsF σ m)
  | 0, _ => Or.inl rfl
  | m + 1, h => bsF_ps (by omega) (fsF_ps m (by omega))
/-- the state when the places are all looked at; n of them -/
def chE (y : MS) (n : Nat) : MS := (flS (up2 y 10 2 (if fsF y n = -1 then 0 else y 13 (fsF y n).toNatClampNeg)) (fsF y n) 16).1
theorem law_ch137 {post : MS → Prop} {a2 : Int32} {y : MS} {n : Nat} (hn : n ≤ 16) (h6 : y 10 6 = nI n) (hz : ∀ j, j < n → ps n (y 14 j)) (h : post (chE y n)) : ∃ k, u_X1_choose_137 post a2 k y (-1) 0 := by
  refine up_loop (fun k (q : MS × Int32 × Int32) => u_X1_choose_137 post a2 k q.1 q.2.1 q.2.2) (fun i => (y, fsF y i, nI i)) n ?_ (fun i k hi hk => ?_)
  · show u_X1_choose_137 post a2 1 y (fsF y n) (nI n)
    have hf : ps n (fsF y n) := fsF_ps n (Nat.le_refl _)
    unfold chE at h
    rw [u_X1_choose_137, h6]
    have hz2 : ∀ v j, j < n → ps n (up2 y 10 2 v 14 j) := fun v j hj => by rw [up2_at (by omega)]; exact hz j hj
    refine ⟨fun _ => ⟨fun c => ?_, fun c => ⟨ps_vp hn hf c, ?_⟩⟩, fun c => absurd (le_self _) c⟩
    · rw [if_pos c] at h
      exact law_follow hn (hz2 _) hf h
    · rw [if_neg c] at h
      exact law_follow hn (hz2 _) hf h
  · show u_X1_choose_137 post a2 (k + 1) y (fsF y i) (nI i)
    rw [u_X1_choose_137, h6, nI_1]
    exact ⟨fun c => absurd c (nI_ge hi (by omega)), fun _ => law_betterStart hn hi (fsF_ps i (by omega)) hk⟩
/-- the state that choosing leaves -/
def choS (σ : MS) (pb : Int32) : MS := chE (chS (putL σ (srtL σ pb 10)) (srtL σ pb 10).length (srtL σ pb 10).length) (srtL σ pb 10).length
theorem law_choose {post : MS → Prop} {σ : MS} {pb : Int32} (h : post (choS σ pb)) : w_X1_choose post σ pb := by
  unfold w_X1_choose
  refine law_sort ?_
  have hL := (srtL_ok σ pb 10 (by decide)).1
  unfold choS at h
  generalize srtL σ pb 10 = L at h hL ⊢
  have hn := lst_len hL
  have x6 : putL σ L 10 6 = nI L.length := putL_n
  have x12 : ∀ k, k < L.length → vp_in (putL σ L 12 k) 16 := fun k hk => by
    have e : putL σ L 12 k = nI (L.getD k 0) := if_pos ⟨rfl, hk⟩
    rw [e]
    have e2 : L.getD k 0 = L[k] := by simp [List.getD, hk]
    rw [e2]
    exact vp_in_nI (hL.2 _ (List.getElem_mem hk)) (by decide)
  generalize putL σ L = x at h x6 x12 ⊢
  generalize L.length = n at h hn x6 x12 ⊢
  rw [x6]
  refine up_loop (fun k (q : MS × Int32) => u_X1_choose_13 post pb k q.1 q.2) (fun d => (chS x n d, nI (n - d) - 1)) n ?_ (fun d k hd hk => ?_)
  · show u_X1_choose_13 post pb 1 (chS x n n) (nI (n - n) - 1)
    have y6 : chS x n n 10 6 = nI n := by rw [chS_k (by decide) (by decide)]; exact x6
    have yp : ∀ j, j < n → ps n (chS x n n 14 j) := fun j hj => chS_ps n (Nat.le_refl _) j (by omega) hj
    rw [u_X1_choose_13, Nat.sub_self]
    exact ⟨fun _ => law_ch137 hn y6 yp h, fun c => absurd (by decide) c⟩
  · show u_X1_choose_13 post pb (k + 1) (chS x n d) (nI (n - d) - 1)
    have hk : u_X1_choose_13 post pb k (chV (chS x n d) (n - 1 - d) d) (nI (n - (d + 1)) - 1) := hk
    have e1 : n - d = (n - 1 - d) + 1 := by omega
    have e2 : n - (d + 1) = n - 1 - d := by omega
    rw [e2] at hk
    have y6 : chS x n d 10 6 = nI n := by rw [chS_k (by decide) (by decide)]; exact x6
    have y12 : ∀ k, k < n → vp_in (chS x n d 12 k) 16 := fun k hk => by rw [chS_k (by decide) (by decide)]; exact x12 k hk
    have vp : vp_in (nI (n - 1 - d)) 16 := vp_in_nI (by omega) (by decide)
    rw [u_X1_choose_13, e1, nI_pred, nI_clamp (by omega), nI_1]
    exact ⟨fun c => absurd c (nI_pos (by omega)), fun _ => ⟨vp, y12 _ (by omega), vp, law_ch39 hn y6 y12 (by omega) hk⟩⟩
end
section
/-! LAWS: set, ofBand, isSound -/
theorem Scr.flS (z : MS) (first : Int32) : ∀ m, Scr z (flS z first m).1 := fun m k hk => flS_k (by omega) (by omega) m
theorem Scr.cho (σ : MS) (pb : Int32) : Scr σ (choS σ pb) := by
  intro k hk
  unfold choS chE
  rw [flS_k (by omega) (by omega), up2_ne (by omega), chS_k (by omega) (by omega), putL_k (by omega) (by omega)]
def setR (y : MS) (mn : Int32) : Int32 := if mn = 0 then y 10 1 else y 10 2
def setS (σ : MS) (s : Int32) (P : Nat) : MS := choS σ (playF σ s P)
theorem Scr.set (σ : MS) (s : Int32) (P : Nat) : Scr σ (setS σ s P) := Scr.cho _ _
theorem law_T_set {post : Int32 → MS → Prop} {pex : String → MS → Prop} {σ : MS} {P B W T : Nat} {s mn : Int32} (O : Ok σ P B W T)
    (hx : ¬ (0 ≤ s ∧ s < nI (2 ^ P)) → pex xIA σ)
    (h : 0 ≤ s → s < nI (2 ^ P) → post (setR (setS σ s P) mn) (setS σ s P)) : w_T_X7_set post pex σ s mn := by
  have hP := O.hP
  unfold w_T_X7_set u_T_X7_set_14
  rw [O.h6, shl1 P hP]
  refine ⟨fun c => hx fun q => Int32.not_lt.mpr q.1 c, fun c => ⟨fun d => law_playableFor O.h6 hP (law_choose ?_), fun d => hx fun q => d q.2⟩⟩
  have hh := h (Int32.not_lt.mp c) d
  unfold setR setS at hh
  exact ⟨fun e => by rw [if_pos e] at hh; exact hh, fun e => by rw [if_neg e] at hh; exact hh⟩
theorem law_N_set {post : Int32 → MS → Prop} {σ : MS} {P B W T : Nat} {s mn : Int32} (O : Ok σ P B W T) (hs : 0 ≤ s) (hs2 : s < nI (2 ^ P))
    (hh : post (setR (setS σ s P) mn) (setS σ s P)) : w_N_X7_set post σ s mn := by
  have hP := O.hP
  unfold w_N_X7_set u_N_X7_set_14
  rw [O.h6, shl1 P hP]
  refine ⟨fun c => Int32.not_lt.mpr hs c, fun c => ⟨fun d => law_playableFor O.h6 hP (law_choose ?_), fun d => d hs2⟩⟩
  unfold setR setS at hh
  exact ⟨fun e => by rw [if_pos e] at hh; exact hh, fun e => by rw [if_neg e] at hh; exact hh⟩
def ofBF (σ : MS) (W b : Nat) (k : Nat) : Int32 := if k < 6 then σ (61 + b) k else if k = 6 then σ (55 + b) 2 else nI (fb_ct (ofBd σ (nI b) (if k = 8 then 1 else 0)) W)
theorem law_T_ofBand {post : Int32 → MS → Prop} {pex : String → MS → Prop} {σ : MS} {P B W T : Nat} {a c : Int32} (O : Ok σ P B W T)
    (hx : (∀ b, b < B → a ≠ nI b) → pex xIO σ)
    (hq : ∀ b, b < B → a = nI b → (∀ k, k ≤ 8 → c ≠ nI k) → pex xIA σ)
    (h : ∀ b k, b < B → k ≤ 8 → a = nI b → c = nI k → post (ofBF σ W b k) σ) : w_T_X7_ofBand post pex σ a c := by
  have hB := O.hB
  unfold w_T_X7_ofBand u_T_X7_ofBand_15
  refine law_T_checkBand O (fun b hb e => ?_) hx
  have hq2 := hq b hb e
  have hh := fun k hk e2 => h b k hb hk e e2
  subst e
  have hv : vp_in (nI b) 6 := vp_in_nI (by omega) (by decide)
  refine ⟨fun d => hq2 fun k hk e => ?_, fun d => ⟨fun f => ?_, fun f => hq2 fun k hk e => ?_⟩⟩
  · subst e
    exact nI_pos (by omega) d
  · obtain ⟨k, hk, rfl⟩ := nI_of d
    have hk8 : k ≤ 8 := (nI_leI hk (by decide)).mp (show nI k ≤ nI 8 from f)
    have hp := hh k hk8 rfl
    unfold ofBF at hp
    refine ⟨fun g => ?_, fun g => ?_⟩
    · have h6 : 6 ≤ k := (nI_leI (by decide) hk).mp (show nI 6 ≤ nI k from g)
      rw [if_neg (by omega)] at hp
      refine ⟨fun e => ⟨hv, ?_⟩, fun e => ⟨fun e8 => ?_, fun e8 => ?_⟩⟩
      · have : k = 6 := by rcases Nat.lt_or_ge 6 k with z | z
                           · exact absurd (by rw [e]; decide) (nI_ge z hk)
                           · omega
        subst this
        rw [nI_clamp (by omega)]
        exact hp
      · have k8 : k = 8 := by
          rcases Nat.lt_or_ge k 8 with z | z
          · exact absurd (by rw [e8]; exact le_self _) (nI_ge z (by decide))
          · omega
        subst k8
        exact law_countOfBand O.h8 O.hW hp
      · have k8 : k ≠ 8 := fun z => e8 (by rw [z]; rfl)
        have k6 : k ≠ 6 := fun z => e (by rw [z]; rfl)
        rw [if_neg k6, if_neg k8] at hp
        exact law_countOfBand O.h8 O.hW hp
    · have h6 : k < 6 := Nat.lt_of_not_le fun z => g (nI_le z hk)
      rw [if_pos h6] at hp
      refine ⟨hv, vp_in_nI h6 (by decide), ?_⟩
      rw [nI_clamp (by omega), nI_clamp (by omega)]
      exact hp
  · subst e
    exact f (show nI k ≤ nI 8 from nI_le hk (by decide))
theorem law_N_ofBand {post : Int32 → MS → Prop} {σ : MS} {P B W T b k : Nat} (O : Ok σ P B W T) (hb : b < B) (hk8 : k ≤ 8) (hp : post (ofBF σ W b k) σ) : w_N_X7_ofBand post σ (nI b) (nI k) := by
  have hB := O.hB
  unfold w_N_X7_ofBand u_N_X7_ofBand_15
  refine law_N_checkBand O hb ?_
  have hv : vp_in (nI b) 6 := vp_in_nI (by omega) (by decide)
  have hk : k < 2 ^ 31 := by omega
  refine ⟨fun d => nI_pos (by omega) d, fun d => ⟨fun f => ?_, fun f => f (show nI k ≤ nI 8 from nI_le hk8 (by decide))⟩⟩
  unfold ofBF at hp
  refine ⟨fun g => ?_, fun g => ?_⟩
  · have h6 : 6 ≤ k := (nI_leI (by decide) hk).mp (show nI 6 ≤ nI k from g)
    rw [if_neg (by omega)] at hp
    refine ⟨fun e => ⟨hv, ?_⟩, fun e => ⟨fun e8 => ?_, fun e8 => ?_⟩⟩
    · have : k = 6 := by rcases Nat.lt_or_ge 6 k with z | z
                         · exact absurd (by rw [e]; decide) (nI_ge z hk)
                         · omega
      subst this
      rw [nI_clamp (by omega)]
      exact hp
    · have k8 : k = 8 := by
        rcases Nat.lt_or_ge k 8 with z | z
        · exact absurd (by rw [e8]; exact le_self _) (nI_ge z (by decide))
        · omega
      subst k8
      exact law_countOfBand O.h8 O.hW hp
    · have k8 : k ≠ 8 := fun z => e8 (by rw [z]; rfl)
      have k6 : k ≠ 6 := fun z => e (by rw [z]; rfl)
      rw [if_neg k6, if_neg k8] at hp
      exact law_countOfBand O.h8 O.hW hp
  · have h6 : k < 6 := Nat.lt_of_not_le fun z => g (nI_le z hk)
    rw [if_pos h6] at hp
    refine ⟨hv, vp_in_nI h6 (by decide), ?_⟩
    rw [nI_clamp (by omega), nI_clamp (by omega)]
    exact hp
/-- a fixed one is sound: as many players as its band has, no other fixed one ahead of it of its band and day -/
def fixSnd (σ : MS) (w : Nat) : Bool := decide (bcI (σ (73 + w) 8) = σ (55 + bdOf σ w) 2) && !taken σ (σ (73 + w) 0) (σ (73 + w) 1) w
theorem law_isFixedOneSound {post : Int32 → MS → Prop} {σ : MS} {P B W T w : Nat} (O : Ok σ P B W T) (hw : w < 14) (h : post (b01 (fixSnd σ w)) σ) : w_X7_isFixedOneSound post σ (nI w) := by
  unfold w_X7_isFixedOneSound
  rw [nI_clamp (by omega)]
  unfold fixSnd bdOf at h
  have hb := O.band w hw
  refine ⟨vp_in_nI hw (by decide), law_bitCount ⟨hb, fun c => ⟨w + 1, ?_⟩, fun c => ?_⟩⟩
  · rw [decide_eq_true c, Bool.true_and] at h
    have key : ∀ d i, i + d = w → taken σ (σ (73 + w) 0) (σ (73 + w) 1) i = false → u_X7_isFixedOneSound_33 post (nI w) (d + 1) σ w (nI i) := by
      intro d
      induction d with
      | zero =>
        intro i hi hf
        obtain rfl : i = w := by omega
        rw [u_X7_isFixedOneSound_33]
        rw [hf] at h
        exact ⟨fun _ => h, fun c => absurd (le_self _) c⟩
      | succ d ih =>
        intro i hi hf
        have step : ¬ (σ (73 + i) 7 = 1 ∧ σ (73 + i) 0 = σ (73 + w) 0 ∧ σ (73 + i) 1 = σ (73 + w) 1) → u_X7_isFixedOneSound_33 post (nI w) (d + 1) σ w (nI (i + 1)) := fun hx => ih (i + 1) (by omega) (by unfold taken; rw [hf, decide_eq_false hx]; rfl)
        rw [u_X7_isFixedOneSound_33, nI_1, nI_clamp (by omega)]
        refine ⟨fun c => absurd c (nI_ge (by omega) (by omega)), fun _ => ⟨vp_in_nI (by omega) (by decide), fun c1 => ⟨fun c2 => ⟨fun c3 => ?_, fun c3 => step fun q => c3 q.2.2⟩, fun c2 => step fun q => c2 q.2.1⟩, fun c1 => step fun q => c1 q.1⟩⟩
        have ht : taken σ (σ (73 + w) 0) (σ (73 + w) 1) (i + 1) = true := by unfold taken; rw [decide_eq_true ⟨c1, c2, c3⟩, Bool.or_true]
        rw [taken_le (n := w) (by omega) ht] at h
        exact h
    exact key w 0 (by omega) rfl
  · rw [decide_eq_false c] at h
    exact h
def allFx (σ : MS) : Nat → Bool
  | 0 => true
  | n + 1 => allFx σ n && (!decide (σ (73 + n) 7 = 1) || fixSnd σ n)
theorem allFx_le {σ : MS} {i n : Nat} (h : i ≤ n) (ht : allFx σ i = false) : allFx σ n = false := by
  induction n with
  | zero => obtain rfl : i = 0 := by omega
            exact ht
  | succ n ih =>
    by_cases q : i = n + 1
    · subst q; exact ht
    · unfold allFx; rw [ih (by omega)]; rfl
theorem law_areFixedOnesSound {post : Int32 → MS → Prop} {σ : MS} {P B W T : Nat} (O : Ok σ P B W T) (h : post (b01 (allFx σ W)) σ) : w_X7_areFixedOnesSound post σ := by
  unfold w_X7_areFixedOnesSound
  have hW := O.hW
  have key : ∀ d i, i + d = W → allFx σ i = true → u_X7_areFixedOnesSound_2 post (d + 1) σ (nI i) := by
    intro d
    induction d with
    | zero =>
      intro i hi hf
      obtain rfl : i = W := by omega
      rw [u_X7_areFixedOnesSound_2, O.h8]
      rw [hf] at h
      exact ⟨fun _ => h, fun c => absurd (le_self _) c⟩
    | succ d ih =>
      intro i hi hf
      rw [u_X7_areFixedOnesSound_2, O.h8, nI_1, nI_clamp (by omega)]
      refine ⟨fun c => absurd c (nI_ge (by omega) (by omega)), fun _ => ⟨vp_in_nI (by omega) (by decide), fun c1 => law_isFixedOneSound O (by omega) ⟨fun c2 => ?_, fun c2 => ?_⟩, fun c1 => ?_⟩⟩
      · have ht : allFx σ (i + 1) = false := by unfold allFx; rw [hf, decide_eq_true c1, b01_0.mp c2]; rfl
        rw [allFx_le (n := W) (by omega) ht] at h
        exact h
      · exact ih (i + 1) (by omega) (by unfold allFx; rw [hf, b01_1.mp c2, Bool.or_true]; rfl)
      · exact ih (i + 1) (by omega) (by unfold allFx; rw [hf, decide_eq_false c1]; rfl)
  exact ⟨W + 1, key W 0 (by omega) rfl⟩
def paidI (σ : MS) (n : Nat) : Int32 := sumI (fun w => σ (73 + w) 11) n
def earnI (σ : MS) (n : Nat) : Int32 := sumI (fun p => σ (29 + p) 5) n
theorem law_isCashSound {post : Int32 → MS → Prop} {σ : MS} {P B W T : Nat} (O : Ok σ P B W T) (h : post (b01 (decide (σ 0 10 = paidI σ W - earnI σ P))) σ) : w_X7_isCashSound post σ := by
  have hW := O.hW
  unfold w_X7_isCashSound
  refine up_loop (fun k (q : MS × Int32 × Int32) => u_X7_isCashSound_4 post k q.1 q.2.1 q.2.2) (fun i => (σ, paidI σ i, nI i)) W ?_ (fun i k hi hk => ?_)
  · show u_X7_isCashSound_4 post 1 σ (paidI σ W) (nI W)
    rw [u_X7_isCashSound_4, O.h8]
    refine ⟨fun _ => law_allEarned O.h6 O.hP ⟨fun c => ?_, fun c => ?_⟩, fun c => absurd (le_self _) c⟩
    · rw [decide_eq_true (show σ 0 10 = paidI σ W - earnI σ P from c)] at h
      exact h
    · rw [decide_eq_false (show ¬ σ 0 10 = paidI σ W - earnI σ P from c)] at h
      exact h
  · show u_X7_isCashSound_4 post (k + 1) σ (paidI σ i) (nI i)
    rw [u_X7_isCashSound_4, O.h8, nI_1, nI_clamp (by omega)]
    exact ⟨fun c => absurd c (nI_ge hi (by omega)), fun _ => ⟨vp_in_nI (by omega) (by decide), hk⟩⟩
def hrsI (σ : MS) (n : Nat) : Int32 := sumI (fun p => σ (29 + p) 7) n
def hrsD (σ : MS) (v : Int32) : Nat → Int32
  | 0 => v
  | n + 1 => if σ (73 + n) 7 = 2 then hrsD σ v n - (σ (73 + n) 4 * bcI (σ (73 + n) 8)) else hrsD σ v n
theorem law_hrs32 {post : Int32 → MS → Prop} {σ : MS} {P B W T : Nat} {v : Int32} (O : Ok σ P B W T) (h : post (b01 (decide (hrsD σ v W = 0))) σ) : ∃ k, u_X7_areHoursSound_32 post k σ v 0 := by
  have hW := O.hW
  refine up_loop (fun k (q : MS × Int32 × Int32) => u_X7_areHoursSound_32 post k q.1 q.2.1 q.2.2) (fun i => (σ, hrsD σ v i, nI i)) W ?_ (fun i k hi hk => ?_)
  · show u_X7_areHoursSound_32 post 1 σ (hrsD σ v W) (nI W)
    rw [u_X7_areHoursSound_32, O.h8]
    refine ⟨fun _ => ⟨fun c => ?_, fun c => ?_⟩, fun c => absurd (le_self _) c⟩
    · rw [decide_eq_true c] at h
      exact h
    · rw [decide_eq_false c] at h
      exact h
  · show u_X7_areHoursSound_32 post (k + 1) σ (hrsD σ v i) (nI i)
    have hk : u_X7_areHoursSound_32 post k σ (hrsD σ v (i + 1)) (nI (i + 1)) := hk
    unfold hrsD at hk
    have vp : vp_in (nI i) 14 := vp_in_nI (by omega) (by decide)
    rw [u_X7_areHoursSound_32, O.h8, nI_1, nI_clamp (by omega)]
    refine ⟨fun c => absurd c (nI_ge hi (by omega)), fun _ => ⟨vp, fun c => ⟨vp, vp, law_bitCount ?_⟩, fun c => ?_⟩⟩
    · rw [if_pos c] at hk; exact hk
    · rw [if_neg c] at hk; exact hk
theorem law_areHoursSound {post : Int32 → MS → Prop} {σ : MS} {P B W T : Nat} (O : Ok σ P B W T) (h : post (b01 (decide (hrsD σ (hrsI σ P) W = 0))) σ) : w_X7_areHoursSound post σ := by
  have hP := O.hP
  unfold w_X7_areHoursSound
  refine up_loop (fun k (q : MS × Int32 × Int32) => u_X7_areHoursSound_4 post k q.1 q.2.1 q.2.2) (fun i => (σ, hrsI σ i, nI i)) P ?_ (fun i k hi hk => ?_)
  · show u_X7_areHoursSound_4 post 1 σ (hrsI σ P) (nI P)
    rw [u_X7_areHoursSound_4, O.h6]
    exact ⟨fun _ => law_hrs32 O h, fun c => absurd (le_self _) c⟩
  · show u_X7_areHoursSound_4 post (k + 1) σ (hrsI σ i) (nI i)
    rw [u_X7_areHoursSound_4, O.h6, nI_1, nI_clamp (by omega)]
    exact ⟨fun c => absurd c (nI_ge hi (by omega)), fun _ => ⟨vp_in_nI (by omega) (by decide), hk⟩⟩
def shrI (σ : MS) (n : Nat) : Int32 := sumI (fun s => shareF σ s) n
theorem law_areSharesSound {post : Int32 → MS → Prop} {σ : MS} (h : post (b01 (decide (¬ 1000 < shrI σ 16))) σ) : w_X7_areSharesSound post σ := by
  unfold w_X7_areSharesSound
  refine up_loop (fun k (q : MS × Int32 × Int32) => u_X7_areSharesSound_4 post k q.1 q.2.1 q.2.2) (fun i => (σ, shrI σ i, nI i)) 16 ?_ (fun i k hi hk => ?_)
  · show u_X7_areSharesSound_4 post 1 σ (shrI σ 16) (nI 16)
    rw [u_X7_areSharesSound_4]
    refine ⟨fun _ => ⟨fun c => ?_, fun c => ?_⟩, fun c => absurd (le_self _) c⟩
    · rw [decide_eq_false (fun q => q c)] at h
      exact h
    · rw [decide_eq_true c] at h
      exact h
  · show u_X7_areSharesSound_4 post (k + 1) σ (shrI σ i) (nI i)
    rw [u_X7_areSharesSound_4, nI_1, nI_clamp (by omega)]
    exact ⟨fun c => absurd (show nI 16 ≤ nI i from c) (nI_ge hi (by decide)), fun _ => ⟨vp_in_nI hi (by decide), law_shareOf hk⟩⟩
def sndB (σ : MS) (P W : Nat) : Bool := allFx σ W && (decide (σ 0 10 = paidI σ W - earnI σ P) && (decide (hrsD σ (hrsI σ P) W = 0) && decide (¬ 1000 < shrI σ 16)))
theorem law_isSound {post : Int32 → MS → Prop} {σ : MS} {P B W T : Nat} (O : Ok σ P B W T) (h : post (b01 (sndB σ P W)) σ) : w_X7_isSound post σ := by
  unfold w_X7_isSound
  unfold sndB at h
  refine law_areFixedOnesSound O ⟨fun c => ?_, fun c => law_isCashSound O ⟨fun d => ?_, fun d => law_areHoursSound O ⟨fun e => ?_, fun e => law_areSharesSound ⟨fun f => ?_, fun f => ?_⟩⟩⟩⟩
  · rw [b01_0.mp c] at h; exact h
  · rw [b01_1.mp c, b01_0.mp d] at h; exact h
  · rw [b01_1.mp c, b01_1.mp d, b01_0.mp e] at h; exact h
  · rw [b01_1.mp c, b01_1.mp d, b01_1.mp e, b01_0.mp f] at h; exact h
  · rw [b01_1.mp c, b01_1.mp d, b01_1.mp e, b01_1.mp f] at h; exact h
end
section
/-! LAWS: a wedding is played, the day ends, days pass -/
def Kp (σ σ' : MS) : Prop := ∀ k j, okPl k j → σ' k j = σ k j
theorem Kp.rf (σ : MS) : Kp σ σ := fun _ _ _ => rfl
theorem Kp.tr {a b c : MS} (h : Kp a b) (g : Kp b c) : Kp a c := fun k j hk => (g k j hk).trans (h k j hk)
theorem Kp.up {σ : MS} {k j : Nat} {v : Int32} (h : ¬ okPl k j) : Kp σ (up2 σ k j v) := fun k' j' hk => up2_at (by
  by_cases e : k' = k
  · by_cases e2 : j' = j
    · subst e; subst e2; exact absurd hk h
    · exact Or.inr e2
  · exact Or.inl e)
theorem Scr.kp {σ σ' : MS} (h : Scr σ σ') : Kp σ σ' := fun k j hk => by rw [h k (by unfold okPl at hk; omega)]
theorem Ok.kp {σ σ' : MS} {P B W T : Nat} (O : Ok σ P B W T) (h : Kp σ σ') : Ok σ' P B W T := O.same h
theorem Kp.paid (σ : MS) {w : Nat} (a : Int32) (hw : w < 14) : Kp σ (paidF σ w a) := (Kp.up (by unfold okPl; omega)).tr (Kp.up (by unfold okPl; omega))
/-- one of those on stage gets the wage -/
def wgS (x : MS) (w p : Nat) : MS := up2 (up2 (up2 (up2 x 0 10 (x 0 10 - wageF x p w)) (29 + p) 5 (x (29 + p) 5 + wageF x p w)) (29 + p) 6 (x (29 + p) 6 + 1)) (29 + p) 7 (x (29 + p) 7 + x (73 + w) 4)
theorem Kp.wg (x : MS) (w : Nat) {p : Nat} (hp : p < 10) : Kp x (wgS x w p) := (((Kp.up (by unfold okPl; omega)).tr (Kp.up (by unfold okPl; omega))).tr (Kp.up (by unfold okPl; omega))).tr (Kp.up (by unfold okPl; omega))
def pyS (x : MS) (w : Nat) : Nat → MS
  | 0 => x
  | n + 1 => if bt (pyS x w n (73 + w) 8) n = true then wgS (pyS x w n) w n else pyS x w n
theorem Kp.py (x : MS) (w : Nat) : ∀ n, n ≤ 10 → Kp x (pyS x w n)
  | 0, _ => Kp.rf x
  | n + 1, h => by
    have ih := Kp.py x w n (by omega)
    unfold pyS
    split
    · exact ih.tr (Kp.wg _ _ (by omega))
    · exact ih
/-- the songs of the row, each once more played -/
def plyS (y : MS) : Nat → MS
  | 0 => y
  | n + 1 => up2 (plyS y n) (39 + (y 11 n).toNatClampNeg) 3 (plyS y n (39 + (y 11 n).toNatClampNeg) 3 + 1)
theorem plyS_k {y : MS} {k : Nat} (h : k < 39) : ∀ n, plyS y n k = y k
  | 0 => rfl
  | n + 1 => by
    unfold plyS
    rw [up2_ne (by omega)]
    exact plyS_k h n
theorem Kp.ply {y : MS} {m : Nat} (hy : ∀ k, k < m → vp_in (y 11 k) 16) : ∀ n, n ≤ m → Kp y (plyS y n)
  | 0, _ => Kp.rf y
  | n + 1, h => (Kp.ply hy n (by omega)).tr (Kp.up (by have := vlt (hy n (by omega)); unfold okPl; omega))
/-- the row that is followed: its length, its songs -/
theorem flS_row {z : MS} {first : Int32} {n : Nat} (hn : n ≤ 16) (hz : ∀ j, j < n → ps n (z 14 j)) (hf : ps n first) (h12 : ∀ k, k < n → vp_in (z 12 k) 16) : ∀ m, m ≤ 16 → ∃ l, l ≤ m ∧ (flS z first m).1 10 1 = nI l ∧ ∀ k, k < l → vp_in ((flS z first m).1 11 k) 16
  | 0, _ => ⟨0, Nat.le_refl 0, (show up2 z 10 1 0 10 1 = 0 from up2_same).trans nI_0.symm, fun k hk => by omega⟩
  | m + 1, hm => by
    obtain ⟨l, hl, e1, e2⟩ := flS_row hn hz hf h12 m (by omega)
    have hp := flS_ps hz hf hn m
    have hs := flS_n (z := z) (first := first) m
    have h12' := flS_k (z := z) (first := first) (k := 12) (by decide) (by decide) m
    unfold flS
    by_cases c : (flS z first m).2 = -1
    · rw [if_pos c]
      exact ⟨l, by omega, e1, e2⟩
    · rw [if_neg c]
      dsimp only
      have e3 := hs c
      rw [e1] at e3
      refine ⟨m + 1, Nat.le_refl _, up2_same, fun k hk => ?_⟩
      rw [up2_ne (by omega)]
      by_cases e : k = m
      · subst e
        rw [up2_same, h12']
        rcases hp with q | ⟨j, hj, q⟩
        · exact absurd q c
        · rw [q, nI_clamp (by omega)]
          exact h12 j hj
      · have hlm : l = m ∨ l < m := by omega
        rw [up2_at (Or.inr e)]
        rcases hlm with q | q
        · exact e2 k (by omega)
        · have q2 : nI l < nI m := nI_lt q (by omega)
          rw [e3] at q2
          exact absurd q2 Int32.lt_irrefl
theorem cho_row (σ : MS) (pb : Int32) : ∃ l, l ≤ 16 ∧ choS σ pb 10 1 = nI l ∧ ∀ k, k < l → vp_in (choS σ pb 11 k) 16 := by
  have hL := (srtL_ok σ pb 10 (by decide)).1
  unfold choS
  generalize srtL σ pb 10 = L at hL ⊢
  have hn := lst_len hL
  have x12 : ∀ k, k < L.length → vp_in (putL σ L 12 k) 16 := fun k hk => by
    have e : putL σ L 12 k = nI (L.getD k 0) := if_pos ⟨rfl, hk⟩
    rw [e]
    have e2 : L.getD k 0 = L[k] := by simp [List.getD, hk]
    rw [e2]
    exact vp_in_nI (hL.2 _ (List.getElem_mem hk)) (by decide)
  generalize putL σ L = x at x12 ⊢
  generalize L.length = n at hn x12 ⊢
  unfold chE
  refine flS_row (n := n) hn (fun j hj => ?_) (fsF_ps n (Nat.le_refl _)) (fun k hk => ?_) 16 (Nat.le_refl _)
  · rw [up2_at (by omega)]
    exact chS_ps n (Nat.le_refl _) j (by omega) hj
  · rw [up2_at (by omega), chS_k (by decide) (by decide)]
    exact x12 k hk
/-- what is left of the day's wedding when its row of songs is found -/
def outX (σ : MS) (w P : Nat) : MS := pyS (paidF σ w ((σ (73 + w) 9 - σ (73 + w) 11) + extraF σ w P)) w P
def outY (σ : MS) (w P : Nat) : MS := setS (outX σ w P) (outX σ w P (73 + w) 8) P
def outS (σ : MS) (w P : Nat) : MS := up2 (plyS (outY σ w P) (outY σ w P 10 1).toNatClampNeg) (73 + w) 7 2
theorem kp_outY (σ : MS) {w P : Nat} (hw : w < 14) (hP : P ≤ 10) : Kp σ (outY σ w P) := ((Kp.paid σ _ hw).tr (Kp.py _ w P hP)).tr (Scr.set _ _ _).kp
theorem Kp.out (σ : MS) {w P : Nat} (hw : w < 14) (hP : P ≤ 10) : Kp σ (outS σ w P) := by
  unfold outS
  have hY := kp_outY σ hw hP
  obtain ⟨l, hl, e1, e2⟩ := cho_row (outX σ w P) (playF (outX σ w P) (outX σ w P (73 + w) 8) P)
  have e1 : outY σ w P 10 1 = nI l := e1
  have e2 : ∀ k, k < l → vp_in (outY σ w P 11 k) 16 := e2
  generalize outY σ w P = y at hY e1 e2 ⊢
  rw [e1, nI_clamp (by omega)]
  exact (hY.tr (Kp.ply e2 l (Nat.le_refl _))).tr (Kp.up (by unfold okPl; omega))
theorem law_py138 {post : MS → Prop} {y : MS} {w l : Nat} (hl : l ≤ 16) (e1 : y 10 1 = nI l) (e2 : ∀ k, k < l → vp_in (y 11 k) 16) (h : post (up2 (plyS y l) (73 + w) 7 2)) : ∃ k, u_X7_playOut_138 post w k y 0 := by
  refine up_loop (fun k (q : MS × Int32) => u_X7_playOut_138 post w k q.1 q.2) (fun i => (plyS y i, nI i)) l ?_ (fun i k hi hk => ?_)
  · show u_X7_playOut_138 post w 1 (plyS y l) (nI l)
    rw [u_X7_playOut_138, plyS_k (by decide), e1]
    exact ⟨fun _ => h, fun c => absurd (le_self _) c⟩
  · show u_X7_playOut_138 post w (k + 1) (plyS y i) (nI i)
    have hk : u_X7_playOut_138 post w k (plyS y (i + 1)) (nI (i + 1)) := hk
    unfold plyS at hk
    have a10 := plyS_k (y := y) (k := 10) (by decide) i
    have a11 := plyS_k (y := y) (k := 11) (by decide) i
    generalize plyS y i = x at hk a10 a11 ⊢
    rw [u_X7_playOut_138, a10, a11, e1, nI_1, nI_clamp (by omega)]
    exact ⟨fun c => absurd c (nI_ge hi (by omega)), fun _ => ⟨vp_in_nI (by omega) (by decide), e2 i hi, hk⟩⟩
theorem law_py22 {post : MS → Prop} {x : MS} {P B W T w : Nat} (O : Ok x P B W T) (hw : w < 14)
    (h : post (up2 (plyS (setS (pyS x w P) (pyS x w P (73 + w) 8) P) (setS (pyS x w P) (pyS x w P (73 + w) 8) P 10 1).toNatClampNeg) (73 + w) 7 2)) : ∃ k, u_X7_playOut_22 post w k x 0 := by
  have hP := O.hP
  refine up_loop (fun k (q : MS × Int32) => u_X7_playOut_22 post w k q.1 q.2) (fun i => (pyS x w i, nI i)) P ?_ (fun i k hi hk => ?_)
  · show u_X7_playOut_22 post w 1 (pyS x w P) (nI P)
    have Ox := O.kp (Kp.py x w P hP)
    generalize pyS x w P = y at h Ox ⊢
    rw [u_X7_playOut_22, Ox.h6]
    obtain ⟨l, hl, e1, e2⟩ := cho_row y (playF y (y (73 + w) 8) P)
    have e0 : setS y (y (73 + w) 8) P 10 1 = nI l := e1
    rw [e0, nI_clamp (by omega)] at h
    exact ⟨fun _ => law_playableFor Ox.h6 hP (law_choose (law_py138 hl e1 e2 h)), fun c => absurd (le_self _) c⟩
  · show u_X7_playOut_22 post w (k + 1) (pyS x w i) (nI i)
    have hk : u_X7_playOut_22 post w k (pyS x w (i + 1)) (nI (i + 1)) := hk
    unfold pyS at hk
    have Ox := O.kp (Kp.py x w i (by omega))
    generalize pyS x w i = y at hk Ox ⊢
    have vp : vp_in (nI i) 10 := vp_in_nI (by omega) (by decide)
    rw [u_X7_playOut_22, Ox.h6, nI_1, nI_clamp (by omega)]
    refine ⟨fun c => absurd c (nI_ge hi (by omega)), fun _ => law_has (by omega) ⟨fun c => ?_, fun c => ⟨vp, law_wageAt (Ox.home i (by omega)) (Ox.town w hw) ⟨vp, vp, fun y6 h6 => ⟨vp, fun y7 h7 y4 h4 => ?_⟩⟩⟩⟩⟩
    · rw [if_neg (by rw [b01_0.mp c]; exact Bool.false_ne_true)] at hk
      exact hk
    · rw [if_pos (b01_1.mp c)] at hk
      unfold wgS at hk
      rw [up2_at (by omega), up2_at (by omega)] at h6
      rw [up2_at (by omega), up2_at (by omega), up2_at (by omega)] at h7 h4
      subst h6
      subst h7
      subst h4
      rw [up2_at (k' := 29 + i) (j' := 5) (by omega)]
      exact hk
theorem law_playOut {post : MS → Prop} {σ : MS} {P B W T w : Nat} (O : Ok σ P B W T) (hw : w < 14) (h : post (outS σ w P)) : w_X7_playOut post σ w := by
  unfold w_X7_playOut
  exact law_extraOf O.h6 O.hP (law_getPaid (law_py22 (O.kp (Kp.paid σ _ hw)) hw h))
/-- those of today are played, one by one -/
def edA (σ : MS) (P : Nat) : Nat → MS
  | 0 => σ
  | n + 1 => if edA σ P n (73 + n) 1 = edA σ P n 0 9 ∧ edA σ P n (73 + n) 7 = 1 then outS (edA σ P n) n P else edA σ P n
def edB (σ : MS) : Nat → MS
  | 0 => σ
  | n + 1 => if edB σ n (73 + n) 1 = edB σ n 0 9 ∧ edB σ n (73 + n) 7 = 0 then up2 (edB σ n) (73 + n) 7 3 else edB σ n
theorem kp_edA (σ : MS) {P : Nat} (hP : P ≤ 10) : ∀ n, n ≤ 14 → Kp σ (edA σ P n)
  | 0, _ => Kp.rf σ
  | n + 1, h => by
    have ih := kp_edA σ hP n (by omega)
    unfold edA
    split
    · exact ih.tr (Kp.out _ (by omega) hP)
    · exact ih
theorem kp_edB (σ : MS) : ∀ n, n ≤ 14 → Kp σ (edB σ n)
  | 0, _ => Kp.rf σ
  | n + 1, h => by
    have ih := kp_edB σ n (by omega)
    unfold edB
    split
    · exact ih.tr (Kp.up (by unfold okPl; omega))
    · exact ih
def endS (σ : MS) (P W : Nat) : MS := edB (edA σ P W) W
theorem Kp.end (σ : MS) {P W : Nat} (hP : P ≤ 10) (hW : W ≤ 14) : Kp σ (endS σ P W) := (kp_edA σ hP W hW).tr (kp_edB _ W hW)
theorem law_end57 {post : MS → Prop} {σ : MS} {P B W T : Nat} (O : Ok σ P B W T) (h : post (edB σ W)) : ∃ k, u_X7_endToday_57 post k σ 0 := by
  have hW := O.hW
  refine up_loop (fun k (q : MS × Int32) => u_X7_endToday_57 post k q.1 q.2) (fun i => (edB σ i, nI i)) W ?_ (fun i k hi hk => ?_)
  · show u_X7_endToday_57 post 1 (edB σ W) (nI W)
    rw [u_X7_endToday_57, (O.kp (kp_edB σ W hW)).h8]
    exact ⟨fun _ => h, fun c => absurd (le_self _) c⟩
  · show u_X7_endToday_57 post (k + 1) (edB σ i) (nI i)
    have hk : u_X7_endToday_57 post k (edB σ (i + 1)) (nI (i + 1)) := hk
    unfold edB at hk
    have Ox := O.kp (kp_edB σ i (by omega))
    generalize edB σ i = x at hk Ox ⊢
    have vp : vp_in (nI i) 14 := vp_in_nI (by omega) (by decide)
    rw [u_X7_endToday_57, Ox.h8, nI_1, nI_clamp (by omega)]
    refine ⟨fun c => absurd c (nI_ge hi (by omega)), fun _ => ⟨vp, fun c => ⟨vp, fun d => ⟨vp, ?_⟩, fun d => ?_⟩, fun c => ?_⟩⟩
    · rw [if_pos ⟨c, d⟩] at hk; exact hk
    · rw [if_neg (fun q => d q.2)] at hk; exact hk
    · rw [if_neg (fun q => c q.1)] at hk; exact hk
theorem law_endToday {post : MS → Prop} {σ : MS} {P B W T : Nat} (O : Ok σ P B W T) (h : post (endS σ P W)) : w_X7_endToday post σ := by
  have hW := O.hW
  unfold w_X7_endToday
  refine up_loop (fun k (q : MS × Int32) => u_X7_endToday_2 post k q.1 q.2) (fun i => (edA σ P i, nI i)) W ?_ (fun i k hi hk => ?_)
  · show u_X7_endToday_2 post 1 (edA σ P W) (nI W)
    have Ox := O.kp (kp_edA σ O.hP W hW)
    rw [u_X7_endToday_2, Ox.h8]
    exact ⟨fun _ => law_end57 Ox h, fun c => absurd (le_self _) c⟩
  · show u_X7_endToday_2 post (k + 1) (edA σ P i) (nI i)
    have hk : u_X7_endToday_2 post k (edA σ P (i + 1)) (nI (i + 1)) := hk
    unfold edA at hk
    have Ox := O.kp (kp_edA σ O.hP i (by omega))
    generalize edA σ P i = x at hk Ox ⊢
    have vp : vp_in (nI i) 14 := vp_in_nI (by omega) (by decide)
    rw [u_X7_endToday_2, Ox.h8, nI_1, nI_clamp (by omega)]
    refine ⟨fun c => absurd c (nI_ge hi (by omega)), fun _ => ⟨vp, fun c => ⟨vp, fun d => ⟨vp, law_playOut Ox (by omega) ?_⟩, fun d => ?_⟩, fun c => ?_⟩⟩
    · rw [if_pos ⟨c, d⟩] at hk; exact hk
    · rw [if_neg (fun q => d q.2)] at hk; exact hk
    · rw [if_neg (fun q => c q.1)] at hk; exact hk
def dayS (σ : MS) (P W : Nat) : MS := waitL (up2 (endS σ P W) 0 9 (endS σ P W 0 9 + 1)) W
theorem Ok.tomorrow {σ : MS} {P B W T : Nat} (O : Ok σ P B W T) (hT : T < 365) : Ok (up2 σ 0 9 (σ 0 9 + 1)) P B W (T + 1) := by
  refine ⟨?_, O.hP, ?_, O.hB, ?_, O.hW, ?_, by omega, fun p hp => ?_, fun w hw => ?_, fun w hw => ?_, fun w hw => ?_, fun b hb => ?_, fun b j hb hj => ?_⟩
  · rw [up2_at (by omega)]; exact O.h6
  · rw [up2_at (by omega)]; exact O.h7
  · rw [up2_at (by omega)]; exact O.h8
  · rw [up2_same, O.h9, nI_1]
  · rw [up2_ne (by omega)]; exact O.home p hp
  · rw [up2_ne (by omega)]; exact O.band w hw
  · rw [up2_ne (by omega)]; exact O.day w hw
  · rw [up2_ne (by omega)]; exact O.town w hw
  · rw [up2_ne (by omega)]; exact O.size b hb
  · rw [up2_ne (by omega)]; exact O.place b j hb hj
theorem ok_dayS {σ : MS} {P B W T : Nat} (O : Ok σ P B W T) (hT : T < 365) : Ok (dayS σ P W) P B W (T + 1) := ((O.kp (Kp.end σ O.hP O.hW)).tomorrow hT).wait O.hW
def psS (σ : MS) (P W : Nat) : Nat → MS
  | 0 => σ
  | n + 1 => dayS (psS σ P W n) P W
theorem ok_psS {σ : MS} {P B W T : Nat} (O : Ok σ P B W T) : ∀ n, T + n ≤ 365 → Ok (psS σ P W n) P B W (T + n)
  | 0, _ => O
  | n + 1, h => ok_dayS (ok_psS O n (by omega)) (show T + n < 365 by omega)
theorem law_T_pass {post : Int32 → MS → Prop} {pex : String → MS → Prop} {σ : MS} {P B W T : Nat} {a : Int32} (O : Ok σ P B W T)
    (hx : (∀ d, 1 ≤ d → d ≤ 60 → a ≠ nI d) → pex xIA σ)
    (hs : ∀ d, 1 ≤ d → d ≤ 60 → a = nI d → 365 < T + d → pex xIS σ)
    (h : ∀ d, 1 ≤ d → d ≤ 60 → a = nI d → T + d ≤ 365 → post (nI (T + d)) (psS σ P W d)) : w_T_X7_pass post pex σ a := by
  have hT := O.hT
  unfold w_T_X7_pass u_T_X7_pass_11
  refine ⟨fun c => hx fun d h1 h2 e => ?_, fun c => ⟨fun f => ?_, fun f => hx fun d h1 h2 e => ?_⟩⟩
  · subst e
    have : nI d < nI 1 := c
    rw [nI_ltI (by omega) (by decide)] at this
    omega
  · have h0 : ¬ a < 0 := fun z => c (by
      have h1 : (0 : Int32) < 1 := by decide
      exact Int32.lt_trans z h1)
    obtain ⟨d, hd, rfl⟩ := nI_of h0
    have d1 : 1 ≤ d := Nat.le_of_not_lt fun z => c (show nI d < nI 1 from (nI_ltI hd (by decide)).mpr z)
    have d2 : d ≤ 60 := (nI_leI hd (by decide)).mp (show nI d ≤ nI 60 from f)
    rw [O.h9, nI_add]
    have hh := h d d1 d2 rfl
    have hs := hs d d1 d2 rfl
    refine ⟨fun g => ?_, fun g => hs (Nat.lt_of_not_le fun z => g (show nI (T + d) ≤ nI 365 from nI_le z (by decide)))⟩
    have g2 : T + d ≤ 365 := (nI_leI (by omega) (by decide)).mp (show nI (T + d) ≤ nI 365 from g)
    have hh := hh g2
    refine up_loop (fun k (q : MS × Int32) => u_T_X7_pass_47 post pex (nI d) k q.1 q.2) (fun i => (psS σ P W i, nI i)) d ?_ (fun i k hi hk => ?_)
    · show u_T_X7_pass_47 post pex (nI d) 1 (psS σ P W d) (nI d)
      rw [u_T_X7_pass_47, (ok_psS O d g2).h9]
      exact ⟨fun _ => hh, fun c => absurd (le_self _) c⟩
    · show u_T_X7_pass_47 post pex (nI d) (k + 1) (psS σ P W i) (nI i)
      have hk : u_T_X7_pass_47 post pex (nI d) k (dayS (psS σ P W i) P W) (nI (i + 1)) := hk
      have Ox := ok_psS O i (by omega)
      generalize psS σ P W i = x at hk Ox ⊢
      rw [u_T_X7_pass_47, nI_1]
      refine ⟨fun c => absurd c (nI_ge hi (by omega)), fun _ => law_endToday Ox ?_⟩
      have Oe := (Ox.kp (Kp.end x Ox.hP Ox.hW)).tomorrow (by omega)
      unfold dayS at hk
      generalize endS x P W = y at hk Oe ⊢
      exact law_loseThoseWhoWaited Oe.h8 Oe.hW hk
  · subst e
    exact f (show nI d ≤ nI 60 from nI_le h2 (by decide))
end
section
/-! LAWS: roads, bands -/
def shB (x : MS) (o a b : Nat) : MS :=
  if x (23 + a) o = -1 ∨ x (23 + o) b = -1 then x else up2 x (23 + a) b (if x (23 + a) b = -1 then x (23 + a) o + x (23 + o) b else if x (23 + a) o + x (23 + o) b < x (23 + a) b then x (23 + a) o + x (23 + o) b else x (23 + a) b)
def shA (x : MS) (o a : Nat) : Nat → MS
  | 0 => x
  | n + 1 => shB (shA x o a n) o a n
def shO (x : MS) (o : Nat) : Nat → MS
  | 0 => x
  | n + 1 => shA (shO x o n) o n 6
theorem kp_shB (x : MS) (o : Nat) {a : Nat} (b : Nat) (ha : a < 6) : Kp x (shB x o a b) := by
  unfold shB
  split
  · exact Kp.rf _
  · exact Kp.up (by unfold okPl; omega)
theorem Kp.shA (x : MS) (o : Nat) {a : Nat} (ha : a < 6) : ∀ n, Kp x (shA x o a n)
  | 0 => Kp.rf x
  | n + 1 => (Kp.shA x o ha n).tr (kp_shB _ _ _ ha)
theorem Kp.shO (x : MS) (o : Nat) : ∀ n, n ≤ 6 → Kp x (shO x o n)
  | 0, _ => Kp.rf x
  | n + 1, h => (Kp.shO x o n (by omega)).tr (Kp.shA _ _ (by omega) 6)
theorem law_sh10 {post : MS → Prop} {K : MS → Int32 → Prop} {x : MS} {o a : Nat} (ho : o < 6) (ha : a < 6) (h : K (shA x o a 6) (nI (a + 1))) : ∃ k, u_X4_shortenOver_10 post (nI o) K k x (nI a) 0 := by
  obtain ⟨N, hN⟩ : ∃ N, 6 = N := ⟨6, rfl⟩
  have e6 : (6 : Int32) = nI N := by rw [← hN]; rfl
  rw [hN] at h
  refine up_loop (fun k (q : MS × Int32) => u_X4_shortenOver_10 post (nI o) K k q.1 (nI a) q.2) (fun i => (shA x o a i, nI i)) N ?_ (fun i k hi hk => ?_)
  · show u_X4_shortenOver_10 post (nI o) K 1 (shA x o a N) (nI a) (nI N)
    rw [u_X4_shortenOver_10, nI_1, e6]
    exact ⟨fun _ => h, fun c => absurd (le_self _) c⟩
  · show u_X4_shortenOver_10 post (nI o) K (k + 1) (shA x o a i) (nI a) (nI i)
    have hk : u_X4_shortenOver_10 post (nI o) K k (shB (shA x o a i) o a i) (nI a) (nI (i + 1)) := hk
    generalize shA x o a i = y at hk ⊢
    unfold shB at hk
    have va : vp_in (nI a) 6 := vp_in_nI ha (by decide)
    have vo : vp_in (nI o) 6 := vp_in_nI ho (by decide)
    have vi : vp_in (nI i) 6 := vp_in_nI (by omega) (by decide)
    rw [u_X4_shortenOver_10, nI_1, nI_1, nI_clamp (show a < 2 ^ 31 by omega), nI_clamp (show o < 2 ^ 31 by omega), nI_clamp (show i < 2 ^ 31 by omega), e6]
    refine ⟨fun c => absurd c (nI_ge hi (by omega)), fun _ => ⟨va, vo, fun c => ?_, fun c => ⟨vo, vi, fun d => ?_, fun d => ⟨va, vo, vo, vi, va, va, vi, fun e => ⟨vi, ?_⟩, fun e => ⟨va, vi, vi, ?_⟩⟩⟩⟩⟩
    · rw [if_pos (Or.inl c)] at hk; exact hk
    · rw [if_pos (Or.inr d)] at hk; exact hk
    · rw [if_neg (fun q => q.elim c d), if_pos e] at hk; exact hk
    · rw [if_neg (fun q => q.elim c d), if_neg e] at hk; exact hk
theorem law_shortenOver {post : MS → Prop} {x : MS} {o : Nat} (ho : o < 6) (h : post (shO x o 6)) : w_X4_shortenOver post x (nI o) := by
  unfold w_X4_shortenOver
  obtain ⟨N, hN⟩ : ∃ N, 6 = N := ⟨6, rfl⟩
  have e6 : (6 : Int32) = nI N := by rw [← hN]; rfl
  rw [hN] at h
  refine up_loop (fun k (q : MS × Int32) => u_X4_shortenOver_2 post (nI o) k q.1 q.2) (fun i => (shO x o i, nI i)) N ?_ (fun i k hi hk => ?_)
  · show u_X4_shortenOver_2 post (nI o) 1 (shO x o N) (nI N)
    rw [u_X4_shortenOver_2, e6]
    exact ⟨fun _ => h, fun c => absurd (le_self _) c⟩
  · show u_X4_shortenOver_2 post (nI o) (k + 1) (shO x o i) (nI i)
    dsimp only at hk
    unfold shO at hk
    generalize shO x o i = y at hk ⊢
    rw [u_X4_shortenOver_2, e6]
    exact ⟨fun c => absurd c (nI_ge hi (by omega)), fun _ => law_sh10 ho (by omega) hk⟩
def ovS (x : MS) : Nat → MS
  | 0 => x
  | n + 1 => shO (ovS x n) n 6
theorem Kp.ov (x : MS) : ∀ n, Kp x (ovS x n)
  | 0 => Kp.rf x
  | n + 1 => (Kp.ov x n).tr (Kp.shO _ _ 6 (by decide))
def lyV (x : MS) (a b : Nat) : Int32 := if a = b then 0 else if x (17 + a) b = 0 then -1 else x (17 + a) b
def lyB (x : MS) (a : Nat) : Nat → MS
  | 0 => x
  | n + 1 => up2 (lyB x a n) (23 + a) n (lyV (lyB x a n) a n)
def lyA (x : MS) : Nat → MS
  | 0 => x
  | n + 1 => lyB (lyA x n) n 6
theorem Kp.lyB (x : MS) {a : Nat} (ha : a < 6) : ∀ n, Kp x (lyB x a n)
  | 0 => Kp.rf x
  | n + 1 => (Kp.lyB x ha n).tr (Kp.up (by unfold okPl; omega))
theorem Kp.lyA (x : MS) : ∀ n, n ≤ 6 → Kp x (lyA x n)
  | 0, _ => Kp.rf x
  | n + 1, h => (Kp.lyA x n (by omega)).tr (Kp.lyB _ (by omega) 6)
def layS (x : MS) (i j : Nat) (h : Int32) : MS := ovS (lyA (up2 (up2 x (17 + i) j h) (17 + j) i h) 6) 6
theorem Kp.lay (x : MS) {i j : Nat} {h : Int32} (hi : i < 6) (hj : j < 6) : Kp x (layS x i j h) := ((((Kp.up (by unfold okPl; omega)).tr (Kp.up (by unfold okPl; omega))).tr (Kp.lyA _ 6 (by decide))).tr (Kp.ov _ 6))
theorem law_ly101 {post : MS → Prop} {a1 a2 a3 : Int32} {x : MS} (h : post (ovS x 6)) : ∃ k, u_X4_lay_101 post a1 a2 a3 k x 0 := by
  obtain ⟨N, hN⟩ : ∃ N, 6 = N := ⟨6, rfl⟩
  have e6 : (6 : Int32) = nI N := by rw [← hN]; rfl
  rw [hN] at h
  refine up_loop (fun k (q : MS × Int32) => u_X4_lay_101 post a1 a2 a3 k q.1 q.2) (fun i => (ovS x i, nI i)) N ?_ (fun i k hi hk => ?_)
  · show u_X4_lay_101 post a1 a2 a3 1 (ovS x N) (nI N)
    rw [u_X4_lay_101, e6]
    exact ⟨fun _ => h, fun c => absurd (le_self _) c⟩
  · show u_X4_lay_101 post a1 a2 a3 (k + 1) (ovS x i) (nI i)
    dsimp only at hk
    unfold ovS at hk
    generalize ovS x i = y at hk ⊢
    rw [u_X4_lay_101, nI_1, e6]
    exact ⟨fun c => absurd c (nI_ge hi (by omega)), fun _ => law_shortenOver (by omega) hk⟩
theorem law_ly31 {post : MS → Prop} {a1 a2 a3 : Int32} {K : MS → Int32 → Prop} {x : MS} {a : Nat} (ha : a < 6) (h : K (lyB x a 6) (nI (a + 1))) : ∃ k, u_X4_lay_31 post a1 a2 a3 K k x (nI a) 0 := by
  obtain ⟨N, hN⟩ : ∃ N, 6 = N := ⟨6, rfl⟩
  have e6 : (6 : Int32) = nI N := by rw [← hN]; rfl
  rw [hN] at h
  refine up_loop (fun k (q : MS × Int32) => u_X4_lay_31 post a1 a2 a3 K k q.1 (nI a) q.2) (fun i => (lyB x a i, nI i)) N ?_ (fun i k hi hk => ?_)
  · show u_X4_lay_31 post a1 a2 a3 K 1 (lyB x a N) (nI a) (nI N)
    rw [u_X4_lay_31, nI_1, e6]
    exact ⟨fun _ => h, fun c => absurd (le_self _) c⟩
  · show u_X4_lay_31 post a1 a2 a3 K (k + 1) (lyB x a i) (nI a) (nI i)
    have hk : u_X4_lay_31 post a1 a2 a3 K k (lyB x a (i + 1)) (nI a) (nI (i + 1)) := hk
    unfold lyB at hk
    generalize lyB x a i = y at hk ⊢
    unfold lyV at hk
    have va : vp_in (nI a) 6 := vp_in_nI ha (by decide)
    have vi : vp_in (nI i) 6 := vp_in_nI (by omega) (by decide)
    rw [u_X4_lay_31, nI_1, nI_1, nI_clamp (show a < 2 ^ 31 by omega), nI_clamp (show i < 2 ^ 31 by omega), e6]
    have hne : a ≠ i → ¬ nI a = nI i := fun q z => by
      have := congrArg Int32.toNatClampNeg z
      rw [nI_clamp (by omega), nI_clamp (by omega)] at this
      exact q this
    refine ⟨fun c => absurd c (nI_ge hi (by omega)), fun _ => ⟨va, fun c => ⟨vi, ?_⟩, fun c => ⟨va, vi, fun d => ⟨vi, ?_⟩, fun d => ⟨va, vi, vi, ?_⟩⟩⟩⟩
    · have e : a = i := Decidable.byContradiction fun q => hne q c
      rw [if_pos e] at hk; exact hk
    · rw [if_neg (fun q => c (by rw [q])), if_pos d] at hk; exact hk
    · rw [if_neg (fun q => c (by rw [q])), if_neg d] at hk; exact hk
theorem law_lay {post : MS → Prop} {x : MS} {i j : Nat} {v : Int32} (hi : i < 6) (hj : j < 6) (h : post (layS x i j v)) : w_X4_lay post x (nI i) (nI j) v := by
  have vi : vp_in (nI i) 6 := vp_in_nI hi (by decide)
  have vj : vp_in (nI j) 6 := vp_in_nI hj (by decide)
  unfold w_X4_lay
  unfold layS at h
  rw [nI_clamp (show i < 2 ^ 31 by omega), nI_clamp (show j < 2 ^ 31 by omega)]
  refine ⟨vi, vj, vj, vi, ?_⟩
  generalize up2 (up2 x (17 + i) j v) (17 + j) i v = y at h ⊢
  obtain ⟨N, hN⟩ : ∃ N, 6 = N := ⟨6, rfl⟩
  have e6 : (6 : Int32) = nI N := by rw [← hN]; rfl
  have h : post (ovS (lyA y N) 6) := by rw [← hN]; exact h
  refine up_loop (fun k (q : MS × Int32) => u_X4_lay_21 post (nI i) (nI j) v k q.1 q.2) (fun i => (lyA y i, nI i)) N ?_ (fun i' k hi' hk => ?_)
  · show u_X4_lay_21 post (nI i) (nI j) v 1 (lyA y N) (nI N)
    rw [u_X4_lay_21, e6]
    exact ⟨fun _ => law_ly101 h, fun c => absurd (le_self _) c⟩
  · show u_X4_lay_21 post (nI i) (nI j) v (k + 1) (lyA y i') (nI i')
    have hk : u_X4_lay_21 post (nI i) (nI j) v k (lyA y (i' + 1)) (nI (i' + 1)) := hk
    unfold lyA at hk
    generalize lyA y i' = z at hk ⊢
    rw [u_X4_lay_21, e6]
    exact ⟨fun c => absurd c (nI_ge hi' (by omega)), fun _ => law_ly31 (by omega) hk⟩
def rdOk (a b h : Int32) : Prop := ¬ a = b ∧ ¬ h < 0 ∧ h ≤ 9
theorem law_T_road {post : Int32 → MS → Prop} {pex : String → MS → Prop} {σ : MS} {a b h : Int32}
    (hx : ((∀ p, p < 6 → a ≠ nI p) ∨ (∀ p, p < 6 → b ≠ nI p)) → pex xIO σ)
    (hq : ∀ i j, i < 6 → j < 6 → a = nI i → b = nI j → ¬ rdOk a b h → pex xIA σ)
    (hp : ∀ i j, i < 6 → j < 6 → a = nI i → b = nI j → rdOk a b h → post (layS σ i j h (23 + i) j) (layS σ i j h)) : w_T_X7_road post pex σ a b h := by
  unfold w_T_X7_road u_T_X7_road_23
  refine law_T_checkTown (fun i hi e => law_T_checkTown (fun j hj e2 => ?_) (fun z => hx (Or.inr z))) (fun z => hx (Or.inl z))
  have hq := hq i j hi hj e e2
  have hp := hp i j hi hj e e2
  refine ⟨fun c => hq fun z => z.1 c, fun c => ⟨fun d => hq fun z => z.2.1 d, fun d => ⟨fun f => ?_, fun f => hq fun z => f z.2.2⟩⟩⟩
  have hp2 := hp ⟨c, d, f⟩
  subst e
  subst e2
  refine law_lay hi hj (law_between (vp_in_nI hi (by decide)) (vp_in_nI hj (by decide)) ?_)
  unfold wayF
  rw [nI_clamp (show i < 2 ^ 31 by omega), nI_clamp (show j < 2 ^ 31 by omega)]
  exact hp2
/-! bands -/
def szI (a : Int32) : Nat → Int32 × Int32
  | 0 => (0, a)
  | n + 1 => ((szI a n).1 + ((szI a n).2 - (szI a n).2 / 3 * 3), (szI a n).2 / 3)
theorem law_sizeOf {post : Int32 → MS → Prop} {σ : MS} {a : Int32} (h : post (szI a 6).1 σ) : w_X7_sizeOf post σ a := by
  unfold w_X7_sizeOf
  obtain ⟨N, hN⟩ : ∃ N, 6 = N := ⟨6, rfl⟩
  have e6 : (6 : Int32) = nI N := by rw [← hN]; rfl
  rw [hN] at h
  refine up_loop (fun k (q : Int32 × Int32 × Int32) => u_X7_sizeOf_6 post a k σ q.1 q.2.1 q.2.2) (fun i => ((szI a i).1, (szI a i).2, nI i)) N ?_ (fun i k hi hk => ?_)
  · show u_X7_sizeOf_6 post a 1 σ (szI a N).1 (szI a N).2 (nI N)
    rw [u_X7_sizeOf_6, e6]
    exact ⟨fun _ => h, fun c => absurd (le_self _) c⟩
  · show u_X7_sizeOf_6 post a (k + 1) σ (szI a i).1 (szI a i).2 (nI i)
    rw [u_X7_sizeOf_6, nI_1, e6]
    exact ⟨fun c => absurd c (nI_ge hi (by omega)), fun _ => hk⟩
def tkI (x : MS) (b k : Nat) : Nat → MS
  | 0 => x
  | n + 1 => if 5 ≤ tkI x b k n (55 + b) 2 then tkI x b k n else up2 (up2 (tkI x b k n) (67 + b) (tkI x b k n (55 + b) 2).toNatClampNeg (nI k)) (55 + b) 2 (tkI x b k n (55 + b) 2 + 1)
theorem tkI_n {x : MS} {b k : Nat} (hb : b < 6) : ∀ n, tkI x b k n (61 + b) = x (61 + b)
  | 0 => rfl
  | n + 1 => by
    have ih := tkI_n (x := x) (k := k) hb n
    unfold tkI
    split
    · exact ih
    · rw [up2_ne (by omega), up2_ne (by omega)]
      exact ih
theorem tkI_s {x : MS} {b k s : Nat} (hs : s ≤ 5) (h : x (55 + b) 2 = nI s) : ∀ n, ∃ t, s ≤ t ∧ t ≤ 5 ∧ tkI x b k n (55 + b) 2 = nI t
  | 0 => ⟨s, Nat.le_refl s, hs, h⟩
  | n + 1 => by
    obtain ⟨t, h1, h2, h3⟩ := tkI_s (k := k) hs h n
    unfold tkI
    split
    · exact ⟨t, h1, h2, h3⟩
    · rename_i c
      rw [h3] at c ⊢
      have : t < 5 := Nat.lt_of_not_le fun z => c (show nI 5 ≤ nI t from nI_le z (by omega))
      exact ⟨t + 1, by omega, by omega, by rw [up2_same, nI_1]⟩
theorem tkI_stop {x : MS} {b k i n : Nat} (hi : i ≤ n) (h : 5 ≤ tkI x b k i (55 + b) 2) : tkI x b k n = tkI x b k i := by
  induction n with
  | zero => obtain rfl : i = 0 := by omega
            rfl
  | succ n ih =>
    by_cases q : i = n + 1
    · subst q; rfl
    · have e := ih (by omega)
      rw [← e]
      conv => lhs; unfold tkI
      rw [if_pos (by rw [e]; exact h)]
theorem law_tk26 {post : MS → Prop} {a1 v : Int32} {K : MS → Int32 → Int32 → Prop} {x : MS} {b k s r : Nat} (hb : b < 6) (hk6 : k < 6) (hs : s ≤ 5) (h : x (55 + b) 2 = nI s) (hr : r < 2 ^ 31) (hn : x (61 + b) k = nI r) (hK : K (tkI x b k r) v (nI (k + 1))) : ∃ n, u_X0_take_26 post b a1 K n x v (nI k) 0 := by
  refine up_loop (fun n (q : MS × Int32) => u_X0_take_26 post b a1 K n q.1 v (nI k) q.2) (fun i => (tkI x b k i, nI i)) r ?_ (fun i n hi hk => ?_)
  · show u_X0_take_26 post b a1 K 1 (tkI x b k r) v (nI k) (nI r)
    rw [u_X0_take_26, nI_1, nI_clamp (show k < 2 ^ 31 by omega), tkI_n hb, hn]
    exact ⟨vp_in_nI hk6 (by decide), fun _ => hK, fun c => absurd (le_self _) c⟩
  · show u_X0_take_26 post b a1 K (n + 1) (tkI x b k i) v (nI k) (nI i)
    have hk : u_X0_take_26 post b a1 K n (tkI x b k (i + 1)) v (nI k) (nI (i + 1)) := hk
    obtain ⟨t, t1, t2, t3⟩ := tkI_s (k := k) hs h i
    have hst := tkI_stop (x := x) (b := b) (k := k) (i := i) (n := r) (by omega)
    have e61 := tkI_n (x := x) (k := k) hb i
    unfold tkI at hk
    generalize tkI x b k i = y at hk t3 hst e61 ⊢
    rw [u_X0_take_26, nI_1, nI_1, nI_clamp (show k < 2 ^ 31 by omega), e61, hn, t3, nI_clamp (show t < 2 ^ 31 by omega)]
    rw [t3] at hk hst
    refine ⟨vp_in_nI hk6 (by decide), fun c => absurd c (nI_ge hi hr), fun _ => ⟨fun c => ?_, fun c => ?_⟩⟩
    · rw [hst c] at hK
      exact hK
    · rw [if_neg c, nI_clamp (show t < 2 ^ 31 by omega)] at hk
      have : t < 5 := Nat.lt_of_not_le fun z => c (show nI 5 ≤ nI t from nI_le z (by omega))
      refine ⟨vp_in_nI this (by decide), ?_⟩
      rw [up2_at (k' := 55 + b) (by omega), t3]
      exact hk
theorem dv3 : ∀ m, m ≤ 728 → nI m / 3 = nI (m / 3) ∧ nI m - nI m / 3 * 3 = nI (m % 3) := by decide +kernel
def tkO (x : MS) (b : Nat) (a : Int32) : Nat → MS × Int32
  | 0 => (x, a)
  | n + 1 => (tkI (up2 (tkO x b a n).1 (61 + b) n ((tkO x b a n).2 - (tkO x b a n).2 / 3 * 3)) b n ((tkO x b a n).2 - (tkO x b a n).2 / 3 * 3).toNatClampNeg, (tkO x b a n).2 / 3)
theorem tkO_2 {x : MS} {b m : Nat} (hm : m ≤ 728) : ∀ n, (tkO x b (nI m) n).2 = nI (m / 3 ^ n)
  | 0 => by rw [Nat.pow_zero, Nat.div_one]; rfl
  | n + 1 => by
    show (tkO x b (nI m) n).2 / 3 = _
    rw [tkO_2 hm n, (dv3 _ (Nat.le_trans (Nat.div_le_self _ _) hm)).1, Nat.pow_succ, Nat.div_div_eq_div_mul]
theorem tkO_s {x : MS} {b : Nat} {a : Int32} {s : Nat} (hs : s ≤ 5) (h : x (55 + b) 2 = nI s) (hb : b < 6) : ∀ n, ∃ t, s ≤ t ∧ t ≤ 5 ∧ (tkO x b a n).1 (55 + b) 2 = nI t
  | 0 => ⟨s, Nat.le_refl s, hs, h⟩
  | n + 1 => by
    obtain ⟨t, h1, h2, h3⟩ := tkO_s (a := a) hs h hb n
    obtain ⟨u, g1, g2, g3⟩ := tkI_s (x := up2 (tkO x b a n).1 (61 + b) n ((tkO x b a n).2 - (tkO x b a n).2 / 3 * 3)) (b := b) (k := n) (s := t) h2 (by rw [up2_ne (by omega)]; exact h3) ((tkO x b a n).2 - (tkO x b a n).2 / 3 * 3).toNatClampNeg
    exact ⟨u, by omega, g2, g3⟩
theorem law_take {post : MS → Prop} {x : MS} {b m s : Nat} (hb : b < 6) (hm : m ≤ 728) (hs : s ≤ 5) (hx : x (55 + b) 2 = nI s) (h : post (tkO x b (nI m) 6).1) : w_X0_take post x b (nI m) := by
  unfold w_X0_take
  obtain ⟨N, hN⟩ : ∃ N, 6 = N := ⟨6, rfl⟩
  have e6 : (6 : Int32) = nI N := by rw [← hN]; rfl
  rw [hN] at h
  refine up_loop (fun k (q : MS × Int32 × Int32) => u_X0_take_4 post b (nI m) k q.1 q.2.1 q.2.2) (fun i => ((tkO x b (nI m) i).1, (tkO x b (nI m) i).2, nI i)) N ?_ (fun i k hi hk => ?_)
  · show u_X0_take_4 post b (nI m) 1 (tkO x b (nI m) N).1 (tkO x b (nI m) N).2 (nI N)
    rw [u_X0_take_4, e6]
    exact ⟨fun _ => h, fun c => absurd (le_self _) c⟩
  · show u_X0_take_4 post b (nI m) (k + 1) (tkO x b (nI m) i).1 (tkO x b (nI m) i).2 (nI i)
    have hk : u_X0_take_4 post b (nI m) k (tkO x b (nI m) (i + 1)).1 (tkO x b (nI m) (i + 1)).2 (nI (i + 1)) := hk
    obtain ⟨t, h1, h2, h3⟩ := tkO_s (a := nI m) hs hx hb i
    have e2 := tkO_2 (x := x) (b := b) hm i
    unfold tkO at hk
    have hle : m / 3 ^ i ≤ 728 := Nat.le_trans (Nat.div_le_self _ _) hm
    have d := dv3 _ hle
    generalize tkO x b (nI m) i = y at hk h3 e2 ⊢
    rw [e2, d.2, nI_clamp (show m / 3 ^ i % 3 < 2 ^ 31 by omega)] at hk
    rw [u_X0_take_4, e2, d.2, nI_clamp (show i < 2 ^ 31 by omega), e6]
    refine ⟨fun c => absurd c (nI_ge hi (by omega)), fun _ => ⟨vp_in_nI (by omega) (by decide), law_tk26 (s := t) (r := m / 3 ^ i % 3) hb (by omega) h2 (by rw [up2_ne (by omega)]; exact h3) (by omega) up2_same hk⟩⟩
/-! what a new band changes -/
def bdPl (b k j : Nat) : Prop := (k = 55 + b ∧ j = 2) ∨ k = 61 + b ∨ k = 67 + b
theorem tkI_k {x : MS} {b k : Nat} {k' j' : Nat} (h : ¬ bdPl b k' j') : ∀ n, tkI x b k n k' j' = x k' j'
  | 0 => rfl
  | n + 1 => by
    have ih := tkI_k (x := x) (k := k) h n
    unfold bdPl at h
    unfold tkI
    split
    · exact ih
    · rw [up2_at (by omega), up2_at (by omega)]
      exact ih
theorem tkO_k {x : MS} {b : Nat} {a : Int32} {k' j' : Nat} (h : ¬ bdPl b k' j') : ∀ n, (tkO x b a n).1 k' j' = x k' j'
  | 0 => rfl
  | n + 1 => by
    have ih := tkO_k (x := x) (a := a) h n
    show tkI (up2 (tkO x b a n).1 (61 + b) n ((tkO x b a n).2 - (tkO x b a n).2 / 3 * 3)) b n ((tkO x b a n).2 - (tkO x b a n).2 / 3 * 3).toNatClampNeg k' j' = _
    rw [tkI_k h]
    unfold bdPl at h
    rw [up2_at (by omega)]
    exact ih
theorem tkI_p {x : MS} {b k j : Nat} {Q : Nat → Prop} (hQ : Q k) (h : ∃ q, Q q ∧ x (67 + b) j = nI q) : ∀ n, ∃ q, Q q ∧ tkI x b k n (67 + b) j = nI q
  | 0 => h
  | n + 1 => by
    have ih := tkI_p (k := k) hQ h n
    unfold tkI
    split
    · exact ih
    · by_cases e : j = (tkI x b k n (55 + b) 2).toNatClampNeg
      · refine ⟨k, hQ, ?_⟩
        rw [up2_at (by omega), e, up2_same]
      · rw [up2_at (by omega), up2_at (by omega)]
        exact ih
theorem tkO_p {x : MS} {b j : Nat} {a : Int32} (h : ∃ q, q < 6 ∧ x (67 + b) j = nI q) : ∀ n, n ≤ 6 → ∃ q, q < 6 ∧ (tkO x b a n).1 (67 + b) j = nI q
  | 0, _ => h
  | n + 1, hn => by
    have ih := tkO_p (a := a) h n (by omega)
    refine tkI_p (Q := fun q => q < 6) (show n < 6 by omega) ?_ _
    rw [up2_at (by omega)]
    exact ih
def bandS (σ : MS) (B m : Nat) : MS := up2 (tkO σ B (nI m) 6).1 0 7 (nI (B + 1))
theorem Ok.band1 {σ : MS} {P B W T m : Nat} (O : Ok σ P B W T) (hB : B < 6) : Ok (bandS σ B m) P (B + 1) W T := by
  unfold bandS
  obtain ⟨s0, hs0, es0⟩ := O.size B hB
  refine ⟨?_, O.hP, ?_, by omega, ?_, O.hW, ?_, O.hT, fun p hp => ?_, fun w hw => ?_, fun w hw => ?_, fun w hw => ?_, fun b hb => ?_, fun b j hb hj => ?_⟩
  · rw [up2_at (by omega), tkO_k (by unfold bdPl; omega)]; exact O.h6
  · rw [up2_same]
  · rw [up2_at (by omega), tkO_k (by unfold bdPl; omega)]; exact O.h8
  · rw [up2_at (by omega), tkO_k (by unfold bdPl; omega)]; exact O.h9
  · rw [up2_ne (by omega), tkO_k (by unfold bdPl; omega)]; exact O.home p hp
  · rw [up2_ne (by omega), tkO_k (by unfold bdPl; omega)]; exact O.band w hw
  · rw [up2_ne (by omega), tkO_k (by unfold bdPl; omega)]; exact O.day w hw
  · rw [up2_ne (by omega), tkO_k (by unfold bdPl; omega)]; exact O.town w hw
  · rw [up2_ne (by omega)]
    by_cases e : b = B
    · subst e
      obtain ⟨t, _, h2, h3⟩ := tkO_s (a := nI m) hs0 es0 hB 6
      exact ⟨t, h2, h3⟩
    · rw [tkO_k (by unfold bdPl; omega)]; exact O.size b hb
  · rw [up2_ne (by omega)]
    by_cases e : b = B
    · subst e
      exact tkO_p (O.place b j hb hj) 6 (by decide)
    · rw [tkO_k (by unfold bdPl; omega)]; exact O.place b j hb hj
theorem law_T_band {post : Int32 → MS → Prop} {pex : String → MS → Prop} {σ : MS} {P B W T : Nat} {a : Int32} (O : Ok σ P B W T)
    (hx : (∀ m, 1 ≤ m → m ≤ 728 → a = nI m → ¬ (szI (nI m) 6).1 ≤ 5) → pex xIA σ)
    (hs : ∀ m, 1 ≤ m → m ≤ 728 → a = nI m → (szI (nI m) 6).1 ≤ 5 → 6 ≤ B → pex xIS σ)
    (h : ∀ m, 1 ≤ m → m ≤ 728 → a = nI m → (szI (nI m) 6).1 ≤ 5 → B < 6 → post (nI B) (bandS σ B m)) : w_T_X7_band post pex σ a := by
  have hB := O.hB
  unfold w_T_X7_band u_T_X7_band_20
  refine ⟨fun c => hx fun m m1 m2 e => ?_, fun c => ⟨fun d => hx fun m m1 m2 e => ?_, fun d => law_sizeOf ⟨fun e => ?_, fun e => hx fun m m1 m2 f => ?_⟩⟩⟩
  · subst e
    have : nI m < nI 1 := c
    rw [nI_ltI (by omega) (by decide)] at this
    omega
  · subst e
    have : nI 728 < nI m := d
    rw [nI_ltI (by omega) (by omega)] at this
    omega
  · have h0 : ¬ a < 0 := fun z => c (by
      have h1 : (0 : Int32) < 1 := by decide
      exact Int32.lt_trans z h1)
    obtain ⟨m, hm, rfl⟩ := nI_of h0
    have d1 : 1 ≤ m := Nat.le_of_not_lt fun z => c (show nI m < nI 1 from (nI_ltI hm (by decide)).mpr z)
    have d2 : m ≤ 728 := Nat.le_of_not_lt fun z => d (show nI 728 < nI m from (nI_ltI (by decide) hm).mpr z)
    have h := h m d1 d2 rfl e
    have hs := hs m d1 d2 rfl e
    rw [O.h7]
    refine ⟨fun f => ?_, fun f => hs (Nat.le_of_not_lt fun z => f (show nI B < nI 6 from nI_lt z (by decide)))⟩
    have f2 : B < 6 := (nI_ltI (by omega) (by decide)).mp (show nI B < nI 6 from f)
    have h := h f2
    obtain ⟨s0, hs0, es0⟩ := O.size B f2
    rw [nI_clamp (show B < 2 ^ 31 by omega)]
    refine ⟨vp_in_nI f2 (by decide), law_take (s := s0) f2 d2 hs0 es0 ?_⟩
    rw [up2_same, tkO_k (by unfold bdPl; omega), O.h7, nI_1, nI_pred]
    exact h
  · subst f
    exact e
end
section
/-! LAWS: how many bits; plan -/
theorem bc_1 : ∀ i, i < 14 → bcI (one i) = 1 := by decide +kernel
theorem bc_2 : ∀ i, i < 14 → ∀ j, j < 14 → i < j → bcI (one i ||| one j) = 2 := by decide +kernel
theorem bc_3 : ∀ i, i < 14 → ∀ j, j < 14 → i < j → ∀ k, k < 14 → j < k → bcI (one i ||| one j ||| one k) = 3 := by decide +kernel
theorem shl14 : ∀ n, n ≤ 14 → (1 : Int32) <<< (nI n &&& 31) = nI (2 ^ n) := by decide +kernel
/-- three at most, of the first n -/
def few (n : Nat) (v : Int32) : Prop := v = 0 ∨ (∃ i, i < n ∧ v = one i) ∨ (∃ i j, i < j ∧ j < n ∧ v = (one i ||| one j)) ∨ (∃ i j k, i < j ∧ j < k ∧ k < n ∧ v = (one i ||| one j ||| one k))
theorem few_bc {n : Nat} {v : Int32} (hn : n ≤ 14) (h : few n v) : ∃ c, c ≤ 3 ∧ bcI v = nI c := by
  rcases h with rfl | ⟨i, h1, rfl⟩ | ⟨i, j, h1, h2, rfl⟩ | ⟨i, j, k, h1, h2, h3, rfl⟩
  · exact ⟨0, by decide, by decide +kernel⟩
  · exact ⟨1, by decide, bc_1 i (by omega)⟩
  · exact ⟨2, by decide, bc_2 i (by omega) j (by omega) h1⟩
  · exact ⟨3, by decide, bc_3 i (by omega) j (by omega) h1 k (by omega) h2⟩
theorem few_up {n : Nat} {v : Int32} (h : few n v) : few (n + 1) v := by
  rcases h with rfl | ⟨i, h1, rfl⟩ | ⟨i, j, h1, h2, rfl⟩ | ⟨i, j, k, h1, h2, h3, rfl⟩
  · exact Or.inl rfl
  · exact Or.inr (Or.inl ⟨i, by omega, rfl⟩)
  · exact Or.inr (Or.inr (Or.inl ⟨i, j, h1, by omega, rfl⟩))
  · exact Or.inr (Or.inr (Or.inr ⟨i, j, k, h1, h2, by omega, rfl⟩))
theorem few_add {n : Nat} {v : Int32} (hn : n < 14) (h : few n v) (hb : ¬ 3 ≤ bcI v) : few (n + 1) (v ||| one n) := by
  rcases h with rfl | ⟨i, h1, rfl⟩ | ⟨i, j, h1, h2, rfl⟩ | ⟨i, j, k, h1, h2, h3, rfl⟩
  · exact Or.inr (Or.inl ⟨n, by omega, Int32.zero_or⟩)
  · exact Or.inr (Or.inr (Or.inl ⟨i, n, h1, by omega, rfl⟩))
  · exact Or.inr (Or.inr (Or.inr ⟨i, j, n, h1, h2, by omega, rfl⟩))
  · exact absurd (by rw [bc_3 i (by omega) j (by omega) h1 k (by omega) h2]; decide) hb
theorem fst_n (σ : MS) (day : Int32) : ∀ n, n ≤ 14 → few n (fstF σ day n)
  | 0, _ => Or.inl rfl
  | n + 1, h => by
    have ih := fst_n σ day n (by omega)
    unfold fstF
    split
    · rename_i c
      exact few_add (by omega) ih c.2.2
    · exact few_up ih
theorem fst_bc (σ : MS) (day : Int32) {n : Nat} (h : n ≤ 14) : ∃ c, c ≤ 14 ∧ bcI (fstF σ day n) = nI c := by
  obtain ⟨c, h1, h2⟩ := few_bc h (fst_n σ day n h)
  exact ⟨c, by omega, h2⟩
/-- the plan, of the first places: the state, the best ones, their prices -/
def plS (σ : MS) (P W : Nat) (cand : Int32) : Nat → MS × Int32 × Int32
  | 0 => (σ, 0, 0)
  | n + 1 =>
    let r := saR (saS (plS σ P W cand n).1 P W (memS cand (nI (n + 1)) 14).1 W)
    if r.1 ≤ (plS σ P W cand n).2.2 then (r.2, (plS σ P W cand n).2.1, (plS σ P W cand n).2.2) else (r.2, (memS cand (nI (n + 1)) 14).1, r.1)
theorem scr_saR (σ : MS) (P W : Nat) (ch : Int32) (n : Nat) : Scr σ (saR (saS σ P W ch n)).2 := by
  have h := Scr.sa σ P W ch n
  unfold saR
  generalize saS σ P W ch n = y at h ⊢
  cases e : y.1 with
  | none => exact h.1
  | some z => exact h.2 z e
theorem Scr.pl (σ : MS) (P W : Nat) (cand : Int32) : ∀ n, Scr σ (plS σ P W cand n).1
  | 0 => Scr.rf σ
  | n + 1 => by
    have ih := Scr.pl σ P W cand n
    unfold plS
    dsimp only
    split
    · exact ih.tr (scr_saR _ _ _ _ _)
    · exact ih.tr (scr_saR _ _ _ _ _)
def plF (σ : MS) (P W : Nat) (day : Int32) : MS × Int32 × Int32 := plS σ P W (fstF σ day W) (2 ^ (bcI (fstF σ day W)).toNatClampNeg - 1)
theorem law_T_plan {post : Int32 → MS → Prop} {pex : String → MS → Prop} {σ : MS} {P B W T : Nat} {a b : Int32} (O : Ok σ P B W T)
    (hx : (∀ d, d ≤ 365 → a ≠ nI d) → pex xIA σ)
    (h : ∀ d, d ≤ 365 → a = nI d → post (if b = 0 then (plF σ P W a).2.2 else (plF σ P W a).2.1) (plF σ P W a).1) : w_T_X7_plan post pex σ a b := by
  have hW := O.hW
  unfold w_T_X7_plan u_T_X7_plan_11
  refine ⟨fun c => hx fun d hd e => ?_, fun c => ⟨fun f => law_firstOnesOf O.h8 hW ?_, fun f => hx fun d hd e => ?_⟩⟩
  · subst e
    exact nI_pos (by omega) c
  · obtain ⟨d, hd, ed⟩ := nI_of c
    have d2 : d ≤ 365 := (nI_leI hd (by decide)).mp (show nI d ≤ nI 365 by rw [← ed]; exact f)
    have hp := h d d2 ed
    obtain ⟨cn, hc, ec⟩ := fst_bc σ a hW
    have p1 : 1 ≤ 2 ^ cn := Nat.one_le_two_pow
    have p2 : 2 ^ cn ≤ 2 ^ 14 := Nat.pow_le_pow_right (by decide) hc
    unfold plF at hp
    rw [ec, nI_clamp (by omega)] at hp
    clear h
    generalize fstF σ a W = cand at hp ec ⊢
    refine up_loop (fun k (q : (MS × Int32 × Int32) × Int32) => u_T_X7_plan_37 post pex a b k q.1.1 cand q.1.2.1 q.1.2.2 q.2) (fun i => (plS σ P W cand i, nI (i + 1))) (2 ^ cn - 1) ?_ (fun i k hi hk => ?_)
    · show u_T_X7_plan_37 post pex a b 1 (plS σ P W cand (2 ^ cn - 1)).1 cand (plS σ P W cand (2 ^ cn - 1)).2.1 (plS σ P W cand (2 ^ cn - 1)).2.2 (nI (2 ^ cn - 1 + 1))
      generalize plS σ P W cand (2 ^ cn - 1) = y at hp ⊢
      rw [u_T_X7_plan_37, Nat.sub_add_cancel p1]
      refine law_bitCount ⟨fun _ => ⟨fun e => ?_, fun e => ?_⟩, fun g => absurd ?_ g⟩
      · rw [if_pos e] at hp; exact hp
      · rw [if_neg e] at hp; exact hp
      · rw [ec, shl14 cn hc]
        exact le_self _
    · show u_T_X7_plan_37 post pex a b (k + 1) (plS σ P W cand i).1 cand (plS σ P W cand i).2.1 (plS σ P W cand i).2.2 (nI (i + 1))
      have hk : u_T_X7_plan_37 post pex a b k (plS σ P W cand (i + 1)).1 cand (plS σ P W cand (i + 1)).2.1 (plS σ P W cand (i + 1)).2.2 (nI (i + 1 + 1)) := hk
      unfold plS at hk
      dsimp only at hk
      have Ox := O.scr (Scr.pl σ P W cand i)
      generalize plS σ P W cand i = y at hk Ox ⊢
      rw [u_T_X7_plan_37]
      refine law_bitCount ⟨fun g => absurd g ?_, fun _ => law_membersAt (law_stageAll Ox ⟨fun e => ?_, fun e => ?_⟩)⟩
      · rw [ec, shl14 cn hc]
        exact nI_ge (by omega) (by omega)
      · rw [if_pos e] at hk
        rw [nI_1]
        exact hk
      · rw [if_neg e] at hk
        rw [nI_1]
        exact hk
  · subst e
    exact f (show nI d ≤ nI 365 from nI_le hd (by decide))
end
section
/-! LAWS: what does not look at scratch -/
theorem Scr.c0 {σ τ : MS} (h : Scr σ τ) : τ 0 = σ 0 := h 0 (by omega)
theorem Scr.c6 {σ τ : MS} (h : Scr σ τ) : τ 6 = σ 6 := h 6 (by omega)
theorem Scr.c23 {σ τ : MS} (h : Scr σ τ) (a : Nat) : τ (23 + a) = σ (23 + a) := h _ (by omega)
theorem Scr.c29 {σ τ : MS} (h : Scr σ τ) (a : Nat) : τ (29 + a) = σ (29 + a) := h _ (by omega)
theorem Scr.c39 {σ τ : MS} (h : Scr σ τ) (a : Nat) : τ (39 + a) = σ (39 + a) := h _ (by omega)
theorem Scr.c55 {σ τ : MS} (h : Scr σ τ) (a : Nat) : τ (55 + a) = σ (55 + a) := h _ (by omega)
theorem Scr.c61 {σ τ : MS} (h : Scr σ τ) (a : Nat) : τ (61 + a) = σ (61 + a) := h _ (by omega)
theorem Scr.c67 {σ τ : MS} (h : Scr σ τ) (a : Nat) : τ (67 + a) = σ (67 + a) := h _ (by omega)
theorem Scr.c73 {σ τ : MS} (h : Scr σ τ) (a : Nat) : τ (73 + a) = σ (73 + a) := h _ (by omega)
theorem Scr.c29' {σ τ : MS} (h : Scr σ τ) : τ 29 = σ 29 := h _ (by omega)
theorem Scr.sy {σ τ : MS} (h : Scr σ τ) : Scr τ σ := fun k hk => (h k hk).symm
theorem inQ_sc {σ τ : MS} (h : Scr σ τ) (a b : Nat) : inQ τ a b = inQ σ a b := by unfold inQ; simp only [h.c73]
theorem ahead_sc {σ τ : MS} (h : Scr σ τ) (a : Nat) : ahead τ a = ahead σ a := by unfold ahead; simp only [inQ_sc h]
theorem pq_sc {σ τ : MS} (h : Scr σ τ) (a : Nat) : pq τ a = pq σ a := by unfold pq; simp only [ahead_sc h, h.c73]
theorem isFst_sc {σ τ : MS} (h : Scr σ τ) (a : Nat) : isFst τ a = isFst σ a := by unfold isFst; simp only [ahead_sc h, h.c73]
theorem fxw_sc {σ τ : MS} (h : Scr σ τ) (w p : Nat) : fxw τ w p = fxw σ w p := by unfold fxw; simp only [h.c73]
theorem quF_sc {σ τ : MS} (h : Scr σ τ) (w : Nat) : quF τ w = quF σ w := by unfold quF; simp only [h.c73]
theorem wayF_sc {σ τ : MS} (h : Scr σ τ) (a b : Int32) : wayF τ a b = wayF σ a b := by unfold wayF; simp only [h.c23]
theorem costF_sc {σ τ : MS} (h : Scr σ τ) (p w : Nat) : costF τ p w = costF σ p w := by unfold costF; simp only [wayF_sc h, h.c29, h.c73]
theorem wageF_sc {σ τ : MS} (h : Scr σ τ) (p w : Nat) : wageF τ p w = wageF σ p w := by unfold wageF; simp only [costF_sc h, quF_sc h, h.c29]
theorem extraF_sc {σ τ : MS} (h : Scr σ τ) (w n : Nat) : extraF τ w n = extraF σ w n := by unfold extraF feesF; simp only [quF_sc h, h.c29, h.c73]
theorem owedF_sc {σ τ : MS} (h : Scr σ τ) (w : Nat) : owedF τ w = owedF σ w := by unfold owedF; simp only [h.c73, h.c0]
theorem wagesF_sc {σ τ : MS} (h : Scr σ τ) (w n : Nat) : wagesF τ w n = wagesF σ w n := by unfold wagesF; simp only [wageF_sc h, h.c73]
theorem shareF_sc {σ τ : MS} (h : Scr σ τ) (s : Nat) : shareF τ s = shareF σ s := by unfold shareF shAll; simp only [h.c39]
theorem ofBd_sc {σ τ : MS} (h : Scr σ τ) (a b : Int32) (w : Nat) : ofBd τ a b w = ofBd σ a b w := by unfold ofBd; simp only [h.c73]
theorem gapF_sc {σ τ : MS} (h : Scr σ τ) (n : Nat) : gapF τ n = gapF σ n := by unfold gapF; simp only [h.c29, h.c29']
theorem taken_sc {σ τ : MS} (h : Scr σ τ) (a b : Int32) : ∀ n, taken τ a b n = taken σ a b n
  | 0 => rfl
  | n + 1 => by unfold taken; rw [taken_sc h a b n]; simp only [h.c73]
theorem fixSnd_sc {σ τ : MS} (h : Scr σ τ) (w : Nat) : fixSnd τ w = fixSnd σ w := by unfold fixSnd bdOf; simp only [taken_sc h, h.c73, h.c55]
theorem allFx_sc {σ τ : MS} (h : Scr σ τ) : ∀ n, allFx τ n = allFx σ n
  | 0 => rfl
  | n + 1 => by unfold allFx; rw [allFx_sc h n, fixSnd_sc h]; simp only [h.c73]
theorem hrsD_sc {σ τ : MS} (h : Scr σ τ) (v : Int32) : ∀ n, hrsD τ v n = hrsD σ v n
  | 0 => rfl
  | n + 1 => by unfold hrsD; rw [hrsD_sc h v n]; simp only [h.c73]
theorem sndB_sc {σ τ : MS} (h : Scr σ τ) (P W : Nat) : sndB τ P W = sndB σ P W := by unfold sndB paidI earnI hrsI shrI; simp only [allFx_sc h, hrsD_sc h, shareF_sc h, h.c0, h.c29, h.c73]
theorem deskF_sc {σ τ : MS} (h : Scr σ τ) (P W : Nat) : ∀ k, deskF τ P W k = deskF σ P W k := fun k => by unfold deskF; simp only [h.c0, h.c6, h.c29, h.c73, gapF_sc h]
theorem ofPF_sc {σ τ : MS} (h : Scr σ τ) (W p : Nat) : ∀ k, ofPF τ W p k = ofPF σ W p k := fun k => by unfold ofPF; simp only [h.c29, fxw_sc h]
theorem ofSF_sc {σ τ : MS} (h : Scr σ τ) (P p : Nat) : ∀ k, ofSF τ P p k = ofSF σ P p k := fun k => by unfold ofSF; simp only [h.c29, h.c39, shareF_sc h]
theorem ofBF_sc {σ τ : MS} (h : Scr σ τ) (W b : Nat) : ∀ k, ofBF τ W b k = ofBF σ W b k := fun k => by unfold ofBF; rw [h.c55, h.c61, show ofBd τ = ofBd σ from funext fun a => funext fun b => funext fun w => ofBd_sc h a b w]
theorem ofWF_sc {σ τ : MS} (h : Scr σ τ) (p : Nat) : ∀ k, ofWF τ p k = ofWF σ p k := fun k => by unfold ofWF; simp only [h.c73, pq_sc h, quF_sc h]
theorem kn_sc {σ τ : MS} (h : Scr σ τ) (s : Int32) : ∀ n, kn τ s n = kn σ s n
  | 0 => rfl
  | n + 1 => by unfold kn; rw [kn_sc h s n]; simp only [h.c29]
theorem playF_sc {σ τ : MS} (h : Scr σ τ) (s : Int32) (n : Nat) : playF τ s n = playF σ s n := by unfold playF; rw [kn_sc h]
theorem feudB_sc {σ τ : MS} (h : Scr σ τ) (s : Int32) : ∀ n, feudB τ s n = feudB σ s n
  | 0 => rfl
  | n + 1 => by unfold feudB; rw [feudB_sc h s n]; simp only [h.c29]
theorem costsF_sc {σ τ : MS} (h : Scr σ τ) (s : Int32) (w n : Nat) : costsF τ s w n = costsF σ s w n := by unfold costsF; simp only [costF_sc h]
theorem leaveB_sc {σ τ : MS} (h : Scr σ τ) (a b : Nat) : leaveB τ a b = leaveB σ a b := by unfold leaveB lv2; simp only [wayF_sc h, h.c73]
theorem bdOf_sc {σ τ : MS} (h : Scr σ τ) (w : Nat) : bdOf τ w = bdOf σ w := by unfold bdOf; simp only [h.c73]
theorem fits2_sc {σ τ : MS} (h : Scr σ τ) (a b : Nat) : fits2 τ a b = fits2 σ a b := by unfold fits2 apart; simp only [h.c39]
/-! who is on stage: the first W -/
def Sg (W : Nat) (σ τ : MS) : Prop := Scr σ τ ∧ ∀ j, j < W → τ 7 j = σ 7 j
theorem stg_at {σ : MS} {j n : Nat} (h : j < n) : stg σ n 7 j = if σ (73 + j) 7 = 1 then σ (73 + j) 8 else 0 := if_pos ⟨rfl, h⟩
theorem sg_stg {σ τ : MS} (h : Scr σ τ) (W : Nat) : Sg W (stg σ W) (stg τ W) := by
  refine ⟨((Scr.stg σ W).sy.tr h).tr (Scr.stg τ W), fun j hj => ?_⟩
  rw [stg_at hj, stg_at hj, h.c73]
theorem okUp_sg {W : Nat} {σ τ : MS} (h : Sg W σ τ) (p w : Nat) : ∀ n, n ≤ W → okUp τ p w n = okUp σ p w n
  | 0, _ => rfl
  | n + 1, hn => by
    unfold okUp othB
    rw [okUp_sg h p w n (by omega), h.2 n (by omega)]
    simp only [h.1.c73, leaveB_sc h.1]
theorem freeB_sg {W : Nat} {σ τ : MS} (h : Sg W σ τ) (p w : Nat) : freeB τ p w W = freeB σ p w W := by
  unfold freeB
  rw [okUp_sg h p w W (Nat.le_refl W)]
  simp only [h.1.c73, h.1.c6, h.1.c29, wayF_sc h.1]
theorem freeF_sg {W : Nat} {σ τ : MS} (h : Sg W σ τ) (w n : Nat) : freeF τ w W n = freeF σ w W n := by
  unfold freeF
  simp only [freeB_sg h]
/-! the survey -/
def Sv (m : Nat) (σ τ : MS) : Prop := Scr σ τ ∧ (∀ j, j < 6 → τ 9 j = σ 9 j) ∧ ∀ j, j < m → τ 8 j = σ 8 j
theorem Sv.up9 {m : Nat} {σ τ : MS} (h : Sv m σ τ) (j : Nat) (v : Int32) : Sv m (up2 σ 9 j v) (up2 τ 9 j v) := by
  refine ⟨((Scr.up (by decide) (by decide)).sy.tr h.1).tr (Scr.up (by decide) (by decide)), fun i hi => ?_, fun i hi => ?_⟩
  · by_cases e : i = j
    · subst e; rw [up2_same, up2_same]
    · rw [up2_at (Or.inr e), up2_at (Or.inr e)]; exact h.2.1 i hi
  · rw [up2_at (by omega), up2_at (by omega)]; exact h.2.2 i hi
theorem Sv.up8 {m : Nat} {σ τ : MS} (h : Sv m σ τ) (v : Int32) : Sv (m + 1) (up2 σ 8 m v) (up2 τ 8 m v) := by
  refine ⟨((Scr.up (by decide) (by decide)).sy.tr h.1).tr (Scr.up (by decide) (by decide)), fun i hi => ?_, fun i hi => ?_⟩
  · rw [up2_at (by omega), up2_at (by omega)]; exact h.2.1 i hi
  · by_cases e : i = m
    · subst e; rw [up2_same, up2_same]
    · rw [up2_at (Or.inr e), up2_at (Or.inr e)]; exact h.2.2 i (by omega)
theorem Sv.clear {σ τ : MS} (h : Scr σ τ) : Sv 0 (clearF σ) (clearF τ) := by
  refine ⟨((Scr.clear σ).sy.tr h).tr (Scr.clear τ), fun i hi => ?_, fun i hi => by omega⟩
  unfold clearF
  have c : i = 0 ∨ i = 1 ∨ i = 2 ∨ i = 3 ∨ i = 4 ∨ i = 5 := by omega
  rcases c with rfl | rfl | rfl | rfl | rfl | rfl
  · rw [up2_at (by omega), up2_at (by omega), up2_at (by omega), up2_at (by omega), up2_at (by omega), up2_same, up2_at (by omega), up2_at (by omega), up2_at (by omega), up2_at (by omega), up2_at (by omega), up2_same]
  · rw [up2_at (by omega), up2_at (by omega), up2_at (by omega), up2_at (by omega), up2_same, up2_at (by omega), up2_at (by omega), up2_at (by omega), up2_at (by omega), up2_same]
  · rw [up2_at (by omega), up2_at (by omega), up2_at (by omega), up2_same, up2_at (by omega), up2_at (by omega), up2_at (by omega), up2_same]
  · rw [up2_at (by omega), up2_at (by omega), up2_same, up2_at (by omega), up2_at (by omega), up2_same]
  · rw [up2_at (by omega), up2_same, up2_at (by omega), up2_same]
  · rw [up2_same, up2_same]
theorem clr_lt : ∀ p, p < 10 → ∀ s, s < 1024 → bt (nI s) p = true → clr (nI s) p < s := by decide +kernel
theorem seatB_sv {σ τ : MS} {m b l s : Nat} (h : Sv m σ τ) (hs : s ≤ m) (hs2 : s < 1024) : ∀ n, n ≤ 10 → seatB τ b l (nI s) n = seatB σ b l (nI s) n
  | 0, _ => rfl
  | n + 1, hn => by
    unfold seatB pl
    rw [seatB_sv h hs hs2 n (by omega), h.1.c29, h.1.c67]
    by_cases c : bt (nI s) n = true
    · rw [h.2.2 _ (Nat.lt_of_lt_of_le (clr_lt n (by omega) s hs2 c) hs)]
    · rw [decide_eq_false (fun q => c q.1), decide_eq_false (fun q => c q.1)]
theorem seatF_sv {σ τ : MS} {m b s P : Nat} (h : Sv m σ τ) (hs : s ≤ m) (hs2 : s < 1024) (hP : P ≤ 10) : seatF τ b (nI s) P = seatF σ b (nI s) P := by
  unfold seatF
  rw [h.1.c55, seatB_sv h hs hs2 P hP]
theorem sat_sv {σ τ : MS} {b P : Nat} (h : Sv 0 σ τ) (hP : P ≤ 10) : ∀ n, n < 1024 → Sv (n + 1) (sat σ b P n) (sat τ b P n)
  | 0, _ => h.up8 1
  | n + 1, hn => by
    have ih := sat_sv (b := b) h hP n (by omega)
    unfold sat
    rw [seatF_sv ih (Nat.le_refl _) hn hP]
    exact ih.up8 _
theorem addF_sv {m : Nat} {σ τ : MS} (h : Sv m σ τ) (s c k : Int32) : Sv m (addF σ s c k) (addF τ s c k) := by
  unfold addF
  dsimp only
  rw [h.2.1 3 (by decide), h.2.1 2 (by decide), h.2.1 1 (by decide)]
  have h1 : Sv m (if σ 9 3 = 0 ∨ σ 9 2 < k ∨ (k = σ 9 2 ∧ ¬ σ 9 1 ≤ c) then up2 (up2 (up2 σ 9 0 s) 9 1 c) 9 2 k else σ) (if σ 9 3 = 0 ∨ σ 9 2 < k ∨ (k = σ 9 2 ∧ ¬ σ 9 1 ≤ c) then up2 (up2 (up2 τ 9 0 s) 9 1 c) 9 2 k else τ) := by
    split
    · exact ((h.up9 0 s).up9 1 c).up9 2 k
    · exact h
  generalize (if σ 9 3 = 0 ∨ σ 9 2 < k ∨ (k = σ 9 2 ∧ ¬ σ 9 1 ≤ c) then up2 (up2 (up2 σ 9 0 s) 9 1 c) 9 2 k else σ) = x at h1 ⊢
  generalize (if σ 9 3 = 0 ∨ σ 9 2 < k ∨ (k = σ 9 2 ∧ ¬ σ 9 1 ≤ c) then up2 (up2 (up2 τ 9 0 s) 9 1 c) 9 2 k else τ) = y at h1 ⊢
  rw [h1.2.1 3 (by decide)]
  have h2 := h1.up9 3 (x 9 3 + 1)
  rw [h2.2.1 4 (by decide)]
  exact h2.up9 4 _
theorem svS_sv {m P w : Nat} {size free had : Int32} {s : Nat} {x y : MS × Int32 × Int32} (h : Sv m x.1 y.1) (h2 : y.2 = x.2) (hs : s < m) : Sv m (svS P w size free had s x).1 (svS P w size free had s y).1 ∧ (svS P w size free had s y).2 = (svS P w size free had s x).2 := by
  unfold svS
  rw [h.2.2 s hs, h.1.c73, playF_sc h.1, feudB_sc h.1, costsF_sc h.1, h2]
  split
  · split
    · split
      · exact ⟨h, rfl⟩
      · exact ⟨addF_sv h _ _ _, rfl⟩
    · exact ⟨h, rfl⟩
  · exact ⟨h, h2⟩
theorem sv_sv {σ τ : MS} {m P w : Nat} {size free had : Int32} (h : Sv m σ τ) : ∀ n, n < m → Sv m (sv σ P w size free had n).1 (sv τ P w size free had n).1 ∧ (sv τ P w size free had n).2 = (sv σ P w size free had n).2
  | 0, _ => ⟨h, rfl⟩
  | n + 1, hn => by
    have ih := sv_sv (P := P) (w := w) (size := size) (free := free) (had := had) h n (by omega)
    exact svS_sv ih.1 ih.2 hn
theorem survF_sc {σ τ : MS} {w P : Nat} {free had : Int32} (h : Scr σ τ) (hP : P ≤ 10) : ∀ j, j < 6 → survF τ w P free had 9 j = survF σ w P free had 9 j := by
  obtain ⟨hp1, hp2⟩ := pw1024 hP
  have h1 := sat_sv (b := bdOf σ w) (Sv.clear h) hP (2 ^ P - 1) (by omega)
  rw [Nat.sub_add_cancel hp1] at h1
  have h3 := sv_sv (P := P) (w := w) (size := σ (55 + bdOf σ w) 2) (free := free) (had := had) h1 (2 ^ P - 1) (by omega)
  unfold survF svAll svIn
  rw [bdOf_sc h, h.c55]
  generalize sv (sat (clearF σ) (bdOf σ w) P (2 ^ P - 1)) P w (σ (55 + bdOf σ w) 2) free had (2 ^ P - 1) = x at h3 ⊢
  generalize sv (sat (clearF τ) (bdOf σ w) P (2 ^ P - 1)) P w (σ (55 + bdOf σ w) 2) free had (2 ^ P - 1) = y at h3 ⊢
  have e : whyF y (σ (55 + bdOf σ w) 2) free = whyF x (σ (55 + bdOf σ w) 2) free := by
    unfold whyF
    rw [h3.1.2.1 3 (by decide), h3.2]
  rw [e]
  exact (h3.1.up9 5 _).2.1
theorem snF_sc {σ τ : MS} {w P W : Nat} (h : Scr σ τ) (hP : P ≤ 10) : ∀ j, j < 6 → snF τ w P W 9 j = snF σ w P W 9 j := by
  unfold snF
  have hg := sg_stg h W
  rw [freeF_sg hg]
  exact survF_sc hg.1 hP
end
