section
/-! LAWS: the best set does not look at scratch -/
theorem srtI_sc {σ τ : MS} (h : Scr σ τ) (pb : Int32) (e : Nat) (B : List Nat) : ∀ n, srtI τ pb e B n = srtI σ pb e B n
  | 0 => rfl
  | n + 1 => by unfold srtI; rw [srtI_sc h pb e B n]; simp only [h.c39]
theorem srtL_sc {σ τ : MS} (h : Scr σ τ) (pb : Int32) : ∀ n, srtL τ pb n = srtL σ pb n
  | 0 => rfl
  | n + 1 => by unfold srtL; rw [srtL_sc h pb n, srtI_sc h]
/-- agreeing on the order of n songs and on what is found of the last d places -/
def Cg (n d : Nat) (σ τ : MS) : Prop := Scr σ τ ∧ (∀ j, j < n → τ 12 j = σ 12 j) ∧ ∀ j, n - d ≤ j → j < n → τ 13 j = σ 13 j ∧ τ 14 j = σ 14 j
def psr (lo hi : Nat) (v : Int32) : Prop := v = -1 ∨ ∃ j, lo ≤ j ∧ j < hi ∧ v = nI j
theorem bsF_r {σ : MS} {lo hi k : Nat} {b : Int32} (h1 : lo ≤ k) (h2 : k < hi) (hb : psr lo hi b) : psr lo hi (bsF σ k b) := by
  have a : psr lo hi (nI k) := Or.inr ⟨k, h1, h2, rfl⟩
  unfold bsF
  split
  · exact a
  · split
    · split
      · split
        · exact hb
        · exact a
      · exact hb
    · exact a
theorem bsF_cg {σ τ : MS} {n d k : Nat} {b : Int32} (hn : n ≤ 16) (h : Cg n d σ τ) (h1 : n - d ≤ k) (h2 : k < n) (hb : psr (n - d) n b) : bsF τ k b = bsF σ k b := by
  unfold bsF
  rcases hb with rfl | ⟨j, j1, j2, rfl⟩
  · rw [if_pos rfl, if_pos rfl]
  · rw [nI_clamp (show j < 2 ^ 31 by omega), (h.2.2 k h1 h2).1, (h.2.2 j j1 j2).1, h.2.1 k h2, h.2.1 j j2]
theorem nv_r {σ : MS} {p : Nat} {hi : Nat} : ∀ m, p + 1 + m ≤ hi → psr (p + 1) hi (nv σ p m)
  | 0, _ => Or.inl rfl
  | m + 1, h => by
    have ih := nv_r (σ := σ) (p := p) (hi := hi) m (by omega)
    unfold nv
    split
    · exact bsF_r (by omega) (by omega) ih
    · exact ih
theorem nv_cg {σ τ : MS} {n d p : Nat} (hn : n ≤ 16) (h : Cg n d σ τ) (hp : p + 1 + d = n) : ∀ m, m ≤ d → nv τ p m = nv σ p m
  | 0, _ => rfl
  | m + 1, hm => by
    have ih := nv_cg hn h hp m (by omega)
    have e : n - d = p + 1 := by omega
    have hr := nv_r (σ := σ) (p := p) (hi := n) m (by omega)
    unfold nv ordN
    rw [ih, fits2_sc h.1, h.2.1 p (by omega), h.2.1 (p + 1 + m) (by omega), bsF_cg hn h (by omega) (by omega) (by rw [e]; exact hr)]
theorem chV_cg {σ τ : MS} {n d p : Nat} (hn : n ≤ 16) (h : Cg n d σ τ) (hp : p + 1 + d = n) : Cg n (d + 1) (chV σ p d) (chV τ p d) := by
  have e := nv_cg hn h hp d (Nat.le_refl d)
  have hr := nv_r (σ := σ) (p := p) (hi := n) d (by omega)
  unfold chV ordN
  rw [e, h.2.1 p (by omega), h.1.c39]
  have e2 : (if nv σ p d = -1 then (0 : Int32) else τ 13 (nv σ p d).toNatClampNeg) = (if nv σ p d = -1 then 0 else σ 13 (nv σ p d).toNatClampNeg) := by
    rcases hr with q | ⟨j, j1, j2, q⟩
    · rw [q, if_pos rfl, if_pos rfl]
    · rw [q, nI_clamp (show j < 2 ^ 31 by omega), (h.2.2 j (by omega) j2).1]
  rw [e2]
  generalize nv σ p d = v
  generalize σ (39 + (σ 12 p).toNatClampNeg) 2 + (if v = -1 then 0 else σ 13 v.toNatClampNeg) = u
  refine ⟨((((Scr.up (by decide) (by decide)).tr (Scr.up (by decide) (by decide))).sy).tr h.1).tr ((Scr.up (by decide) (by decide)).tr (Scr.up (by decide) (by decide))), fun j hj => ?_, fun j j1 j2 => ?_⟩
  · rw [up2_at (by omega), up2_at (by omega), up2_at (by omega), up2_at (by omega)]; exact h.2.1 j hj
  · by_cases c : j = p
    · subst c
      rw [up2_same, up2_same, up2_at (by omega), up2_same, up2_at (by omega), up2_same]
      exact ⟨rfl, rfl⟩
    · rw [up2_at (Or.inr c), up2_at (Or.inr c), up2_at (Or.inr c), up2_at (Or.inr c), up2_at (Or.inr c), up2_at (Or.inr c), up2_at (Or.inr c), up2_at (Or.inr c)]
      exact h.2.2 j (by omega) j2
theorem chS_cg {σ τ : MS} {n : Nat} (hn : n ≤ 16) (h : Cg n 0 σ τ) : ∀ d, d ≤ n → Cg n d (chS σ n d) (chS τ n d)
  | 0, _ => h
  | d + 1, hd => chV_cg hn (chS_cg hn h d (by omega)) (by omega)
theorem fsF_r {σ : MS} {n : Nat} : ∀ m, m ≤ n → psr 0 n (fsF σ m)
  | 0, _ => Or.inl rfl
  | m + 1, h => bsF_r (by omega) (by omega) (fsF_r m (by omega))
theorem fsF_cg {σ τ : MS} {n : Nat} (hn : n ≤ 16) (h : Cg n n σ τ) : ∀ m, m ≤ n → fsF τ m = fsF σ m
  | 0, _ => rfl
  | m + 1, hm => by
    have hr := fsF_r (σ := σ) (n := n) m (by omega)
    unfold fsF
    rw [fsF_cg hn h m (by omega)]
    exact bsF_cg hn h (by omega) (by omega) (by rw [Nat.sub_self]; exact hr)
theorem flS_2 {z : MS} {first : Int32} : ∀ m, (flS z first m).1 10 2 = z 10 2
  | 0 => by
    show up2 z 10 1 0 10 2 = z 10 2
    exact up2_at (by omega)
  | m + 1 => by
    have ih := flS_2 (z := z) (first := first) m
    unfold flS
    split
    · exact ih
    · dsimp only
      rw [up2_at (by omega), up2_at (by omega)]
      exact ih
theorem flS_cg {z y : MS} {first : Int32} {n : Nat} (hn : n ≤ 16) (hz : ∀ j, j < n → ps n (z 14 j)) (hf : ps n first) (h : ∀ j, j < n → y 14 j = z 14 j) : ∀ m, (flS y first m).2 = (flS z first m).2 ∧ (flS y first m).1 10 1 = (flS z first m).1 10 1
  | 0 => ⟨rfl, by show up2 y 10 1 0 10 1 = up2 z 10 1 0 10 1; rw [up2_same, up2_same]⟩
  | m + 1 => by
    obtain ⟨h1, h2⟩ := flS_cg hn hz hf h m
    have hp := flS_ps hz hf hn m
    have k1 := flS_k (z := z) (first := first) (k := 14) (by decide) (by decide) m
    have k2 := flS_k (z := y) (first := first) (k := 14) (by decide) (by decide) m
    unfold flS
    rw [h1]
    by_cases c : (flS z first m).2 = -1
    · rw [if_pos c, if_pos c]
      exact ⟨h1, h2⟩
    · rw [if_neg c, if_neg c]
      dsimp only
      rw [k1, k2, up2_same, up2_same]
      rcases hp with q | ⟨j, hj, q⟩
      · exact absurd q c
      · rw [q, nI_clamp (show j < 2 ^ 31 by omega)]
        exact ⟨h j hj, rfl⟩
theorem cho_sc {σ τ : MS} (h : Scr σ τ) (pb : Int32) : choS τ pb 10 1 = choS σ pb 10 1 ∧ choS τ pb 10 2 = choS σ pb 10 2 := by
  have hL := (srtL_ok σ pb 10 (by decide)).1
  unfold choS chE
  rw [srtL_sc h]
  generalize srtL σ pb 10 = L at hL ⊢
  have hn := lst_len hL
  have h0 : Cg L.length 0 (putL σ L) (putL τ L) := by
    refine ⟨fun k hk => by rw [putL_k (by omega) (by omega), putL_k (by omega) (by omega)]; exact h k hk, fun j hj => ?_, fun j j1 j2 => by omega⟩
    rw [show putL τ L 12 j = nI (L.getD j 0) from if_pos ⟨rfl, hj⟩, show putL σ L 12 j = nI (L.getD j 0) from if_pos ⟨rfl, hj⟩]
  have h1 := chS_cg hn h0 L.length (Nat.le_refl _)
  have yp : ∀ j, j < L.length → ps L.length (chS (putL σ L) L.length L.length 14 j) := fun j hj => chS_ps L.length (Nat.le_refl _) j (by omega) hj
  have hf := fsF_cg hn h1 L.length (Nat.le_refl _)
  have hr := fsF_ps (σ := chS (putL σ L) L.length L.length) (n := L.length) L.length (Nat.le_refl _)
  rw [hf]
  have e13 : (if fsF (chS (putL σ L) L.length L.length) L.length = -1 then (0 : Int32) else chS (putL τ L) L.length L.length 13 (fsF (chS (putL σ L) L.length L.length) L.length).toNatClampNeg) = (if fsF (chS (putL σ L) L.length L.length) L.length = -1 then 0 else chS (putL σ L) L.length L.length 13 (fsF (chS (putL σ L) L.length L.length) L.length).toNatClampNeg) := by
    rcases hr with q | ⟨j, j2, q⟩
    · rw [q, if_pos rfl, if_pos rfl]
    · rw [q, nI_clamp (show j < 2 ^ 31 by omega), (h1.2.2 j (by omega) j2).1]
  rw [e13]
  generalize fsF (chS (putL σ L) L.length L.length) L.length = f at hr ⊢
  generalize chS (putL σ L) L.length L.length = x at h1 yp ⊢
  generalize chS (putL τ L) L.length L.length = y at h1 ⊢
  generalize (if f = -1 then (0 : Int32) else x 13 f.toNatClampNeg) = v
  have hh := flS_cg (z := up2 x 10 2 v) (y := up2 y 10 2 v) (first := f) (n := L.length) hn (fun j hj => by rw [up2_at (by omega)]; exact yp j hj) hr (fun j hj => by rw [up2_at (by omega), up2_at (by omega)]; exact (h1.2.2 j (by omega) hj).2) 16
  exact ⟨hh.2, by rw [flS_2, flS_2, up2_same, up2_same]⟩
theorem setR_sc {σ τ : MS} (h : Scr σ τ) (s : Int32) (P : Nat) (mn : Int32) : setR (setS τ s P) mn = setR (setS σ s P) mn := by
  unfold setR setS
  rw [playF_sc h, (cho_sc h _).1, (cho_sc h _).2]
theorem law_N_checkTown {post : MS → Prop} {σ : MS} {i : Nat} (hi : i < 6) (h : post σ) : w_N_X7_checkTown post σ (nI i) := by
  unfold w_N_X7_checkTown
  refine law_isTown ?_
  rw [decide_eq_true ⟨nI_pos' (by omega), (nI_ltI (by omega) (by decide)).mpr hi⟩]
  exact ⟨fun c => absurd c (by decide), fun _ => h⟩
theorem law_N_drive {post : Int32 → MS → Prop} {σ : MS} {i j : Nat} (hi : i < 6) (hj : j < 6) (h : post (σ (23 + i) j) σ) : w_N_X7_drive post σ (nI i) (nI j) := by
  unfold w_N_X7_drive
  refine law_N_checkTown hi (law_N_checkTown hj (law_between (vp_in_nI hi (by decide)) (vp_in_nI hj (by decide)) ?_))
  unfold wayF
  rw [nI_clamp (show i < 2 ^ 31 by omega), nI_clamp (show j < 2 ^ 31 by omega)]
  exact h
/-! LAWS: digest -/
def smL (f : Nat → Int32) (a : Int64) : Nat → Int64
  | 0 => a
  | n + 1 => smL f a n * 31 + (f n).toInt64
/-- what a wedding adds -/
def dgW (σ : MS) (P W w : Nat) (a : Int64) : Int64 :=
  let b := smL (ofWF σ w) a 13
  let c := if σ (73 + w) 7 = 0 then ((((b * 31 + (snF σ w P W 9 0).toInt64) * 31 + (snF σ w P W 9 1).toInt64) * 31 + (snF σ w P W 9 3).toInt64) * 31 + (snF σ w P W 9 5).toInt64) else b
  c * 31 + (setR (setS σ (σ (73 + w) 8) P) 0).toInt64
/-- the players of each wedding are players -/
def Pok (σ : MS) (P W : Nat) : Prop := ∀ w, w < W → 0 ≤ σ (73 + w) 8 ∧ σ (73 + w) 8 < nI (2 ^ P)
theorem law_dg121 {post : Int64 → MS → Prop} {a1 : Int64} {σ τ : MS} {P B W T w : Nat} {v : Int64} (O : Ok σ P B W T) (hs : Scr σ τ) (hpk : Pok σ P W) (hw : w < W) (h : ∀ τ, Scr σ τ → post (v * 31 + (setR (setS σ (σ (73 + w) 8) P) 0).toInt64) τ) : u_N_X7_digestWedding_121 post a1 (nI w) τ v := by
  have hW := O.hW
  unfold u_N_X7_digestWedding_121
  rw [nI_clamp (show w < 2 ^ 31 by omega), hs.c73]
  refine ⟨vp_in_nI (by omega) (by decide), law_N_set (O.scr hs) (hpk w hw).1 (hpk w hw).2 ?_⟩
  rw [setR_sc hs]
  exact h _ (hs.tr (Scr.set _ _ _))
theorem law_N_digestWedding {post : Int64 → MS → Prop} {σ τ0 : MS} {P B W T w : Nat} {a : Int64} (O : Ok σ P B W T) (hs : Scr σ τ0) (hpk : Pok σ P W) (hw : w < W) (h : ∀ τ, Scr σ τ → post (dgW σ P W w a) τ) : w_N_X7_digestWedding post τ0 a (nI w) := by
  have hW := O.hW
  have Ot := O.scr hs
  unfold w_N_X7_digestWedding
  refine up_loop (fun k (q : Int64 × Int32) => u_N_X7_digestWedding_6 post a (nI w) k τ0 q.1 q.2) (fun i => (smL (ofWF σ w) a i, nI i)) 13 ?_ (fun i k hi hk => ?_)
  · show u_N_X7_digestWedding_6 post a (nI w) 1 τ0 (smL (ofWF σ w) a 13) (nI 13)
    unfold dgW at h
    dsimp only at h
    generalize smL (ofWF σ w) a 13 = b at h ⊢
    rw [u_N_X7_digestWedding_6, nI_clamp (show w < 2 ^ 31 by omega), hs.c73]
    refine ⟨fun _ => ⟨vp_in_nI (by omega) (by decide), fun c => ?_, fun c => ?_⟩, fun c => absurd (by decide) c⟩
    · rw [if_pos c] at h
      refine law_surveyNow Ot (by omega) ?_
      rw [snF_sc hs O.hP 0 (by decide), snF_sc hs O.hP 1 (by decide), snF_sc hs O.hP 3 (by decide), snF_sc hs O.hP 5 (by decide)]
      exact law_dg121 O (hs.tr (Scr.sn τ0 w P W)) hpk hw h
    · rw [if_neg c] at h
      exact law_dg121 O hs hpk hw h
  · show u_N_X7_digestWedding_6 post a (nI w) (k + 1) τ0 (smL (ofWF σ w) a i) (nI i)
    have hk : u_N_X7_digestWedding_6 post a (nI w) k τ0 (smL (ofWF σ w) a i * 31 + (ofWF σ w i).toInt64) (nI (i + 1)) := hk
    rw [u_N_X7_digestWedding_6, nI_1]
    refine ⟨fun c => absurd (show nI 12 < nI i from c) (Int32.not_lt.mpr (nI_le (by omega) (by decide))), fun _ => law_N_ofWedding Ot hw (by omega) ?_⟩
    rw [ofWF_sc hs]
    exact hk
def dgP (σ : MS) (W : Nat) (a : Int64) : Nat → Int64
  | 0 => a
  | n + 1 => smL (ofPF σ W n) (dgP σ W a n) 9
def dgS (σ : MS) (P : Nat) (a : Int64) : Nat → Int64
  | 0 => a
  | n + 1 => smL (ofSF σ P n) (dgS σ P a n) 6
def dgB (σ : MS) (W : Nat) (a : Int64) : Nat → Int64
  | 0 => a
  | n + 1 => smL (ofBF σ W n) (dgB σ W a n) 9
def dgWs (σ : MS) (P W : Nat) (a : Int64) : Nat → Int64
  | 0 => a
  | n + 1 => dgW σ P W n (dgWs σ P W a n)
def dgE (σ : MS) (P W : Nat) (a : Int64) : Int64 := ((a * 31 + (setR (setS σ (nI (2 ^ P - 1)) P) 1).toInt64) * 31 + (σ 23 5).toInt64) * 31 + (b01 (sndB σ P W)).toInt64
def digF (σ : MS) (P B W : Nat) : Int64 := dgE σ P W (dgWs σ P W (dgB σ W (dgS σ P (dgP σ W (smL (deskF σ P W) 58278 13) P) 16) B) W)
theorem law_dg171 {post : Int64 → MS → Prop} {σ τ0 : MS} {P B W T : Nat} {a : Int64} (O : Ok σ P B W T) (hs : Scr σ τ0) (hpk : Pok σ P W) (h : ∀ τ, Scr σ τ → post (dgE σ P W (dgWs σ P W a W)) τ) : ∃ k, u_N_X7_digest_171 post k τ0 a 0 := by
  have hW := O.hW
  have hP := O.hP
  obtain ⟨hp1, hp2⟩ := pw1024 hP
  have key : ∀ d i, i + d = W → ∀ τ, Scr σ τ → u_N_X7_digest_171 post (d + 1) τ (dgWs σ P W a i) (nI i) := by
    intro d
    induction d with
    | zero =>
      intro i hi τ ht
      obtain rfl : i = W := by omega
      have Ot := O.scr ht
      generalize dgWs σ P i a i = b at h ⊢
      unfold dgE at h
      rw [u_N_X7_digest_171, Ot.h8, Ot.h6, shl1 P hP, show nI (2 ^ P) - 1 = nI (2 ^ P - 1) by
        have := nI_pred (2 ^ P - 1)
        rwa [Nat.sub_add_cancel hp1] at this]
      refine ⟨fun _ => law_N_set Ot (nI_pos' (by omega)) (nI_lt (by omega) (by omega)) (law_N_drive (i := 0) (j := 5) (by decide) (by decide) (law_isSound ((Ot.scr (Scr.set _ _ _))) ⟨fun c => ?_, fun c => ?_⟩)), fun c => absurd (le_self _) c⟩
      · rw [sndB_sc (ht.tr (Scr.set _ _ _))] at c
        rw [b01_0.mp c] at h
        rw [setR_sc ht]
        have := h _ (ht.tr (Scr.set τ (nI (2 ^ P - 1)) P))
        rw [show setS τ (nI (2 ^ P - 1)) P 23 5 = σ 23 5 by rw [(ht.tr (Scr.set τ (nI (2 ^ P - 1)) P)) 23 (by omega)]]
        exact this
      · rw [sndB_sc (ht.tr (Scr.set _ _ _))] at c
        rw [b01_1.mp c] at h
        rw [setR_sc ht]
        have := h _ (ht.tr (Scr.set τ (nI (2 ^ P - 1)) P))
        rw [show setS τ (nI (2 ^ P - 1)) P 23 5 = σ 23 5 by rw [(ht.tr (Scr.set τ (nI (2 ^ P - 1)) P)) 23 (by omega)]]
        exact this
    | succ d ih =>
      intro i hi τ ht
      rw [u_N_X7_digest_171, (O.scr ht).h8, nI_1]
      exact ⟨fun c => absurd c (nI_ge (by omega) (by omega)), fun _ => law_N_digestWedding O ht hpk (by omega) fun τ' ht' => ih (i + 1) (by omega) τ' ht'⟩
  exact ⟨W + 1, key W 0 (by omega) τ0 hs⟩
theorem law_dg124 {post : Int64 → MS → Prop} {σ τ0 : MS} {P B W T : Nat} {a : Int64} (O : Ok σ P B W T) (hs : Scr σ τ0) (hpk : Pok σ P W) (h : ∀ τ, Scr σ τ → post (dgE σ P W (dgWs σ P W (dgB σ W a B) W)) τ) : ∃ k, u_N_X7_digest_124 post k τ0 a 0 := by
  have hB := O.hB
  have Ot := O.scr hs
  refine up_loop (fun k (q : Int64 × Int32) => u_N_X7_digest_124 post k τ0 q.1 q.2) (fun i => (dgB σ W a i, nI i)) B ?_ (fun i k hi hk => ?_)
  · show u_N_X7_digest_124 post 1 τ0 (dgB σ W a B) (nI B)
    rw [u_N_X7_digest_124, Ot.h7]
    exact ⟨fun _ => law_dg171 O hs hpk h, fun c => absurd (le_self _) c⟩
  · show u_N_X7_digest_124 post (k + 1) τ0 (dgB σ W a i) (nI i)
    have hk : u_N_X7_digest_124 post k τ0 (smL (ofBF σ W i) (dgB σ W a i) 9) (nI (i + 1)) := hk
    generalize dgB σ W a i = b at hk ⊢
    rw [u_N_X7_digest_124, Ot.h7]
    refine ⟨fun c => absurd c (nI_ge hi (by omega)), fun _ => ?_⟩
    refine up_loop (fun k' (q : Int64 × Int32) => u_N_X7_digest_135 post (fun σ w0 w1 => u_N_X7_digest_124 post k σ w0 w1) k' τ0 q.1 (nI i) q.2) (fun j => (smL (ofBF σ W i) b j, nI j)) 9 ?_ (fun j k' hj hk' => ?_)
    · show u_N_X7_digest_135 post (fun σ w0 w1 => u_N_X7_digest_124 post k σ w0 w1) 1 τ0 (smL (ofBF σ W i) b 9) (nI i) (nI 9)
      rw [u_N_X7_digest_135, nI_1]
      exact ⟨fun _ => hk, fun c => absurd (by decide) c⟩
    · show u_N_X7_digest_135 post (fun σ w0 w1 => u_N_X7_digest_124 post k σ w0 w1) (k' + 1) τ0 (smL (ofBF σ W i) b j) (nI i) (nI j)
      have hk' : u_N_X7_digest_135 post (fun σ w0 w1 => u_N_X7_digest_124 post k σ w0 w1) k' τ0 (smL (ofBF σ W i) b j * 31 + (ofBF σ W i j).toInt64) (nI i) (nI (j + 1)) := hk'
      rw [u_N_X7_digest_135, nI_1, nI_1]
      refine ⟨fun c => absurd (show nI 8 < nI j from c) (Int32.not_lt.mpr (nI_le (by omega) (by decide))), fun _ => law_N_ofBand Ot hi (by omega) ?_⟩
      rw [ofBF_sc hs]
      exact hk'
theorem law_dg80 {post : Int64 → MS → Prop} {σ τ0 : MS} {P B W T : Nat} {a : Int64} (O : Ok σ P B W T) (hs : Scr σ τ0) (hpk : Pok σ P W) (h : ∀ τ, Scr σ τ → post (dgE σ P W (dgWs σ P W (dgB σ W (dgS σ P a 16) B) W)) τ) : ∃ k, u_N_X7_digest_80 post k τ0 a 0 := by
  have Ot := O.scr hs
  refine up_loop (fun k (q : Int64 × Int32) => u_N_X7_digest_80 post k τ0 q.1 q.2) (fun i => (dgS σ P a i, nI i)) 16 ?_ (fun i k hi hk => ?_)
  · show u_N_X7_digest_80 post 1 τ0 (dgS σ P a 16) (nI 16)
    rw [u_N_X7_digest_80]
    exact ⟨fun _ => law_dg124 O hs hpk h, fun c => absurd (le_self _) c⟩
  · show u_N_X7_digest_80 post (k + 1) τ0 (dgS σ P a i) (nI i)
    have hk : u_N_X7_digest_80 post k τ0 (smL (ofSF σ P i) (dgS σ P a i) 6) (nI (i + 1)) := hk
    generalize dgS σ P a i = b at hk ⊢
    rw [u_N_X7_digest_80]
    refine ⟨fun c => absurd (show nI 16 ≤ nI i from c) (nI_ge hi (by decide)), fun _ => ?_⟩
    refine up_loop (fun k' (q : Int64 × Int32) => u_N_X7_digest_89 post (fun σ w0 w1 => u_N_X7_digest_80 post k σ w0 w1) k' τ0 q.1 (nI i) q.2) (fun j => (smL (ofSF σ P i) b j, nI j)) 6 ?_ (fun j k' hj hk' => ?_)
    · show u_N_X7_digest_89 post (fun σ w0 w1 => u_N_X7_digest_80 post k σ w0 w1) 1 τ0 (smL (ofSF σ P i) b 6) (nI i) (nI 6)
      rw [u_N_X7_digest_89, nI_1]
      exact ⟨fun _ => hk, fun c => absurd (by decide) c⟩
    · show u_N_X7_digest_89 post (fun σ w0 w1 => u_N_X7_digest_80 post k σ w0 w1) (k' + 1) τ0 (smL (ofSF σ P i) b j) (nI i) (nI j)
      have hk' : u_N_X7_digest_89 post (fun σ w0 w1 => u_N_X7_digest_80 post k σ w0 w1) k' τ0 (smL (ofSF σ P i) b j * 31 + (ofSF σ P i j).toInt64) (nI i) (nI (j + 1)) := hk'
      rw [u_N_X7_digest_89, nI_1, nI_1]
      refine ⟨fun c => absurd (show nI 5 < nI j from c) (Int32.not_lt.mpr (nI_le (by omega) (by decide))), fun _ => law_N_ofSong Ot hi (by omega) ?_⟩
      rw [ofSF_sc hs]
      exact hk'
theorem law_dg33 {post : Int64 → MS → Prop} {σ τ0 : MS} {P B W T : Nat} {a : Int64} (O : Ok σ P B W T) (hs : Scr σ τ0) (hpk : Pok σ P W) (h : ∀ τ, Scr σ τ → post (dgE σ P W (dgWs σ P W (dgB σ W (dgS σ P (dgP σ W a P) 16) B) W)) τ) : ∃ k, u_N_X7_digest_33 post k τ0 a 0 := by
  have hP := O.hP
  have Ot := O.scr hs
  refine up_loop (fun k (q : Int64 × Int32) => u_N_X7_digest_33 post k τ0 q.1 q.2) (fun i => (dgP σ W a i, nI i)) P ?_ (fun i k hi hk => ?_)
  · show u_N_X7_digest_33 post 1 τ0 (dgP σ W a P) (nI P)
    rw [u_N_X7_digest_33, Ot.h6]
    exact ⟨fun _ => law_dg80 O hs hpk h, fun c => absurd (le_self _) c⟩
  · show u_N_X7_digest_33 post (k + 1) τ0 (dgP σ W a i) (nI i)
    have hk : u_N_X7_digest_33 post k τ0 (smL (ofPF σ W i) (dgP σ W a i) 9) (nI (i + 1)) := hk
    generalize dgP σ W a i = b at hk ⊢
    rw [u_N_X7_digest_33, Ot.h6]
    refine ⟨fun c => absurd c (nI_ge hi (by omega)), fun _ => ?_⟩
    refine up_loop (fun k' (q : Int64 × Int32) => u_N_X7_digest_44 post (fun σ w0 w1 => u_N_X7_digest_33 post k σ w0 w1) k' τ0 q.1 (nI i) q.2) (fun j => (smL (ofPF σ W i) b j, nI j)) 9 ?_ (fun j k' hj hk' => ?_)
    · show u_N_X7_digest_44 post (fun σ w0 w1 => u_N_X7_digest_33 post k σ w0 w1) 1 τ0 (smL (ofPF σ W i) b 9) (nI i) (nI 9)
      rw [u_N_X7_digest_44, nI_1]
      exact ⟨fun _ => hk, fun c => absurd (by decide) c⟩
    · show u_N_X7_digest_44 post (fun σ w0 w1 => u_N_X7_digest_33 post k σ w0 w1) (k' + 1) τ0 (smL (ofPF σ W i) b j) (nI i) (nI j)
      have hk' : u_N_X7_digest_44 post (fun σ w0 w1 => u_N_X7_digest_33 post k σ w0 w1) k' τ0 (smL (ofPF σ W i) b j * 31 + (ofPF σ W i j).toInt64) (nI i) (nI (j + 1)) := hk'
      rw [u_N_X7_digest_44, nI_1, nI_1]
      refine ⟨fun c => absurd (show nI 8 < nI j from c) (Int32.not_lt.mpr (nI_le (by omega) (by decide))), fun _ => law_N_ofPlayer Ot hi (by omega) ?_⟩
      rw [ofPF_sc hs]
      exact hk'
theorem law_N_digest {post : Int64 → MS → Prop} {σ : MS} {P B W T : Nat} (O : Ok σ P B W T) (hpk : Pok σ P W) (h : ∀ τ, Scr σ τ → post (digF σ P B W) τ) : w_N_X7_digest post σ := by
  unfold w_N_X7_digest
  refine up_loop (fun k (q : Int64 × Int32) => u_N_X7_digest_6 post k σ q.1 q.2) (fun i => (smL (deskF σ P W) 58278 i, nI i)) 13 ?_ (fun i k hi hk => ?_)
  · show u_N_X7_digest_6 post 1 σ (smL (deskF σ P W) 58278 13) (nI 13)
    unfold digF at h
    generalize smL (deskF σ P W) 58278 13 = b at h ⊢
    rw [u_N_X7_digest_6]
    exact ⟨fun _ => law_dg33 O (Scr.rf σ) hpk h, fun c => absurd (by decide) c⟩
  · show u_N_X7_digest_6 post (k + 1) σ (smL (deskF σ P W) 58278 i) (nI i)
    have hk : u_N_X7_digest_6 post k σ (smL (deskF σ P W) 58278 i * 31 + (deskF σ P W i).toInt64) (nI (i + 1)) := hk
    rw [u_N_X7_digest_6, nI_1]
    exact ⟨fun c => absurd (show nI 12 < nI i from c) (Int32.not_lt.mpr (nI_le (by omega) (by decide))), fun _ => law_N_desk O (by omega) hk⟩
/-- two states that differ in scratch alone have one digest -/
theorem smL_ext {f g : Nat → Int32} (h : ∀ k, f k = g k) (a : Int64) (n : Nat) : smL f a n = smL g a n := by
  rw [show f = g from funext h]
theorem dgW_sc {σ τ : MS} (h : Scr σ τ) {P : Nat} (hP : P ≤ 10) (W w : Nat) (a : Int64) : dgW τ P W w a = dgW σ P W w a := by
  unfold dgW
  dsimp only
  rw [smL_ext (ofWF_sc h w), h.c73, setR_sc h, snF_sc h hP 0 (by decide), snF_sc h hP 1 (by decide), snF_sc h hP 3 (by decide), snF_sc h hP 5 (by decide)]
theorem dgP_sc {σ τ : MS} (h : Scr σ τ) (W : Nat) (a : Int64) : ∀ n, dgP τ W a n = dgP σ W a n
  | 0 => rfl
  | n + 1 => by unfold dgP; rw [dgP_sc h W a n, smL_ext (ofPF_sc h W n)]
theorem dgS_sc {σ τ : MS} (h : Scr σ τ) (P : Nat) (a : Int64) : ∀ n, dgS τ P a n = dgS σ P a n
  | 0 => rfl
  | n + 1 => by unfold dgS; rw [dgS_sc h P a n, smL_ext (ofSF_sc h P n)]
theorem dgB_sc {σ τ : MS} (h : Scr σ τ) (W : Nat) (a : Int64) : ∀ n, dgB τ W a n = dgB σ W a n
  | 0 => rfl
  | n + 1 => by unfold dgB; rw [dgB_sc h W a n, smL_ext (ofBF_sc h W n)]
theorem dgWs_sc {σ τ : MS} (h : Scr σ τ) {P : Nat} (hP : P ≤ 10) (W : Nat) (a : Int64) : ∀ n, dgWs τ P W a n = dgWs σ P W a n
  | 0 => rfl
  | n + 1 => by unfold dgWs; rw [dgWs_sc h hP W a n, dgW_sc h hP]
theorem digF_sc {σ τ : MS} (h : Scr σ τ) {P : Nat} (hP : P ≤ 10) (B W : Nat) : digF τ P B W = digF σ P B W := by
  unfold digF dgE
  rw [smL_ext (deskF_sc h P W), dgP_sc h, dgS_sc h, dgB_sc h, dgWs_sc h hP, setR_sc h, sndB_sc h, h 23 (by omega)]
end
section
/-! LAWS: what the survey finds; players of weddings are players -/
/-- a filling that the survey can find; y is the state in which the sets are marked -/
def filOk (y : MS) (P w : Nat) (size free : Int32) (s : Nat) : Prop :=
  1 ≤ s ∧ s < 2 ^ P ∧ nI s &&& (free ^^^ (-1)) = 0 ∧ ¬ y 8 s = 0 ∧ bcI (nI s) = size ∧ y (73 + w) 5 &&& (playF y (nI s) P ^^^ (-1)) = 0 ∧ feudB y (nI s) P = false
def bestOk (y x : MS) (P w : Nat) (size free : Int32) : Prop := x 9 3 = 0 ∨ ∃ s, filOk y P w size free s ∧ x 9 0 = nI s ∧ x 9 1 = costsF y (nI s) w P
theorem addF_8 (σ : MS) (s c k : Int32) : addF σ s c k 8 = σ 8 := by
  unfold addF
  (try dsimp only)
  rw [up2_ne (by decide), up2_ne (by decide)]
  split
  · rw [up2_ne (by decide), up2_ne (by decide), up2_ne (by decide)]
  · rfl
theorem addF_b {σ : MS} {s c k : Int32} : (addF σ s c k 9 0 = s ∧ addF σ s c k 9 1 = c) ∨ (¬ σ 9 3 = 0 ∧ addF σ s c k 9 0 = σ 9 0 ∧ addF σ s c k 9 1 = σ 9 1) := by
  unfold addF
  (try dsimp only)
  by_cases h : σ 9 3 = 0 ∨ σ 9 2 < k ∨ (k = σ 9 2 ∧ ¬ σ 9 1 ≤ c)
  · rw [if_pos h]
    refine Or.inl ⟨?_, ?_⟩
    · rw [up2_at (by omega), up2_at (by omega), up2_at (by omega), up2_at (by omega), up2_same]
    · rw [up2_at (by omega), up2_at (by omega), up2_at (by omega), up2_same]
  · rw [if_neg h]
    refine Or.inr ⟨fun q => h (Or.inl q), ?_, ?_⟩
    · rw [up2_at (by omega), up2_at (by omega)]
    · rw [up2_at (by omega), up2_at (by omega)]
theorem sv_8 (σ : MS) (P w : Nat) (size free had : Int32) : ∀ n, (sv σ P w size free had n).1 8 = σ 8
  | 0 => rfl
  | n + 1 => by
    have ih := sv_8 σ P w size free had n
    show (svS P w size free had (n + 1) (sv σ P w size free had n)).1 8 = _
    unfold svS
    split
    · split
      · split
        · exact ih
        · exact (addF_8 _ _ _ _).trans ih
      · exact ih
    · exact ih
theorem sv_best {σ : MS} {P w : Nat} {size free had : Int32} (h0 : σ 9 3 = 0) : ∀ n, n < 2 ^ P → bestOk σ (sv σ P w size free had n).1 P w size free
  | 0, _ => Or.inl h0
  | n + 1, hn => by
    have ih := sv_best (P := P) (w := w) (size := size) (free := free) (had := had) h0 n (by omega)
    have h8 := sv_8 σ P w size free had n
    have hs := Scr.sv σ P w size free had n
    show bestOk σ (svS P w size free had (n + 1) (sv σ P w size free had n)).1 P w size free
    generalize sv σ P w size free had n = x at ih h8 hs ⊢
    unfold svS
    rw [h8, hs.c73, playF_sc hs, feudB_sc hs, costsF_sc hs]
    by_cases c : nI (n + 1) &&& (free ^^^ (-1)) = 0 ∧ ¬ σ 8 (n + 1) = 0 ∧ bcI (nI (n + 1)) = size
    · rw [if_pos c]
      by_cases d : σ (73 + w) 5 &&& (playF σ (nI (n + 1)) P ^^^ (-1)) = 0
      · rw [if_pos d]
        by_cases e : feudB σ (nI (n + 1)) P = true
        · rw [if_pos e]; exact ih
        · rw [if_neg e]
          have hf : filOk σ P w size free (n + 1) := ⟨by omega, hn, c.1, c.2.1, c.2.2, d, by cases q : feudB σ (nI (n + 1)) P with
            | true => exact absurd q e
            | false => rfl⟩
          rcases addF_b (σ := x.1) (s := nI (n + 1)) (c := costsF σ (nI (n + 1)) w P) (k := bcI (nI (n + 1) &&& had)) with ⟨q1, q2⟩ | ⟨q0, q1, q2⟩
          · exact Or.inr ⟨n + 1, hf, q1, q2⟩
          · rcases ih with z | ⟨s, z1, z2, z3⟩
            · exact absurd z q0
            · exact Or.inr ⟨s, z1, q1.trans z2, q2.trans z3⟩
      · rw [if_neg d]; exact ih
    · rw [if_neg c]; exact ih
theorem sat_9 (σ : MS) (b P : Nat) : ∀ n, sat σ b P n 9 = σ 9
  | 0 => up2_ne (by decide)
  | n + 1 => by unfold sat; rw [up2_ne (by decide)]; exact sat_9 σ b P n
theorem surv_best (σ : MS) (w P : Nat) (free had : Int32) : bestOk (svIn σ w P) (survF σ w P free had) P w (σ (55 + bdOf σ w) 2) free := by
  have h0 : svIn σ w P 9 3 = 0 := by
    unfold svIn
    rw [sat_9]
    unfold clearF
    rw [up2_at (by omega), up2_at (by omega), up2_same]
  have hp0 : 0 < 2 ^ P := Nat.two_pow_pos P
  have hb := sv_best (P := P) (w := w) (size := σ (55 + bdOf σ w) 2) (free := free) (had := had) h0 (2 ^ P - 1) (by omega)
  unfold survF svAll
  generalize sv (svIn σ w P) P w (σ (55 + bdOf σ w) 2) free had (2 ^ P - 1) = x at hb ⊢
  unfold bestOk at hb ⊢
  rw [up2_at (by omega), up2_at (by omega), up2_at (by omega)]
  exact hb
theorem clear_7 (σ : MS) : clearF σ 7 = σ 7 := by
  unfold clearF
  rw [up2_ne (by decide), up2_ne (by decide), up2_ne (by decide), up2_ne (by decide), up2_ne (by decide), up2_ne (by decide)]
theorem sat_7 (σ : MS) (b P : Nat) : ∀ n, sat σ b P n 7 = σ 7
  | 0 => up2_ne (by decide)
  | n + 1 => by unfold sat; rw [up2_ne (by decide)]; exact sat_7 σ b P n
theorem addF_7 (σ : MS) (s c k : Int32) : addF σ s c k 7 = σ 7 := by
  unfold addF
  (try dsimp only)
  rw [up2_ne (by decide), up2_ne (by decide)]
  split
  · rw [up2_ne (by decide), up2_ne (by decide), up2_ne (by decide)]
  · rfl
theorem sv_7 (σ : MS) (P w : Nat) (size free had : Int32) : ∀ n, (sv σ P w size free had n).1 7 = σ 7
  | 0 => rfl
  | n + 1 => by
    have ih := sv_7 σ P w size free had n
    show (svS P w size free had (n + 1) (sv σ P w size free had n)).1 7 = _
    unfold svS
    split
    · split
      · split
        · exact ih
        · exact (addF_7 _ _ _ _).trans ih
      · exact ih
    · exact ih
/-! players of weddings are players -/
def inP (P : Nat) (v : Int32) : Prop := 0 ≤ v ∧ v < nI (2 ^ P)
theorem inP_0 (P : Nat) (hP : P ≤ 10) : inP P 0 := ⟨by decide, by
  have := pw1024 hP
  exact nI_lt (show 0 < 2 ^ P by omega) (by omega)⟩
theorem inP_n {P s : Nat} (hP : P ≤ 10) (h : s < 2 ^ P) : inP P (nI s) := by
  have := pw1024 hP
  exact ⟨nI_pos' (by omega), nI_lt h (by omega)⟩
theorem inP_up {P : Nat} {v : Int32} (hP : P < 10) (h : inP P v) : inP (P + 1) v := ⟨h.1, Int32.lt_of_lt_of_le h.2 (by
  have := pw1024 (show P + 1 ≤ 10 by omega)
  exact nI_le (Nat.pow_le_pow_right (by decide) (by omega)) (by omega))⟩
def Pk (σ : MS) (P : Nat) : Prop := ∀ w, w < 14 → inP P (σ (73 + w) 8)
theorem Pk.ok {σ : MS} {P W : Nat} (h : Pk σ P) (hW : W ≤ 14) : Pok σ P W := fun w hw => h w (by omega)
theorem Pk.scr {σ τ : MS} {P : Nat} (h : Pk σ P) (hs : Scr σ τ) : Pk τ P := fun w hw => by rw [hs.c73]; exact h w hw
/-- but the players of weddings -/
def Kw (σ τ : MS) : Prop := ∀ w, w < 14 → τ (73 + w) 8 = σ (73 + w) 8
theorem Kw.rf (σ : MS) : Kw σ σ := fun _ _ => rfl
theorem Kw.tr {a b c : MS} (h : Kw a b) (g : Kw b c) : Kw a c := fun w hw => (g w hw).trans (h w hw)
theorem Kw.up {σ : MS} {k j : Nat} {v : Int32} (h : k < 73 ∨ j ≠ 8) : Kw σ (up2 σ k j v) := fun w hw => up2_at (by omega)
theorem Kw.scr {σ τ : MS} (h : Scr σ τ) : Kw σ τ := fun w _ => by rw [h.c73]
theorem Pk.kw {σ τ : MS} {P : Nat} (h : Pk σ P) (hk : Kw σ τ) : Pk τ P := fun w hw => by rw [hk w hw]; exact h w hw
theorem Pk.put {σ : MS} {P w : Nat} {s : Int32} (h : Pk σ P) (hs : inP P s) : Pk (up2 σ (73 + w) 8 s) P := fun v hv => by
  by_cases e : v = w
  · subst e; rw [up2_same]; exact hs
  · rw [up2_at (by omega)]; exact h v hv
theorem Kw.paid (σ : MS) (w : Nat) (a : Int32) : Kw σ (paidF σ w a) := (Kw.up (Or.inr (by decide))).tr (Kw.up (Or.inr (by decide)))
theorem Kw.lose (σ : MS) (a n : Nat) : Kw σ (loseQ σ a n) := fun w hw => if_neg (by omega)
theorem Kw.wait (σ : MS) (n : Nat) : Kw σ (waitL σ n) := fun w hw => if_neg (by omega)
theorem Kw.py (x : MS) (w : Nat) : ∀ n, Kw x (pyS x w n)
  | 0 => Kw.rf x
  | n + 1 => by
    have ih := Kw.py x w n
    unfold pyS
    split
    · exact ih.tr ((((Kw.up (Or.inr (by decide))).tr (Kw.up (Or.inr (by decide)))).tr (Kw.up (Or.inr (by decide)))).tr (Kw.up (Or.inr (by decide))))
    · exact ih
theorem Kw.ply (y : MS) : ∀ n, Kw y (plyS y n)
  | 0 => Kw.rf y
  | n + 1 => (Kw.ply y n).tr (Kw.up (Or.inr (by decide)))
theorem Kw.out (σ : MS) (w P : Nat) : Kw σ (outS σ w P) := ((((Kw.paid σ w _).tr (Kw.py _ w P)).tr (Kw.scr (Scr.set _ _ _))).tr (Kw.ply _ _)).tr (Kw.up (Or.inr (by decide)))
theorem kw_edA (σ : MS) (P : Nat) : ∀ n, Kw σ (edA σ P n)
  | 0 => Kw.rf σ
  | n + 1 => by
    have ih := kw_edA σ P n
    unfold edA
    split
    · exact ih.tr (Kw.out _ _ _)
    · exact ih
theorem kw_edB (σ : MS) : ∀ n, Kw σ (edB σ n)
  | 0 => Kw.rf σ
  | n + 1 => by
    have ih := kw_edB σ n
    unfold edB
    split
    · exact ih.tr (Kw.up (Or.inr (by decide)))
    · exact ih
theorem kw_dayS (σ : MS) (P W : Nat) : Kw σ (dayS σ P W) := (((kw_edA σ P W).tr (kw_edB _ W)).tr (Kw.up (Or.inl (by decide)))).tr (Kw.wait _ W)
theorem kw_psS (σ : MS) (P W : Nat) : ∀ n, Kw σ (psS σ P W n)
  | 0 => Kw.rf σ
  | n + 1 => (kw_psS σ P W n).tr (kw_dayS _ P W)
theorem surv_in {σ : MS} {w P : Nat} {free had : Int32} (hP : P ≤ 10) (h : ¬ survF σ w P free had 9 3 = 0) : inP P (survF σ w P free had 9 0) := by
  rcases surv_best σ w P free had with q | ⟨s, q1, q2, _⟩
  · exact absurd q h
  · rw [q2]; exact inP_n hP q1.2.1
theorem Pk.fix {σ : MS} {P w W : Nat} (h : Pk σ P) (hP : P ≤ 10) (hc : ¬ snF σ w P W 9 3 = 0) : Pk (fixS σ w P W) P := by
  unfold fixS
  (try dsimp only)
  have h1 := h.scr (Scr.sn σ w P W)
  have h2 : inP P (snF σ w P W 9 0) := surv_in hP hc
  generalize snF σ w P W = y at h1 h2 ⊢
  have e : loseQ y w W 9 = y 9 := loseQ_k (by decide)
  rw [e]
  exact ((((h1.kw (Kw.lose y w W)).kw (Kw.up (Or.inr (by decide)))).put h2).kw (Kw.up (Or.inr (by decide)))).kw (Kw.paid _ _ _)
theorem Pk.can {σ : MS} {P w : Nat} (h : Pk σ P) : Pk (canS σ w) P := by
  unfold canS
  split
  · exact (h.kw (Kw.paid _ _ _)).kw (Kw.up (Or.inr (by decide)))
  · exact h.kw (Kw.up (Or.inr (by decide)))
theorem sw_in {σ : MS} {P W p : Nat} {day : Int32} (hP : P ≤ 10) (hk : Pk σ P) (hW : W ≤ 14) : ∀ n, ∀ j, j < W → inP P ((swS σ P W p day n).1 7 j)
  | 0, j, hj => by
    show inP P (stg σ W 7 j)
    unfold stg
    rw [if_pos ⟨rfl, hj⟩]
    split
    · exact hk j (by omega)
    · exact inP_0 P hP
  | n + 1, j, hj => by
    have ih := sw_in (p := p) (day := day) hP hk hW n
    unfold swS
    (try dsimp only)
    generalize swS σ P W p day n = x at ih ⊢
    split
    · dsimp only
      have e7 : survF x.1 n P (freeF x.1 n W P &&& (one p ^^^ (-1))) (x.1 7 n) 7 = x.1 7 := by
        unfold survF svAll
        rw [up2_ne (by decide), sv_7]
        unfold svIn
        rw [sat_7]
        exact clear_7 _
      have hi := surv_in (σ := x.1) (w := n) (free := freeF x.1 n W P &&& (one p ^^^ (-1))) (had := x.1 7 n) hP
      generalize survF x.1 n P (freeF x.1 n W P &&& (one p ^^^ (-1))) (x.1 7 n) = y at e7 hi ⊢
      by_cases e : j = n
      · subst e
        rw [up2_same]
        split
        · exact inP_0 P hP
        · rename_i c
          exact hi c
      · rw [up2_at (Or.inr e), e7]
        exact ih j hj
    · exact ih j hj
theorem pk_putF {σ : MS} {P w : Nat} {s : Int32} (h : Pk σ P) (hs : inP P s) : Pk (putF σ w s) P := by
  unfold putF
  split
  · exact (h.kw (Kw.up (Or.inr (by decide)))).kw (Kw.paid _ _ _)
  · exact h.put hs
theorem illS_7 {σ : MS} {p : Nat} {day : Int32} : ∀ n, illS σ p day n 7 = σ 7
  | 0 => rfl
  | n + 1 => by
    have ih := illS_7 (σ := σ) (p := p) (day := day) n
    unfold illS
    split
    · rw [← ih]
      generalize illS σ p day n = y
      unfold putF paidF
      split
      · rw [up2_ne (by omega), up2_ne (by omega), up2_ne (by omega)]
      · rw [up2_ne (by omega)]
    · exact ih
theorem Pk.ill {σ : MS} {P W p : Nat} {day : Int32} (h : Pk σ P) (hs : ∀ j, j < W → inP P (σ 7 j)) : ∀ n, n ≤ W → Pk (illS σ p day n) P
  | 0, _ => h
  | n + 1, hn => by
    have ih := Pk.ill (p := p) (day := day) h hs n (by omega)
    unfold illS
    split
    · rw [illS_7]
      exact pk_putF ih (hs n (by omega))
    · exact ih
end
