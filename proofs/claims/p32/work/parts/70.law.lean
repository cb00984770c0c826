/-! LAWS of p32's law: its twenty times -/
theorem RF.tr {a b c : MS} {w : Nat} (h : RA a b w) (g : RF b c w) : RF a c w := by
  rcases g with g | ⟨g, g2⟩
  · exact Or.inl (h.tr g)
  · rcases h.1 with e | ⟨_, f⟩ | ⟨_, f⟩
    · exact Or.inr ⟨by rw [← e]; exact g, g2⟩
    · rw [f] at g; exact absurd g (by decide)
    · rcases f with f | f <;> (rw [f] at g; exact absurd g (by decide))
theorem Rl.tr {a b c : MS} (h : RlA a b) (g : Rl b c) : Rl a c := ⟨fun w hw => RF.tr (h.1 w hw) (g.1 w hw), fun s hs => Nat.le_trans (h.2 s hs) (g.2 s hs)⟩
/-- what is remembered of the time before: an asked one has no price; songs were played so often -/
def Zq (ρ : MS) : Prop := (∀ w, w < 14 → (ρ (73 + w) 7 = 0 → ρ (73 + w) 9 = 0) ∧ ∃ n, n ≤ 3 ∧ ρ (73 + w) 7 = nI n) ∧ ∀ s, s < 16 → ∃ n, n ≤ 224 ∧ ρ (39 + s) 3 = nI n
theorem Wd.st4 {σ : MS} {P Tl Tp w : Nat} (H : Wd σ P Tl Tp w) : (σ (73 + w) 7 = 0 → σ (73 + w) 9 = 0) ∧ ∃ n, n ≤ 3 ∧ σ (73 + w) 7 = nI n := by
  rcases H with ⟨z, _, z2, _⟩ | ⟨z, _⟩ | ⟨z, _⟩ | z
  · exact ⟨fun _ => z2, 0, by omega, z⟩
  · exact ⟨fun c => by rw [z] at c; exact absurd c (by decide), 1, by omega, z⟩
  · exact ⟨fun c => by rw [z] at c; exact absurd c (by decide), 2, by omega, z⟩
  · exact ⟨fun c => by rw [z] at c; exact absurd c (by decide), 3, by omega, z⟩
theorem Inv.zq {σ : MS} {P B W T : Nat} (H : Inv σ P B W T) : Zq σ := by
  have hW := H.2.2.1.hW
  have d0 := H.2.2.2.2.2.1
  have d1 := H.2.2.2.2.2.2.1
  have d5 := H.2.2.2.2.2.2.2.2.2.2.2
  have hn : nPl σ W ≤ 14 := Nat.le_trans (fb_ct_le _ _) hW
  refine ⟨fun w hw => ?_, fun s hs => ?_⟩
  · by_cases c : w < W
    · exact (d1 w c).st4
    · have h := d0 w (by omega) hw
      exact ⟨fun _ => h.2.2.1, 0, by omega, h.1⟩
  · obtain ⟨n, n1, n2⟩ := d5 s hs
    exact ⟨n, by omega, n1⟩
/-- the four states are all -/
theorem ct4 {σ : MS} : ∀ W, (∀ w, w < W → ∃ n, n ≤ 3 ∧ σ (73 + w) 7 = nI n) → fb_ct (fun w => decide (σ (73 + w) 7 = 0)) W + fb_ct (fun w => decide (σ (73 + w) 7 = 1)) W + fb_ct (fun w => decide (σ (73 + w) 7 = 2)) W + fb_ct (fun w => decide (σ (73 + w) 7 = 3)) W = W
  | 0, _ => rfl
  | k + 1, h => by
    have ih := ct4 k (fun w hw => h w (by omega))
    rw [fb_ct_succ, fb_ct_succ, fb_ct_succ, fb_ct_succ]
    obtain ⟨n, hn, e⟩ := h k (by omega)
    have d : ∀ j, j ≤ 3 → (if decide (σ (73 + k) 7 = nI j) = true then 1 else 0) = if j = n then 1 else 0 := fun j hj => by
      rw [e]
      by_cases c : j = n
      · subst c; rw [if_pos (decide_eq_true rfl), if_pos rfl]
      · rw [if_neg (fun q => c ((nI_eq (by omega) (by omega)).mp (of_decide_eq_true q)).symm), if_neg c]
    have e0 := d 0 (by omega)
    have e1 := d 1 (by omega)
    have e2 := d 2 (by omega)
    have e3 := d 3 (by omega)
    have e0 : (if decide (σ (73 + k) 7 = 0) = true then 1 else 0) = if 0 = n then 1 else 0 := e0
    have e1 : (if decide (σ (73 + k) 7 = 1) = true then 1 else 0) = if 1 = n then 1 else 0 := e1
    have e2 : (if decide (σ (73 + k) 7 = 2) = true then 1 else 0) = if 2 = n then 1 else 0 := e2
    have e3 : (if decide (σ (73 + k) 7 = 3) = true then 1 else 0) = if 3 = n then 1 else 0 := e3
    rw [e0, e1, e2, e3]
    split <;> split <;> split <;> split <;> omega
theorem sm16 {ρ σ : MS} (hz : Zq ρ) (hs : Zq σ) (h : Sm ρ σ) : ¬ sumI (fun s => σ (39 + s) 3) 16 < sumI (fun s => ρ (39 + s) 3) 16 := by
  have f : ∀ x : MS, Zq x → sumI (fun s => x (39 + s) 3) 16 = nI (fb_sm (fun s => (x (39 + s) 3).toNatClampNeg) 16) ∧ fb_sm (fun s => (x (39 + s) 3).toNatClampNeg) 16 ≤ 16 * 224 := fun x hx => by
    refine ⟨sum_nI 16 (fun s hs => ?_), fb_sm_bound (fun s hs => ?_)⟩
    · obtain ⟨n, n1, n2⟩ := hx.2 s hs
      rw [n2, nI_clamp (by omega)]
    · obtain ⟨n, n1, n2⟩ := hx.2 s hs
      rw [n2, nI_clamp (by omega)]
      exact n1
  obtain ⟨a1, a2⟩ := f ρ hz
  obtain ⟨b1, b2⟩ := f σ hs
  rw [a1, b1]
  exact nI_nlt (fb_sm_le h) (by omega)
/-- what holds at each time -/
def LI (P i : Nat) (σ : MS) (τ0 τ1 : Nat → Int32) (v4 : Int32) : Prop := ∃ ρ W T, Zq ρ ∧ (∀ j, j < 14 → τ0 j = ρ (73 + j) 7 ∧ τ1 j = ρ (73 + j) 9) ∧ v4 = sumI (fun s => ρ (39 + s) 3) 16 ∧ RlA ρ σ ∧ Inv σ P 3 W T ∧ 1 ≤ W ∧ T ≤ 2 * i
theorem law_208 {K : MS → (Nat → Int32) → (Nat → Int32) → Int32 → Int32 → Prop} {ρ σ : MS} {P W V T i : Nat} {τ0 τ1 : Nat → Int32} {v4 : Int32} (hz : Zq ρ) (hτ : ∀ j, j < 14 → τ0 j = ρ (73 + j) 7 ∧ τ1 j = ρ (73 + j) 9) (hR : Rl ρ σ) (H : Inv σ P 3 W T)
    (h : ∀ τ0' τ1', (∀ j, j < 14 → τ0' j = σ (73 + j) 7 ∧ τ1' j = σ (73 + j) 9) → K σ τ0' τ1' v4 (nI i + 1)) : ∃ k, u_L_law_208 K k σ τ0 τ1 v4 (nI i) (nI V) 0 := by
  have O := H.2.2.1
  have hW := O.hW
  have hs := H.zq
  have d0 := H.2.2.2.2.2.1
  have key := up_loop (fun k (q : MS × (Nat → Int32) × (Nat → Int32) × Int32) => u_L_law_208 K k q.1 q.2.1 q.2.2.1 v4 (nI i) (nI V) q.2.2.2) (fun j => (σ, (fun x => if x < j then σ (73 + x) 7 else τ0 x), (fun x => if x < j then σ (73 + x) 9 else τ1 x), nI j)) W ?_ (fun j k hj hk => ?_)
  · have e0 : (fun x => if x < 0 then σ (73 + x) 7 else τ0 x) = τ0 := funext fun x => if_neg (by omega)
    have e1 : (fun x => if x < 0 then σ (73 + x) 9 else τ1 x) = τ1 := funext fun x => if_neg (by omega)
    obtain ⟨k, hk⟩ := key
    have hk : u_L_law_208 K k σ (fun x => if x < 0 then σ (73 + x) 7 else τ0 x) (fun x => if x < 0 then σ (73 + x) 9 else τ1 x) v4 (nI i) (nI V) 0 := hk
    rw [e0, e1] at hk
    exact ⟨k, hk⟩
  · show u_L_law_208 K 1 σ (fun x => if x < W then σ (73 + x) 7 else τ0 x) (fun x => if x < W then σ (73 + x) 9 else τ1 x) v4 (nI i) (nI V) (nI W)
    rw [u_L_law_208]
    refine law_N_desk (k := 3) O (by decide) ⟨fun _ => law_isSo H ⟨fun c => absurd c (by decide), fun _ => h _ _ (fun j hj => ?_)⟩, fun c => absurd (show σ 0 8 ≤ nI W by rw [O.h8]; exact le_self _) c⟩
    by_cases c : j < W
    · rw [if_pos c, if_pos c]; exact ⟨rfl, rfl⟩
    · rw [if_neg c, if_neg c, (hτ j hj).1, (hτ j hj).2]
      have g := d0 j (by omega) hj
      have e : ρ (73 + j) 7 = 0 := by
        rcases hR.1 j hj with ⟨q | ⟨q, _⟩ | ⟨_, q | q⟩, _⟩ | ⟨_, q⟩
        · rw [← q]; exact g.1
        · exact q
        · rw [g.1] at q; exact absurd q (by decide)
        · rw [g.1] at q; exact absurd q (by decide)
        · rw [g.1] at q; exact absurd q (by decide)
      rw [e, (hz.1 j hj).1 e, g.1, g.2.2.1]
      exact ⟨rfl, rfl⟩
  · show u_L_law_208 K (k + 1) σ (fun x => if x < j then σ (73 + x) 7 else τ0 x) (fun x => if x < j then σ (73 + x) 9 else τ1 x) v4 (nI i) (nI V) (nI j)
    have hk : u_L_law_208 K k σ (fun x => if x < j + 1 then σ (73 + x) 7 else τ0 x) (fun x => if x < j + 1 then σ (73 + x) 9 else τ1 x) v4 (nI i) (nI V) (nI (j + 1)) := hk
    have e0 : (fun x => if x < j + 1 then σ (73 + x) 7 else τ0 x) = upd (fun x => if x < j then σ (73 + x) 7 else τ0 x) j (σ (73 + j) 7) := funext fun x => by
      unfold upd
      by_cases c : x = j
      · subst c; rw [if_pos (by omega), if_pos rfl]
      · by_cases d : x < j
        · rw [if_pos (by omega), if_neg c]; exact (if_pos d).symm
        · rw [if_neg (by omega), if_neg c]; exact (if_neg d).symm
    have e1 : (fun x => if x < j + 1 then σ (73 + x) 9 else τ1 x) = upd (fun x => if x < j then σ (73 + x) 9 else τ1 x) j (σ (73 + j) 9) := funext fun x => by
      unfold upd
      by_cases c : x = j
      · subst c; rw [if_pos (by omega), if_pos rfl]
      · by_cases d : x < j
        · rw [if_pos (by omega), if_neg c]; exact (if_pos d).symm
        · rw [if_neg (by omega), if_neg c]; exact (if_neg d).symm
    rw [e0, e1, ← nI_1 j] at hk
    have g0 : (fun x => if x < j then σ (73 + x) 7 else τ0 x) j = ρ (73 + j) 7 := (if_neg (by omega)).trans (hτ j (by omega)).1
    have g1 : (fun x => if x < j then σ (73 + x) 9 else τ1 x) j = ρ (73 + j) 9 := (if_neg (by omega)).trans (hτ j (by omega)).2
    generalize (fun x => if x < j then σ (73 + x) 7 else τ0 x) = t0 at hk g0 ⊢
    generalize (fun x => if x < j then σ (73 + x) 9 else τ1 x) = t1 at hk g1 ⊢
    have vj : vp_in (nI j) 14 := vp_in_nI (by omega) (by decide)
    have K309 : u_L_law_309 K (fun σ w0 w1 w2 w3 w4 w5 => u_L_law_208 K k σ w0 w1 w2 w3 w4 w5) σ t0 t1 v4 (nI i) (nI V) (nI j) (σ (73 + j) 7) (σ (73 + j) 9) := by
      unfold u_L_law_309
      rw [nI_clamp (by omega)]
      exact ⟨vj, vj, hk⟩
    have K297 : u_L_law_297 K (fun σ w0 w1 w2 w3 w4 w5 => u_L_law_208 K k σ w0 w1 w2 w3 w4 w5) σ t0 t1 v4 (nI i) (nI V) (nI j) (σ (73 + j) 7) (σ (73 + j) 9) := by
      unfold u_L_law_297
      exact ⟨fun c => ⟨fun _ => K309, fun d => d ((hs.1 j (by omega)).1 c)⟩, fun _ => K309⟩
    have K281 : u_L_law_281 K (fun σ w0 w1 w2 w3 w4 w5 => u_L_law_208 K k σ w0 w1 w2 w3 w4 w5) σ t0 t1 v4 (nI i) (nI V) (nI j) (σ (73 + j) 7) (σ (73 + j) 9) := by
      unfold u_L_law_281
      rw [nI_clamp (by omega), g1]
      refine ⟨vj, fun _ => K297, fun c => ⟨vj, fun _ => K297, fun d => ?_⟩⟩
      rcases hR.1 j (by omega) with ⟨_, q⟩ | ⟨q, _⟩
      · exact d q
      · rw [(hz.1 j (by omega)).1 q] at c
        exact c (by decide)
    have K261 : u_L_law_261 K (fun σ w0 w1 w2 w3 w4 w5 => u_L_law_208 K k σ w0 w1 w2 w3 w4 w5) σ t0 t1 v4 (nI i) (nI V) (nI j) (σ (73 + j) 7) (σ (73 + j) 9) := by
      unfold u_L_law_261
      rw [nI_clamp (by omega), g0]
      refine ⟨fun c => ⟨fun _ => K281, fun _ => ⟨vj, fun d => ?_, fun _ => K281⟩⟩, fun _ => K281⟩
      rcases hR.1 j (by omega) with ⟨q | ⟨_, q⟩ | ⟨q, _⟩, _⟩ | ⟨_, q⟩
      · rw [c, d] at q; exact absurd q (by decide)
      · rw [c] at q; exact absurd q (by decide)
      · rw [d] at q; exact absurd q (by decide)
      · rw [c] at q; exact absurd q (by decide)
    rw [u_L_law_208]
    refine law_N_desk (k := 3) O (by decide) ⟨fun c => absurd (show nI W ≤ nI j by rw [← O.h8]; exact c) (nI_ge hj (by omega)), fun _ => law_N_ofWedding (k := 6) O hj (by decide) (law_N_ofWedding (k := 8) O hj (by decide) ?_)⟩
    rw [nI_clamp (by omega), g0]
    refine ⟨vj, fun c => ?_, fun _ => ⟨vj, fun c => ⟨fun _ => K261, fun d => ?_⟩, fun _ => K261⟩⟩
    · have c : σ (73 + j) 7 < ρ (73 + j) 7 := c
      rcases hR.1 j (by omega) with ⟨q | ⟨q, q2⟩ | ⟨q, q2 | q2⟩, _⟩ | ⟨q, q2⟩
      · rw [q] at c; exact Int32.lt_irrefl c
      · rw [q, q2] at c; exact absurd c (by decide)
      · rw [q, q2] at c; exact absurd c (by decide)
      · rw [q, q2] at c; exact absurd c (by decide)
      · rw [q, q2] at c; exact absurd c (by decide)
    · have d : ¬ σ (73 + j) 7 = 2 := d
      rcases hR.1 j (by omega) with ⟨q | ⟨q, _⟩ | ⟨q, _⟩, _⟩ | ⟨q, _⟩
      · exact d (q.trans c)
      · rw [c] at q; exact absurd q (by decide)
      · rw [c] at q; exact absurd q (by decide)
      · rw [c] at q; exact absurd q (by decide)
theorem law_134 {K : MS → (Nat → Int32) → (Nat → Int32) → Int32 → Int32 → Prop} {ρ σ : MS} {P W V T i : Nat} {τ0 τ1 : Nat → Int32} {v4 : Int32} (hz : Zq ρ) (hτ : ∀ j, j < 14 → τ0 j = ρ (73 + j) 7 ∧ τ1 j = ρ (73 + j) 9) (h4 : v4 = sumI (fun s => ρ (39 + s) 3) 16) (hR : Rl ρ σ) (H : Inv σ P 3 W T)
    (h : ∀ τ0' τ1', (∀ j, j < 14 → τ0' j = σ (73 + j) 7 ∧ τ1' j = σ (73 + j) 9) → K σ τ0' τ1' (sumI (fun s => σ (39 + s) 3) 16) (nI i + 1)) : ∃ k, u_L_law_134 K k σ τ0 τ1 v4 (nI i) (nI V) 0 0 := by
  have O := H.2.2.1
  have hW := O.hW
  have hs := H.zq
  refine up_loop (fun k (q : MS × Int32 × Int32) => u_L_law_134 K k q.1 τ0 τ1 v4 (nI i) (nI V) q.2.1 q.2.2) (fun j => (σ, sumI (fun s => σ (39 + s) 3) j, nI j)) 16 ?_ (fun j k hj hk => ?_)
  · show u_L_law_134 K 1 σ τ0 τ1 v4 (nI i) (nI V) (sumI (fun s => σ (39 + s) 3) 16) (nI 16)
    rw [u_L_law_134]
    refine ⟨fun _ => ⟨fun c => ?_, fun _ => law_N_desk (k := 4) O (by decide) (law_N_desk (k := 5) O (by decide) (law_N_desk (k := 6) O (by decide) (law_N_desk (k := 7) O (by decide) (law_N_desk (k := 3) O (by decide) ⟨fun _ => law_208 hz hτ hR H h, fun c => c ?_⟩))))⟩, fun c => absurd (le_self (nI 16)) c⟩
    · rw [h4] at c
      exact sm16 hz hs hR.2 c
    · show nI _ + nI _ + nI _ + nI _ = σ 0 8
      rw [O.h8, nI_add, nI_add, nI_add, ct4 W (fun w hw => (hs.1 w (by omega)).2)]
  · show u_L_law_134 K (k + 1) σ τ0 τ1 v4 (nI i) (nI V) (sumI (fun s => σ (39 + s) 3) j) (nI j)
    have hk : u_L_law_134 K k σ τ0 τ1 v4 (nI i) (nI V) (sumI (fun s => σ (39 + s) 3) j + σ (39 + j) 3) (nI (j + 1)) := hk
    rw [← nI_1 j] at hk
    rw [u_L_law_134]
    exact ⟨fun c => absurd (show nI 16 ≤ nI j from c) (nI_ge hj (by decide)), fun _ => law_N_ofSong (k := 3) O hj (by decide) hk⟩
theorem law_82 {K : MS → (Nat → Int32) → (Nat → Int32) → Int32 → Int32 → Prop} {ρ σ : MS} {P W V T U i : Nat} {τ0 τ1 : Nat → Int32} {v4 : Int32} (hz : Zq ρ) (hτ : ∀ j, j < 14 → τ0 j = ρ (73 + j) 7 ∧ τ1 j = ρ (73 + j) 9) (h4 : v4 = sumI (fun s => ρ (39 + s) 3) 16) (hR : Rl ρ σ) (H : Inv σ P 3 W T) (hV : V ≤ W) (hV2 : W ≤ V + 1) (hU : U ≤ T) (hU2 : T ≤ U + 2)
    (h : ∀ τ0' τ1', (∀ j, j < 14 → τ0' j = σ (73 + j) 7 ∧ τ1' j = σ (73 + j) 9) → K σ τ0' τ1' (sumI (fun s => σ (39 + s) 3) 16) (nI i + 1)) : u_L_law_82 K σ τ0 τ1 v4 (nI i) (nI U) (nI V) := by
  have O := H.2.2.1
  have hW := O.hW
  have hT := O.hT
  unfold u_L_law_82
  refine law_N_desk (k := 0) O (by decide) ⟨fun c => ?_, fun _ => law_N_desk (k := 0) O (by decide) ⟨fun c => ?_, fun _ => law_N_desk (k := 3) O (by decide) ⟨fun c => ?_, fun _ => law_N_desk (k := 3) O (by decide) ⟨fun _ => law_134 hz hτ h4 hR H h, fun c => ?_⟩⟩⟩⟩
  · have c : σ 0 9 < nI U := c
    rw [O.h9] at c
    exact absurd c (nI_nlt hU (by omega))
  · have c : nI U + nI 2 < σ 0 9 := c
    rw [O.h9, nI_add] at c
    exact absurd c (nI_nlt hU2 (by omega))
  · have c : σ 0 8 < nI V := c
    rw [O.h8] at c
    exact absurd c (nI_nlt hV (by omega))
  · have c : ¬ σ 0 8 ≤ nI V + nI 1 := c
    rw [O.h8, nI_add] at c
    exact absurd (nI_le hV2 (by omega)) c
theorem law_21 {P : Nat} (hP0 : 2 ≤ P) : ∀ d i, i + d = 20 → ∀ σ τ0 τ1 v4, LI P i σ τ0 τ1 v4 → u_L_law_21 (d + 1) σ τ0 τ1 v4 (nI i)
  | 0, i, hi, σ, τ0, τ1, v4, h => by
    obtain rfl : i = 20 := by omega
    obtain ⟨ρ, W, T, hz, hτ, h4, hR, H, hW0, hT2⟩ := h
    have O := H.2.2.1
    have K := H.2.2.2.1
    rw [u_L_law_21]
    refine ⟨fun _ => law_N_digest O (K.ok O.hW) (fun τ s1 => ?_), fun c => absurd (le_self (nI 20)) c⟩
    have H1 := H.scr s1
    have O1 := H1.2.2.1
    refine law_isSound O1 ⟨fun c => ?_, fun _ => law_N_digest O1 (H1.2.2.2.1.ok O1.hW) (fun τ' s2 => ⟨fun _ => trivial, fun c => c ?_⟩)⟩
    · rw [snd_yes H1] at c
      exact absurd c (by decide)
    · rw [digF_sc s1 O.hP]
      exact (lg_cmp_eq _ _).mpr rfl
  | d + 1, i, hi, σ, τ0, τ1, v4, h => by
    obtain ⟨ρ, W, T, hz, hτ, h4, hR, H, hW0, hT2⟩ := h
    have O := H.2.2.1
    have hW := O.hW
    have K := H.2.2.2.1
    have next : ∀ σ' τ0' τ1' W' T', Inv σ' P 3 W' T' → W ≤ W' → T' ≤ T + 2 → (∀ j, j < 14 → τ0' j = σ' (73 + j) 7 ∧ τ1' j = σ' (73 + j) 9) → u_L_law_21 (d + 1) σ' τ0' τ1' (sumI (fun s => σ' (39 + s) 3) 16) (nI i + 1) := fun σ' τ0' τ1' W' T' H' w1 t1 e => by
      rw [nI_1]
      exact law_21 hP0 d (i + 1) (by omega) _ _ _ _ ⟨σ', W', T', H'.zq, e, rfl, RlA.rf σ', H', by omega, by omega⟩
    rw [u_L_law_21]
    refine ⟨fun c => absurd (show nI 20 ≤ nI i from c) (nI_ge (by omega) (by omega)), fun _ => ⟨?_, fun a => ?_⟩⟩
    · rw [show (15 : Int32) + nI i = nI (15 + i) from nI_add 15 i]
      exact nI_pos (by omega)
    · refine law_N_desk (k := 0) O (by decide) (law_N_desk (k := 3) O (by decide) ?_)
      show w_N_X7_digest _ σ
      rw [show deskF σ P W 0 = nI T from O.h9, show deskF σ P W 3 = nI W from O.h8]
      refine law_N_digest O (K.ok hW) (fun τ s1 => ?_)
      have H1 := H.scr s1
      have O1 := H1.2.2.1
      have R1 : RlA ρ τ := hR.tr (RlA.dy (Dy.scr s1))
      refine law_isDone H1 (by omega) (by decide) hW0 (by omega) (fun τ' s2 => ⟨fun _ => ?_, fun c => absurd rfl c⟩) (fun τ' W' T' w1 w2 t1 t2 H' R' => ⟨fun c => absurd c (by decide), fun _ => ?_⟩)
      · have H2 := H1.scr s2
        have O2 := H2.2.2.1
        refine law_N_digest O2 (H2.2.2.2.1.ok hW) (fun τ'' s3 => ⟨fun _ => ?_, fun c => c ?_⟩)
        · exact law_82 hz hτ h4 ((R1.tr (RlA.dy (Dy.scr s2))).tr (RlA.dy (Dy.scr s3))).rl (H2.scr s3) (by omega) (by omega) (by omega) (by omega) (fun τ0' τ1' e => next _ _ _ W T (H2.scr s3) (by omega) (by omega) e)
        · rw [digF_sc (s1.tr s2) O.hP]
          exact (lg_cmp_eq _ _).mpr rfl
      · exact law_82 hz hτ h4 (Rl.tr R1 R') H' w1 w2 t1 t2 (fun τ0' τ1' e => next _ _ _ W' T' H' w1 t2 e)
theorem law_law4 {P W : Nat} {ρ τ : MS} (hP : 2 ≤ P) (hJ : J ρ P 3) (hW : 1 ≤ W) (H : Inv τ P 3 W 0) (hR : RlA ρ τ) : u_L_law_4 τ := by
  refine ⟨21, by decide, ?_⟩
  obtain ⟨_, _, _, z1, z2, z3, z4, z5, z6⟩ := id hJ
  refine law_21 hP 20 0 (by omega) τ _ _ _ ⟨ρ, W, 0, hJ.inv.zq, fun j hj => ⟨?_, ?_⟩, ?_, hR, H, hW, by omega⟩
  · exact (z5 j hj 7 (by omega) (by omega)).symm
  · exact (z5 j hj 9 (by omega) (by omega)).symm
  · exact (sum_0 (fun s hs => z4 s hs)).symm
theorem law_agency {post : MS → Prop} (h : ∀ τ, u_L_law_4 τ → post τ) : u_L_agency_8 post σ0 := law_agency8 (fun _ _ _ _ h1 _ h3 h4 _ h6 h7 => h _ (law_law4 h1 h3 h4 h6 h7))
