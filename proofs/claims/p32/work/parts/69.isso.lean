/-! LAWS of p32's law: instruments, isSo; isSound answers yes -/
theorem bit1 (x : Int32) (p : Nat) (hp : p < 32) : ((x >>> (nI p &&& 31)) &&& 1) = 1 ↔ bt x p = true := by
  have e : bt (x >>> (nI p &&& 31)) 0 = bt x p := by rw [b_sshr p hp x (by decide), Nat.add_zero, if_pos hp]
  have a := and1 (x >>> (nI p &&& 31))
  rw [e] at a
  constructor
  · intro h
    cases q : bt x p with
    | true => rfl
    | false =>
      have := a.mpr q
      rw [h] at this
      exact absurd this (by decide)
  · intro h
    have h1 : ∀ i, bt 1 i = decide (i = 0) := fun i => by
      rcases Nat.lt_or_ge i 32 with h | h
      · exact (by decide +kernel : ∀ i, i < 32 → bt 1 i = decide (i = 0)) i h
      · rw [b_big h, decide_eq_false (by omega)]
    refine b_ext fun i _ => ?_
    rw [b_and, h1]
    by_cases hi : i = 0
    · subst hi; rw [e, h]; rfl
    · rw [decide_eq_false hi, Bool.and_false]
/-- the instruments that a band needs, a bit each -/
def insF (σ : MS) (b : Nat) : Nat → Int32
  | 0 => 0
  | n + 1 => insF σ b n ||| (if σ (61 + b) n ≤ 0 then 0 else one n)
theorem law_instruments {post : Int32 → MS → Prop} {σ : MS} {P B W T b : Nat} (O : Ok σ P B W T) (hb : b < B) (h : post (insF σ b 6) σ) : w_L_instruments post σ (nI b) := by
  unfold w_L_instruments
  refine up_loop (fun k (q : MS × Int32 × Int32) => u_L_instruments_4 post (nI b) k q.1 q.2.1 q.2.2) (fun i => (σ, insF σ b i, nI i)) 6 ?_ (fun i k hi hk => ?_)
  · show u_L_instruments_4 post (nI b) 1 σ (insF σ b 6) (nI 6)
    rw [u_L_instruments_4]
    exact ⟨fun _ => h, fun c => absurd (le_self (nI 6)) c⟩
  · show u_L_instruments_4 post (nI b) (k + 1) σ (insF σ b i) (nI i)
    have hk : u_L_instruments_4 post (nI b) k σ (insF σ b (i + 1)) (nI (i + 1)) := hk
    unfold insF at hk
    rw [u_L_instruments_4, nI_1]
    refine ⟨fun c => absurd (show nI 6 ≤ nI i from c) (nI_ge hi (by decide)), fun _ => law_N_ofBand O hb (by omega) ?_⟩
    have e : ofBF σ W b i = σ (61 + b) i := by unfold ofBF; rw [if_pos hi]
    rw [e]
    exact ⟨fun c => by rw [if_pos c] at hk; exact hk, fun c => by rw [if_neg c] at hk; exact hk⟩
theorem insF_bt {σ : MS} {b q : Nat} : ∀ n, n ≤ 6 → q < n → ¬ σ (61 + b) q ≤ 0 → bt (insF σ b n) q = true
  | 0, _, h, _ => absurd h (by omega)
  | n + 1, hn, h, hq => by
    show bt (insF σ b n ||| (if σ (61 + b) n ≤ 0 then 0 else one n)) q = true
    rw [b_or]
    by_cases e : q = n
    · subst e
      rw [if_neg hq, bt_one q (by omega) q (by omega), decide_eq_true rfl, Bool.or_true]
    · rw [insF_bt n (by omega) (by omega) hq, Bool.true_or]
/-- a seated one's instruments and the band's have one in common -/
theorem seats_ins {σ : MS} {b p : Nat} (hB : Bd σ b) (h : seats σ b p) : ¬ (σ (29 + p) 0 &&& insF σ b 6) = 0 := by
  obtain ⟨t, t1, t2, t3, t4⟩ := hB
  obtain ⟨j, j1, j2, j3⟩ := h
  rw [t3] at j1
  obtain ⟨q, r, q1, q2, r1, r2, q3⟩ := t4 j ((nI_ltI j2 (by omega)).mp j1)
  unfold pl at j3
  rw [q2, nI_clamp (by omega)] at j3
  intro z
  have := congrArg (fun y => bt y q) z
  simp only [b_and, b_0, j3, Bool.true_and] at this
  rw [insF_bt 6 (by omega) q1 (by rw [q3]; exact (show ¬ nI r ≤ nI 0 from nI_ge (by omega) (by omega)))] at this
  cases this
/-- the fixed ones are counted by their players -/
theorem fx_count {σ : MS} {P W : Nat} (H : ∀ w, w < W → σ (73 + w) 7 = 1 → ∃ p, p < P ∧ bt (σ (73 + w) 8) p = true) : fb_ct (fun w => decide (σ (73 + w) 7 = 1)) W ≤ fb_sm (fun p => fb_ct (fun w => fxw σ w p) W) P := by
  induction W with
  | zero => exact Nat.zero_le _
  | succ n ih =>
    have h1 := ih (fun w hw => H w (by omega))
    have e : fb_sm (fun p => fb_ct (fun w => fxw σ w p) (n + 1)) P = fb_sm (fun p => fb_ct (fun w => fxw σ w p) n) P + fb_sm (fun p => if fxw σ n p then 1 else 0) P :=
      (fb_sm_cong (fun p _ => fb_ct_succ _ _)).trans (fb_sm_add _ _ P)
    rw [fb_ct_succ, e]
    by_cases c : σ (73 + n) 7 = 1
    · obtain ⟨p, hp, hb⟩ := H n (by omega) c
      have h2 := fb_sm_part (fun p => if fxw σ n p then 1 else 0) hp
      have h3 : (if fxw σ n p then 1 else 0) = 1 := by
        unfold fxw
        rw [decide_eq_true c, hb]
        rfl
      simp only [h3] at h2
      rw [decide_eq_true c, if_pos rfl]
      omega
    · rw [decide_eq_false c, if_neg Bool.false_ne_true]
      omega
/-- shares: their sum is not above 1000 -/
theorem shr_sum {f : Nat → Nat} {N : Nat} (hN : 0 < N) : ∀ n, fb_sm (fun s => f s / N) n * N ≤ fb_sm f n
  | 0 => by show 0 * N ≤ 0; omega
  | n + 1 => by
    have h1 := shr_sum (f := f) hN n
    have h2 := Nat.div_mul_le_self (f n) N
    rw [fb_sm_succ, fb_sm_succ, Nat.add_mul]
    omega
theorem sum_nI {f : Nat → Int32} {g : Nat → Nat} : ∀ n, (∀ s, s < n → f s = nI (g s)) → sumI f n = nI (fb_sm g n)
  | 0, _ => nI_0.symm
  | n + 1, h => by
    show sumI f n + f n = _
    rw [sum_nI n (fun s hs => h s (by omega)), h n (by omega), nI_add, fb_sm_succ]
theorem sm_mul (c : Nat) (f : Nat → Nat) : ∀ n, fb_sm (fun s => f s * c) n = fb_sm f n * c
  | 0 => by show 0 = 0 * c; omega
  | n + 1 => by rw [fb_sm_succ, fb_sm_succ, sm_mul c f n, Nat.add_mul]
theorem shr_le {σ : MS} {P B W T : Nat} (H : Inv σ P B W T) : ¬ 1000 < shrI σ 16 := by
  have hW := H.2.2.1.hW
  have S := H.2.2.2.2.1
  have D := H.2.2.2.2.2.2.2.2.2.2.2
  have hn : nPl σ W ≤ 14 := Nat.le_trans (fb_ct_le _ _) hW
  have hx : ∀ s, ∃ x, s < 16 → x ≤ 2016 ∧ σ (39 + s) 2 * σ (39 + s) 3 = nI x := fun s => by
    by_cases c : s < 16
    · obtain ⟨a, a1, a2, a3⟩ := S.2.1 s c
      obtain ⟨n, n1, n2⟩ := D s c
      refine ⟨a * n, fun _ => ⟨Nat.le_trans (Nat.mul_le_mul a2 (show n ≤ 224 by omega)) (by decide), by rw [a3, n1, nI_mul]⟩⟩
    · exact ⟨0, fun q => absurd q c⟩
  let x : Nat → Nat := fun s => Classical.choose (hx s)
  have hx2 : ∀ s, s < 16 → x s ≤ 2016 ∧ σ (39 + s) 2 * σ (39 + s) 3 = nI (x s) := fun s => Classical.choose_spec (hx s)
  generalize x = x at hx2
  have hA : shAll σ = nI (fb_sm x 16) := sum_nI 16 (fun s hs => (hx2 s hs).2)
  have hb : fb_sm x 16 ≤ 16 * 2016 := fb_sm_bound (fun s hs => (hx2 s hs).1)
  unfold shrI
  by_cases c : fb_sm x 16 = 0
  · have : ∀ s, s < 16 → shareF σ s = nI 0 := fun s hs => by
      unfold shareF
      rw [hA, c, nI_0, if_pos rfl]
    rw [sum_nI 16 (g := fun _ => 0) this, fb_sm_const]
    decide
  · have hA0 : ¬ shAll σ = 0 := by rw [hA]; exact nI_ne0 (by omega) (by omega)
    have : ∀ s, s < 16 → shareF σ s = nI (x s * 1000 / fb_sm x 16) := fun s hs => by
      unfold shareF
      rw [if_neg hA0, (hx2 s hs).2, hA, show (1000 : Int32) = nI 1000 from rfl, nI_mul]
      exact pk_div (by have := (hx2 s hs).1; omega) (by omega) (by omega)
    rw [sum_nI 16 (g := fun s => x s * 1000 / fb_sm x 16) this]
    have h1 := shr_sum (f := fun s => x s * 1000) (N := fb_sm x 16) (by omega) 16
    rw [sm_mul 1000 x 16] at h1
    have h2 : fb_sm (fun s => x s * 1000 / fb_sm x 16) 16 ≤ 1000 := Nat.le_of_mul_le_mul_right (by rw [Nat.mul_comm 1000]; exact h1) (show 0 < fb_sm x 16 by omega)
    exact nI_nlt (a := 1000) h2 (by omega)
/-- none that is fixed has another fixed one ahead of it -/
theorem taken_yes {σ : MS} {a b : Int32} : ∀ {n : Nat}, taken σ a b n = true → ∃ i, i < n ∧ σ (73 + i) 7 = 1 ∧ σ (73 + i) 0 = a ∧ σ (73 + i) 1 = b
  | 0, h => by cases h
  | n + 1, h => by
    unfold taken at h
    rcases Bool.or_eq_true _ _ |>.mp h with h | h
    · obtain ⟨i, h1, h2⟩ := taken_yes h
      exact ⟨i, by omega, h2⟩
    · exact ⟨n, by omega, of_decide_eq_true h⟩
theorem hrsD_eq (σ : MS) (v : Int32) : ∀ n, hrsD σ v n = v - sumI (hoW σ) n
  | 0 => by show v = v - 0; grind
  | n + 1 => by
    unfold hrsD
    rw [hrsD_eq σ v n]
    show _ = v - (sumI (hoW σ) n + hoW σ n)
    by_cases c : σ (73 + n) 7 = 2
    · have e : hoW σ n = σ (73 + n) 4 * bcI (σ (73 + n) 8) := if_pos c
      rw [if_pos c, e]
      grind
    · have e : hoW σ n = 0 := if_neg c
      rw [if_neg c, e]
      grind
theorem snd_yes {σ : MS} {P B W T : Nat} (H : Inv σ P B W T) : sndB σ P W = true := by
  obtain ⟨_, _, O, K, S, d0, d1, d2, d3, d4, d5⟩ := id H
  have hall : ∀ n, n ≤ W → allFx σ n = true := by
    intro n
    induction n with
    | zero => intro _; rfl
    | succ n ih =>
      intro hn
      unfold allFx
      rw [ih (by omega), Bool.true_and]
      by_cases c : σ (73 + n) 7 = 1
      · obtain ⟨_, ⟨s, s1, s2, s3, s4, _⟩, _⟩ := (d1 n (by omega)).fixed c
        have ht : taken σ (σ (73 + n) 0) (σ (73 + n) 1) n = false := by
          cases q : taken σ (σ (73 + n) 0) (σ (73 + n) 1) n with
          | false => rfl
          | true =>
            obtain ⟨i, i1, i2, i3, i4⟩ := taken_yes q
            exact absurd c (d2 i n (by omega) (by omega) (by omega) i2 i3 i4).2
        unfold fixSnd
        rw [ht, s3, decide_eq_true s4]
        exact Bool.or_true _
      · rw [decide_eq_false c]; rfl
  unfold sndB
  have h4 : hrsD σ (hrsI σ P) W = 0 := by
    rw [hrsD_eq, show hrsI σ P = sumI (hoW σ) W from d4]
    grind
  rw [hall W (Nat.le_refl _), decide_eq_true (show σ 0 10 = paidI σ W - earnI σ P from d3), decide_eq_true h4, decide_eq_true (shr_le H)]
  rfl
/-! isSo -/
theorem law_isSo454 {post : Int32 → MS → Prop} {σ : MS} {P B W T v : Nat} (H : Inv σ P B W T) (hv : fb_ct (fun w => decide (σ (73 + w) 7 = 1)) W ≤ v) (hv2 : v < 2 ^ 31) (h : post 1 σ) : ∃ k, u_L_isSo_454 post k σ (paidI σ W) (earnI σ P) (nI v) 0 0 := by
  have O := H.2.2.1
  have D3 := H.2.2.2.2.2.2.2.2.1
  refine up_loop (fun k (q : MS × Int32 × Int32) => u_L_isSo_454 post k q.1 (paidI σ W) (earnI σ P) (nI v) q.2.1 q.2.2) (fun i => (σ, shrI σ i, nI i)) 16 ?_ (fun i k hi hk => ?_)
  · show u_L_isSo_454 post 1 σ (paidI σ W) (earnI σ P) (nI v) (shrI σ 16) (nI 16)
    rw [u_L_isSo_454]
    refine ⟨fun _ => law_N_desk (k := 8) O (by decide) ⟨fun _ => law_N_desk (k := 10) O (by decide) ⟨fun _ => law_N_desk (k := 5) O (by decide) ⟨fun c => absurd c (show ¬ nI v < nI _ from nI_nlt hv hv2), fun _ => ⟨fun c => absurd c (shr_le H), fun _ => h⟩⟩, fun c => absurd rfl c⟩, fun c => absurd D3 c⟩, fun c => absurd (le_self (nI 16)) c⟩
  · show u_L_isSo_454 post (k + 1) σ (paidI σ W) (earnI σ P) (nI v) (shrI σ i) (nI i)
    have hk : u_L_isSo_454 post k σ (paidI σ W) (earnI σ P) (nI v) (shrI σ i + shareF σ i) (nI (i + 1)) := hk
    rw [u_L_isSo_454, nI_1]
    exact ⟨fun c => absurd (show nI 16 ≤ nI i from c) (nI_ge hi (by decide)), fun _ => law_N_ofSong (k := 4) O hi (by decide) hk⟩
theorem law_isSo354 {post : Int32 → MS → Prop} {σ : MS} {P B W T : Nat} (H : Inv σ P B W T) (h : post 1 σ) : ∃ k, u_L_isSo_354 post k σ (nI P) (paidI σ W) 0 0 0 := by
  have O := H.2.2.1
  have hP := O.hP
  have hW := O.hW
  have S := H.2.2.2.2.1
  have D5 := H.2.2.2.2.2.2.2.2.2.2.1
  have d1 := H.2.2.2.2.2.2.1
  have hn : nPl σ W ≤ 14 := Nat.le_trans (fb_ct_le _ _) hW
  refine up_loop (fun k (q : MS × Int32 × Int32 × Int32) => u_L_isSo_354 post k q.1 (nI P) (paidI σ W) q.2.1 q.2.2.1 q.2.2.2) (fun i => (σ, earnI σ i, nI (fb_sm (fun p => fb_ct (fun w => fxw σ w p) W) i), nI i)) P ?_ (fun i k hi hk => ?_)
  · show u_L_isSo_354 post 1 σ (nI P) (paidI σ W) (earnI σ P) (nI (fb_sm (fun p => fb_ct (fun w => fxw σ w p) W) P)) (nI P)
    rw [u_L_isSo_354]
    refine ⟨fun _ => law_isSo454 H (fx_count fun w hw c => ?_) ?_ h, fun c => absurd (le_self _) c⟩
    · obtain ⟨_, ⟨s, s1, s2, s3, _, _⟩, _⟩ := (d1 w hw).fixed c
      rw [s3]
      exact bt_ex hP s2 s1
    · have := fb_sm_bound (f := fun p => fb_ct (fun w => fxw σ w p) W) (c := 14) (n := P) (fun p _ => Nat.le_trans (fb_ct_le _ _) hW)
      omega
  · show u_L_isSo_354 post (k + 1) σ (nI P) (paidI σ W) (earnI σ i) (nI (fb_sm (fun p => fb_ct (fun w => fxw σ w p) W) i)) (nI i)
    have hk : u_L_isSo_354 post k σ (nI P) (paidI σ W) (earnI σ i + σ (29 + i) 5) (nI (fb_sm (fun p => fb_ct (fun w => fxw σ w p) W) i + fb_ct (fun w => fxw σ w i) W)) (nI (i + 1)) := hk
    rw [← nI_add] at hk
    obtain ⟨n, m, n1, m1, nm, m6, n14⟩ := D5 i hi
    rw [u_L_isSo_354, nI_1]
    refine ⟨fun c => absurd c (nI_ge hi (by omega)), fun _ => law_N_ofPlayer (k := 5) O hi (by decide) (law_N_ofPlayer (k := 6) O hi (by decide) (law_N_ofPlayer (k := 8) O hi (by decide) (law_N_ofPlayer (k := 7) O hi (by decide) ⟨fun c => ?_, fun _ => law_N_ofPlayer (k := 8) O hi (by decide) (law_N_ofPlayer (k := 7) O hi (by decide) ⟨fun c => ?_, fun _ => law_N_ofPlayer (k := 4) O hi (by decide) ⟨fun c => ?_, fun _ => hk⟩⟩)⟩)))⟩
    · have c : σ (29 + i) 7 < σ (29 + i) 6 := c
      rw [n1, m1] at c
      exact absurd c (nI_nlt nm (by omega))
    · have c : nI 6 * σ (29 + i) 6 < σ (29 + i) 7 := c
      rw [n1, m1, nI_mul] at c
      exact absurd c (nI_nlt m6 (by omega))
    · have c : ((σ (29 + i) 4 >>> (nI i &&& 31)) &&& 1) = 1 := c
      rw [bit1 _ i (by omega), (S.1 i hi).2] at c
      cases c
theorem quF_ok {σ : MS} {P B W T w : Nat} (H : Inv σ P B W T) (hw : w < W) : quF σ w ≤ 16 := by
  have hW := H.2.2.1.hW
  obtain ⟨a, a1, a2, a3⟩ := H.2.1 w (by omega)
  obtain ⟨_, s, l, s1, s2, l1, l2, sl, e3, e4⟩ := H.2.2.2.2.1.2.2.2 w hw
  unfold quF
  rw [a3, e3, e4, show (24 : Int32) - nI s = nI (24 - s) from nI_sub (a := 24) (by omega), nI_sub (by omega), show (60 : Int32) = nI 60 from rfl, nI_mul, min_nI (by omega) (by omega), show (14 : Int32) = nI 14 from rfl, nI_add, show (15 : Int32) = nI 15 from rfl, pk_div (by omega) (by omega) (by omega)]
  exact nI_le (b := 16) (by omega) (by omega)
theorem law_isSo280 {post : Int32 → MS → Prop} {K : MS → Int32 → Int32 → Int32 → Prop} {σ : MS} {P B W T w : Nat} {v2 : Int32} (H : Inv σ P B W T) (hw : w < W) (h : K σ (nI P) v2 (nI w + 1)) : ∃ k, u_L_isSo_280 post K k σ (nI P) v2 (nI w) (σ (73 + w) 7) (σ (73 + w) 0) 0 := by
  have O := H.2.2.1
  have hW := O.hW
  have d2 := H.2.2.2.2.2.2.2.1
  refine up_loop (fun k (q : MS × Int32) => u_L_isSo_280 post K k q.1 (nI P) v2 (nI w) (σ (73 + w) 7) (σ (73 + w) 0) q.2) (fun i => (σ, nI i)) w ?_ (fun i k hi hk => ?_)
  · show u_L_isSo_280 post K 1 σ (nI P) v2 (nI w) (σ (73 + w) 7) (σ (73 + w) 0) (nI w)
    rw [u_L_isSo_280]
    exact ⟨fun _ => h, fun c => absurd (le_self _) c⟩
  · show u_L_isSo_280 post K (k + 1) σ (nI P) v2 (nI w) (σ (73 + w) 7) (σ (73 + w) 0) (nI i)
    have hk : u_L_isSo_280 post K k σ (nI P) v2 (nI w) (σ (73 + w) 7) (σ (73 + w) 0) (nI (i + 1)) := hk
    rw [← nI_1 i] at hk
    rw [u_L_isSo_280]
    refine ⟨fun c => absurd c (nI_ge hi (by omega)), fun _ => ⟨fun c1 => law_N_ofWedding (k := 6) O (by omega) (by decide) ⟨fun c2 => law_N_ofWedding (k := 1) O (by omega) (by decide) (law_N_ofWedding (k := 1) O hw (by decide) ⟨fun c3 => law_N_ofWedding (k := 0) O (by omega) (by decide) ⟨fun c4 => ?_, fun _ => hk⟩, fun _ => hk⟩), fun _ => hk⟩, fun _ => hk⟩⟩
    exact absurd c1 (d2 i w (by omega) hw (by omega) c2 c4 c3).2
theorem law_isSo162 {post : Int32 → MS → Prop} {K : MS → Int32 → Int32 → Int32 → Prop} {σ : MS} {P B W T w : Nat} {v2 : Int32} (H : Inv σ P B W T) (hw : w < W) (hf : FilS σ P w (σ (73 + w) 8)) (hp : rg 50 76298 (σ (73 + w) 9)) (h : K σ (nI P) v2 (nI w + 1)) : u_L_isSo_162 post K σ (nI P) v2 (nI w) (σ (73 + w) 7) (σ (73 + w) 8) (σ (73 + w) 0) := by
  have O := H.2.2.1
  have hP := O.hP
  have hB := O.hB
  have hW := O.hW
  have S := H.2.2.2.2.1
  obtain ⟨⟨b, hb, eb⟩, _⟩ := S.2.2.2 w hw
  have ebd : bdOf σ w = b := by unfold bdOf; rw [eb, nI_clamp (by omega)]
  obtain ⟨s, s1, s2, s3, s4, s5⟩ := hf
  rw [ebd] at s4 s5
  have hp2 := pw1024 hP
  unfold u_L_isSo_162
  rw [eb]
  refine law_N_ofBand (k := 6) O hb (by decide) ?_
  rw [show ofBF σ W b 6 = σ (55 + b) 2 from rfl]
  refine up_loop (fun k (q : MS × Int32 × Int32) => u_L_isSo_178 post K k q.1 (nI P) v2 (nI w) (σ (73 + w) 7) (σ (73 + w) 8) (nI b) (σ (55 + b) 2) q.2.1 q.2.2) (fun i => (σ, 0, nI i)) P ?_ (fun i k hi hk => ?_)
  · show u_L_isSo_178 post K 1 σ (nI P) v2 (nI w) (σ (73 + w) 7) (σ (73 + w) 8) (nI b) (σ (55 + b) 2) 0 (nI P)
    rw [u_L_isSo_178]
    refine ⟨fun _ => law_bitCount ⟨fun _ => ⟨fun c => ?_, fun _ => ⟨fun c => absurd c (by decide), fun _ => law_N_ofWedding (k := 8) O hw (by decide) ⟨fun c => absurd c (hp.nlt (c := 50) (by omega) (by omega)), fun _ => law_N_ofWedding (k := 12) O hw (by decide) ⟨fun _ => ?_, fun c => absurd (quF_ok H hw) c⟩⟩⟩⟩, fun c => ?_⟩, fun c => absurd (le_self _) c⟩
    · rw [shl1 P hP, s3] at c
      exact absurd c (nI_ge s2 (by omega))
    · have := law_isSo280 (post := post) (K := K) (v2 := v2) H hw h
      rw [eb] at this
      exact this
    · rw [s3] at c
      exact absurd s4 c
  · show u_L_isSo_178 post K (k + 1) σ (nI P) v2 (nI w) (σ (73 + w) 7) (σ (73 + w) 8) (nI b) (σ (55 + b) 2) 0 (nI i)
    have hk : u_L_isSo_178 post K k σ (nI P) v2 (nI w) (σ (73 + w) 7) (σ (73 + w) 8) (nI b) (σ (55 + b) 2) 0 (nI (i + 1)) := hk
    rw [u_L_isSo_178, nI_1, Int32.add_zero]
    refine ⟨fun c => absurd c (nI_ge hi (by omega)), fun _ => ⟨fun c => law_N_ofPlayer (k := 0) O hi (by decide) (law_instruments O hb ⟨fun d => ?_, fun _ => hk⟩), fun _ => hk⟩⟩
    rw [bit1 _ i (by omega), s3] at c
    exact absurd d (seats_ins (S.2.2.1 b hb) (s5 i hi c))
theorem law_isSo {post : Int32 → MS → Prop} {σ : MS} {P B W T : Nat} (H : Inv σ P B W T) (h : post 1 σ) : w_L_isSo post σ := by
  have O := H.2.2.1
  have hW := O.hW
  have hT := O.hT
  have d1 := H.2.2.2.2.2.2.1
  unfold w_L_isSo
  refine law_N_desk (k := 1) O (by decide) ?_
  show ∃ k, u_L_isSo_10 post k σ (σ 0 6) 0 0
  rw [O.h6]
  refine up_loop (fun k (q : MS × Int32 × Int32) => u_L_isSo_10 post k q.1 (nI P) q.2.1 q.2.2) (fun i => (σ, paidI σ i, nI i)) W ?_ (fun i k hi hk => ?_)
  · show u_L_isSo_10 post 1 σ (nI P) (paidI σ W) (nI W)
    rw [u_L_isSo_10]
    refine law_N_desk (k := 3) O (by decide) ⟨fun _ => law_isSo354 H h, fun c => absurd (show σ 0 8 ≤ nI W by rw [O.h8]; exact le_self _) c⟩
  · show u_L_isSo_10 post (k + 1) σ (nI P) (paidI σ i) (nI i)
    have hk : u_L_isSo_10 post k σ (nI P) (paidI σ i + σ (73 + i) 11) (nI (i + 1)) := hk
    rw [← nI_1 i] at hk
    rw [u_L_isSo_10]
    refine law_N_desk (k := 3) O (by decide) ⟨fun c => absurd (show nI W ≤ nI i by rw [← O.h8]; exact c) (nI_ge hi (by omega)), fun _ => ?_⟩
    refine law_N_ofWedding (k := 6) O hi (by decide) (law_N_ofWedding (k := 7) O hi (by decide) (law_N_ofWedding (k := 0) O hi (by decide) (law_N_ofWedding (k := 10) O hi (by decide) ?_)))
    show (σ (73 + i) 7 = 0 → _) ∧ (¬ σ (73 + i) 7 = 0 → _)
    have hm : ¬ σ (73 + i) 7 = 0 → pq σ i = -1 := fun c => by unfold pq; rw [if_neg c]
    have hfl : σ (73 + i) 7 = 1 ∨ σ (73 + i) 7 = 2 → FilS σ P i (σ (73 + i) 8) ∧ rg 50 76298 (σ (73 + i) 9) := fun c => by
      rcases d1 i hi with ⟨z, _⟩ | ⟨_, _, z1, z2⟩ | ⟨_, _, z1, z2⟩ | z
      · rw [z] at c; exact absurd c (by decide)
      · exact ⟨z1, z2⟩
      · exact ⟨z1, z2⟩
      · rw [z] at c; exact absurd c (by decide)
    have K147 : u_L_isSo_147 post (fun σ w0 w1 w2 => u_L_isSo_10 post k σ w0 w1 w2) σ (nI P) (paidI σ i + σ (73 + i) 11) (nI i) (σ (73 + i) 7) (σ (73 + i) 8) (σ (73 + i) 0) := by
      unfold u_L_isSo_147
      refine ⟨fun c => ?_, fun _ => ⟨fun c => ?_, fun _ => hk⟩⟩
      · obtain ⟨z1, z2⟩ := hfl (Or.inl c)
        exact law_isSo162 H hi z1 z2 hk
      · obtain ⟨z1, z2⟩ := hfl (Or.inr c)
        exact law_isSo162 H hi z1 z2 hk
    have K125 : u_L_isSo_125 post (fun σ w0 w1 w2 => u_L_isSo_10 post k σ w0 w1 w2) σ (nI P) (paidI σ i + σ (73 + i) 11) (nI i) (σ (73 + i) 7) (σ (73 + i) 8) (σ (73 + i) 0) := by
      unfold u_L_isSo_125
      refine ⟨fun c => law_N_ofWedding (k := 1) O hi (by decide) (law_N_desk (k := 0) O (by decide) ⟨fun _ => K147, fun d => ?_⟩), fun _ => K147⟩
      rcases d1 i hi with ⟨z, _⟩ | ⟨z, _⟩ | ⟨_, ⟨dd, _, e1, e2⟩, _⟩ | z
      · rw [z] at c; exact absurd c (by decide)
      · rw [z] at c; exact absurd c (by decide)
      · have d : ¬ σ (73 + i) 1 < σ 0 9 := d
        rw [e2, O.h9] at d
        exact absurd (nI_lt e1 (by omega)) d
      · rw [z] at c; exact absurd c (by decide)
    have K105 : u_L_isSo_105 post (fun σ w0 w1 w2 => u_L_isSo_10 post k σ w0 w1 w2) σ (nI P) (paidI σ i + σ (73 + i) 11) (nI i) (σ (73 + i) 7) (σ (73 + i) 8) (σ (73 + i) 0) := by
      unfold u_L_isSo_105
      refine ⟨fun c => law_N_ofWedding (k := 1) O hi (by decide) (law_N_desk (k := 0) O (by decide) ⟨fun d => ?_, fun _ => K125⟩), fun _ => K125⟩
      obtain ⟨⟨dd, e0, e1, e2⟩, _⟩ := (d1 i hi).fixed c
      have d : σ (73 + i) 1 < σ 0 9 := d
      rw [e2, O.h9] at d
      exact absurd d (nI_nlt e0 (by omega))
    have K89 : u_L_isSo_89 post (fun σ w0 w1 w2 => u_L_isSo_10 post k σ w0 w1 w2) σ (nI P) (paidI σ i + σ (73 + i) 11) (nI i) (σ (73 + i) 7) (σ (73 + i) 8) (σ (73 + i) 0) := by
      unfold u_L_isSo_89
      exact ⟨fun _ => K105, fun c => law_N_ofWedding (k := 11) O hi (by decide) ⟨fun _ => K105, fun d => absurd (hm c) d⟩⟩
    refine ⟨fun c => ?_, fun _ => K89⟩
    have hd := (d1 i hi).asked c
    have h8 : σ (73 + i) 8 = 0 := by
      rcases d1 i hi with ⟨_, z, _⟩ | ⟨z, _⟩ | ⟨z, _⟩ | z
      · exact z
      · rw [z] at c; exact absurd c (by decide)
      · rw [z] at c; exact absurd c (by decide)
      · rw [z] at c; exact absurd c (by decide)
    refine ⟨fun _ => law_N_ofWedding (k := 11) O hi (by decide) ⟨fun d => ?_, fun _ => law_N_ofWedding (k := 1) O hi (by decide) (law_N_desk (k := 0) O (by decide) ⟨fun d => ?_, fun _ => K89⟩)⟩, fun d => absurd h8 d⟩
    · have d : pq σ i < 0 := d
      unfold pq at d
      rw [if_pos c] at d
      exact absurd d (nI_pos (by have := ahead_le σ i; omega))
    · obtain ⟨dd, e0, e1, e2⟩ := hd
      have d : σ (73 + i) 1 < σ 0 9 := d
      rw [e2, O.h9] at d
      exact absurd d (nI_nlt e0 (by omega))
