/-! THE REFERENCE IS SAFE: places, who is free, seats, fillings, the best -/
section RSAFE3
variable {Tm : MS} {Γ : RG} {σ τ : MS} {a a0 a1 a2 a3 a4 : Int32}
theorem nx_or (a b : Nat) : nI a ||| nI b = nI (a ||| b) := by
  apply Int32.toBitVec_inj.1
  show BitVec.ofNat 32 a ||| BitVec.ofNat 32 b = BitVec.ofNat 32 (a ||| b)
  apply BitVec.eq_of_getLsbD_eq
  intro i hi
  simp [hi]
theorem sf_lbget {post : Nat → MS → Prop} {i : Nat} (O : rOk Tm Γ σ) (hi : i < Γ.2.1) (e : a = nI i) (h : post i σ) : w_lb_Jx4a65c_get_915e3 Γ post σ a := by
  have hB := O.hB
  have hcl : (nI i).toNatClampNeg = i := nI_clamp (by omega)
  rw [e]
  unfold w_lb_Jx4a65c_get_915e3 w_J15_checkIndex_7cf53 w_J3_checkIndex_8e157 w_lb_Jx4a65c_elementData_915e3
  rw [hcl, O.b]
  exact ⟨fun z => absurd z (nI_pos (by omega)), fun _ => ⟨fun _ => ⟨by omega, vp_in_nI (by omega) (by decide), hi, ⟨hi, h⟩⟩, fun z => absurd (nI_lt hi (by omega)) z⟩⟩
theorem sf_place {post : Int32 → MS → Prop} {w : Nat} (O : rOk Tm Γ σ) (hw : w < Γ.2.2.1) (e : a1 = nI w) (h : ∀ r, post r σ) : w_X11_place Γ post σ a1 := by
  have hW := O.hW
  unfold w_X11_place
  refine sf_wget O hw e ⟨⟨by omega, hw⟩, fun _ => ?_, fun _ => h _⟩
  have := inv_loop (fun k (q : Int32 × Int32) => u_X11_place_26 Γ post a1 k σ w q.1 q.2) (fun j q => q.2 = nI j) w (by
    rintro ⟨s, v⟩ rfl
    show u_X11_place_26 Γ post a1 1 σ w s (nI w)
    unfold u_X11_place_26
    rw [e]
    exact ⟨fun _ => h _, fun c => absurd (le_self _) c⟩) (by
    rintro j k ⟨s, v⟩ hj rfl ih
    have nx : ∀ s', u_X11_place_26 Γ post a1 k σ w s' (nI j + 1) := fun s' => by rw [nI_1]; exact ih (s', nI (j + 1)) rfl
    show u_X11_place_26 Γ post a1 (k + 1) σ w s (nI j)
    unfold u_X11_place_26
    exact ⟨fun c => absurd (e ▸ c) (nI_ge hj (by omega)), fun _ => sf_wget O (by omega) rfl ⟨⟨by omega, by omega⟩, fun _ => ⟨fun _ => ⟨fun _ => nx _, fun _ => nx _⟩, fun _ => nx _⟩, fun _ => nx _⟩⟩) 0 (by omega) (0, 0) nI_0.symm
  exact this
theorem sf_isFree {post : Int32 → MS → Prop} {p w : Nat} (O : rOk Tm Γ σ) (hp : p < Γ.1) (e : a1 = nI p) (hw : w < Γ.2.2.1) (e2 : a2 = nI w) (h : ∀ r, post r σ) : w_X11_isFree Γ post σ a1 a2 := by
  have hW := O.hW
  have hP := O.hP
  unfold w_X11_isFree
  obtain ⟨d, hd, ed⟩ := O.day hw
  refine sf_wget O hw e2 ⟨⟨by omega, hw⟩, sf_pget O hp e ⟨⟨by omega, hp⟩, ?_, fun _ => sf_driveOf (O.home hp) (O.town hw) (fun r => ⟨fun _ => h 0, fun _ => ?_⟩), fun _ => h 0⟩⟩
  · show vp_in (σ (33 + w) 1) 366
    rw [ed]
    exact vp_in_nI (by omega) (by decide)
  · have d189 : ∀ (K : MS → Nat → Int32 → Prop) (v5 : Int32) (v6 v8 t0 : Nat), v6 < Γ.2.2.1 → K σ w (v5 + 1) → u_X11_isFree_189 Γ post a1 a2 K σ w v5 v6 v8 t0 := by
      intro K v5 v6 v8 t0 h6 hK
      unfold u_X11_isFree_189
      exact sf_driveOf (O.town hw) (O.town h6) (fun r => ⟨fun _ => h 0, fun _ => ⟨fun _ => hK, fun _ => h 0⟩⟩)
    have d163 : ∀ (K : MS → Nat → Int32 → Prop) (v5 : Int32) (v6 : Nat) (t0 : Int32), v6 < Γ.2.2.1 → K σ w (v5 + 1) → u_X11_isFree_163 Γ post a1 a2 K σ w v5 v6 t0 := by
      intro K v5 v6 t0 h6 hK
      unfold u_X11_isFree_163 u_X11_isFree_176
      exact ⟨fun _ => ⟨fun _ => d189 K _ _ _ _ h6 hK, fun _ => d189 K _ _ _ _ h6 hK⟩, fun _ => ⟨fun _ => d189 K _ _ _ _ h6 hK, fun _ => d189 K _ _ _ _ h6 hK⟩⟩
    refine wd_loop (S := Unit) O (fun k _ v => u_X11_isFree_60 Γ post a1 a2 k σ w v) (fun _ => ?_) (fun i k _ hi ih => ?_) ()
    · unfold u_X11_isFree_60 w_lw_Jx4a65c_size_8abf5
      rw [O.w]
      exact ⟨fun _ => h 1, fun c => absurd (le_self _) c⟩
    · have ih := ih ()
      have d1 : u_X11_isFree_158 Γ post a1 a2 (fun σ w0 w1 => u_X11_isFree_60 Γ post a1 a2 k σ w0 w1) σ w (nI i) i := d163 _ _ _ _ hi ih
      have d2 : u_X11_isFree_162 Γ post a1 a2 (fun σ w0 w1 => u_X11_isFree_60 Γ post a1 a2 k σ w0 w1) σ w (nI i) i := d163 _ _ _ _ hi ih
      unfold u_X11_isFree_60 w_lw_Jx4a65c_size_8abf5
      rw [O.w]
      exact ⟨fun c => absurd c (nI_ge hi (by omega)), fun _ => sf_wget O hi rfl ⟨⟨by omega, hi⟩, fun _ => ih, fun _ => ⟨fun _ => ⟨fun _ => sf_isIn (fun r => ⟨fun _ => ih, fun _ => ⟨fun _ => d1, fun _ => ⟨fun _ => ⟨fun _ => d2, fun _ => d1⟩, fun _ => d2⟩⟩⟩), fun _ => ih⟩, fun _ => ih⟩⟩⟩
theorem sf_freeFor {post : Int32 → MS → Prop} {w : Nat} (O : rOk Tm Γ σ) (hw : w < Γ.2.2.1) (e : a1 = nI w) (h : ∀ m, m < 1024 → post (nI m) σ) : w_X11_freeFor Γ post σ a1 := by
  have hP := O.hP
  unfold w_X11_freeFor
  have := inv_loop (fun k (q : Int32 × Int32) => u_X11_freeFor_4 Γ post a1 k σ q.1 q.2) (fun j q => q.2 = nI j ∧ ∃ m, m < 2 ^ j ∧ q.1 = nI m) Γ.1 (by
    rintro ⟨s, v⟩ ⟨rfl, m, hm, rfl⟩
    show u_X11_freeFor_4 Γ post a1 1 σ (nI m) (nI Γ.1)
    unfold u_X11_freeFor_4 w_lp_Jx4a65c_size_8abf5
    rw [O.p]
    exact ⟨fun _ => h m (Nat.lt_of_lt_of_le hm (pw1024 hP).2), fun c => absurd (le_self _) c⟩) (by
    rintro j k ⟨s, v⟩ hj ⟨rfl, m, hm, rfl⟩ ih
    have n0 : u_X11_freeFor_4 Γ post a1 k σ (nI m ||| 0) (nI j + 1) := by
      rw [nI_1]
      exact ih (nI m ||| 0, nI (j + 1)) ⟨rfl, m, by rw [Nat.pow_succ]; omega, by show nI m ||| nI 0 = nI m; rw [nx_or, Nat.or_zero]⟩
    have n1 : u_X11_freeFor_4 Γ post a1 k σ (nI m ||| (1 <<< (nI j &&& 31))) (nI j + 1) := by
      rw [nI_1, shl1 j (by omega), nx_or]
      exact ih (nI (m ||| 2 ^ j), nI (j + 1)) ⟨rfl, _, Nat.or_lt_two_pow (by rw [Nat.pow_succ]; omega) (by rw [Nat.pow_succ]; have := Nat.one_le_two_pow (n := j); omega), rfl⟩
    show u_X11_freeFor_4 Γ post a1 (k + 1) σ (nI m) (nI j)
    unfold u_X11_freeFor_4 w_lp_Jx4a65c_size_8abf5
    rw [O.p]
    exact ⟨fun c => absurd c (nI_ge hj (by omega)), fun _ => sf_isFree O hj rfl hw e (fun r => ⟨fun _ => n0, fun _ => n1⟩)⟩) 0 (by omega) (0, 0) ⟨nI_0.symm, 0, by decide, nI_0.symm⟩
  exact this
theorem sf_needed {post : Int32 → MS → Prop} {n : Nat} (hn : n ≤ 6) (e : a1 = nI n) (h : ∀ r, post r σ) : w_X11_needed Γ post σ a0 a1 := by
  unfold w_X11_needed
  have := inv_loop (fun k (q : Int32 × Int32) => u_X11_needed_4 Γ post a0 a1 k σ q.1 q.2) (fun j q => q.2 = nI j) n (by
    rintro ⟨s, v⟩ rfl
    show u_X11_needed_4 Γ post a0 a1 1 σ s (nI n)
    unfold u_X11_needed_4
    rw [e]
    exact ⟨fun _ => h _, fun c => absurd (le_self _) c⟩) (by
    rintro j k ⟨s, v⟩ hj rfl ih
    show u_X11_needed_4 Γ post a0 a1 (k + 1) σ s (nI j)
    unfold u_X11_needed_4
    refine ⟨fun c => absurd (e ▸ c) (nI_ge hj (by omega)), fun _ => ?_⟩
    rw [nI_1]
    exact ih (_, nI (j + 1)) rfl) 0 (by omega) (a0, 0) nI_0.symm
  exact this
theorem sf_needed_ {post : Int32 → MS → Prop} (h : ∀ r, post r σ) : w_X11_needed_ Γ post σ a0 := by
  unfold w_X11_needed_
  have := inv_loop (fun k (q : Int32 × Int32) => u_X11_needed__4 Γ post a0 k σ q.1 q.2) (fun j q => q.2 = nI j) 6 (by
    rintro ⟨s, v⟩ rfl
    show u_X11_needed__4 Γ post a0 1 σ s (nI 6)
    unfold u_X11_needed__4
    exact ⟨fun _ => h _, fun c => absurd (le_self (nI 6)) c⟩) (by
    rintro j k ⟨s, v⟩ hj rfl ih
    show u_X11_needed__4 Γ post a0 (k + 1) σ s (nI j)
    unfold u_X11_needed__4
    refine ⟨fun c => absurd (show nI 6 ≤ nI j from c) (nI_ge hj (by decide)), fun _ => sf_needed (n := j) (by omega) rfl (fun r => ?_)⟩
    rw [nI_1]
    exact ih (_, nI (j + 1)) rfl) 0 (by omega) (0, 0) nI_0.symm
  exact this
theorem sf_cp6 {post : Int32 → MS → Prop} (e : a3 = nI 6) (h : ∀ r, r = 0 ∨ r = 1 → post r σ) : w_K6_X11_canPlay Γ post σ a1 a2 a3 a4 := ⟨fun _ => h 1 (Or.inr rfl), fun c => absurd e c⟩
theorem nar_01r {r : Int32} (h : r = 0 ∨ r = 1) : narrow .boolean (.int r) = .int r := by
  rcases h with h | h
  · rw [h]; rfl
  · rw [h]; rfl

theorem sf_cp5_in {post : Int32 → MS → Prop} {K35 : MS → Int32 → Int32 → Prop} {v5 v6 v7 : Int32} {j : Nat} (O : rOk Tm Γ σ) (e : a3 = nI 5) (h : post 1 σ) (hK : K35 σ v5 (v6 + 1)) (hj : j ≤ Γ.1) : ∃ k, u_K5_X11_canPlay_123 Γ post a1 a2 a3 a4 K35 k σ v5 v6 v7 (nI j) := by
  have hP := O.hP
  refine inv_loop (fun k (v : Int32) => u_K5_X11_canPlay_123 Γ post a1 a2 a3 a4 K35 k σ v5 v6 v7 v) (fun j v => v = nI j) Γ.1 ?_ ?_ j hj (nI j) rfl
  · rintro _ rfl
    show u_K5_X11_canPlay_123 Γ post a1 a2 a3 a4 K35 1 σ v5 v6 v7 (nI Γ.1)
    unfold u_K5_X11_canPlay_123 w_lp_Jx4a65c_size_8abf5
    rw [O.p]
    exact ⟨fun _ => hK, fun c => absurd (le_self _) c⟩
  · rintro j k _ hj rfl ih
    have ih : u_K5_X11_canPlay_123 Γ post a1 a2 a3 a4 K35 k σ v5 v6 v7 (nI j + 1) := ih _ (nI_1 j)
    show u_K5_X11_canPlay_123 Γ post a1 a2 a3 a4 K35 (k + 1) σ v5 v6 v7 (nI j)
    unfold u_K5_X11_canPlay_123 w_lp_Jx4a65c_size_8abf5
    rw [O.p]
    exact ⟨fun c => absurd c (nI_ge hj (by omega)), fun _ => ⟨fun _ => sf_isIn (fun r => ⟨fun _ => ih, fun _ => sf_pget O hj rfl ⟨⟨by omega, hj⟩, sf_isIn (fun r2 => ⟨fun _ => ih, fun _ => sf_cp6 (by rw [e]; decide) (fun r3 _ => ⟨fun _ => ih, fun _ => h⟩)⟩)⟩⟩), fun _ => hK⟩⟩
theorem sf_cp5 {post : Int32 → MS → Prop} (O : rOk Tm Γ σ) (e : a3 = nI 5) (h : ∀ r, r = 0 ∨ r = 1 → post r σ) : w_K5_X11_canPlay Γ post σ a1 a2 a3 a4 := by
  have hP := O.hP
  unfold w_K5_X11_canPlay
  refine ⟨fun _ => h 1 (Or.inr rfl), fun _ => sf_needed (n := 5) (by decide) e (fun r => ⟨fun _ => sf_cp6 (by rw [e]; decide) (fun r2 h2 => ⟨nar_01r h2, h r2 h2⟩), fun _ => ?_⟩)⟩
  refine pl_loop (S := Int32) O (fun k s v => u_K5_X11_canPlay_35 Γ post a1 a2 a3 a4 k σ s v) (fun s => ?_) (fun i k s hi ih => ?_) r
  · unfold u_K5_X11_canPlay_35 w_lp_Jx4a65c_size_8abf5
    rw [O.p]
    exact ⟨fun _ => h 0 (Or.inl rfl), fun c => absurd (le_self _) c⟩
  · have inn : ∃ n, u_K5_X11_canPlay_123 Γ post a1 a2 a3 a4 (fun σ w0 w1 => u_K5_X11_canPlay_35 Γ post a1 a2 a3 a4 k σ w0 w1) n σ s (nI i) (a4 ||| (1 <<< (nI i &&& 31))) (nI i + 1) := by
      rw [nI_1]
      exact sf_cp5_in O e (h 1 (Or.inr rfl)) (ih s) (by omega)
    unfold u_K5_X11_canPlay_35 w_lp_Jx4a65c_size_8abf5
    rw [O.p]
    exact ⟨fun c => absurd c (nI_ge hi (by omega)), fun _ => sf_isIn (fun r => ⟨fun _ => ih s, fun _ => sf_pget O hi rfl ⟨⟨by omega, hi⟩, sf_isIn (fun r2 => ⟨fun _ => ih s, fun _ => ⟨fun _ => sf_cp6 (by rw [e]; decide) (fun r3 _ => ⟨fun _ => inn, fun _ => h 1 (Or.inr rfl)⟩), fun _ => inn⟩⟩)⟩⟩)⟩

theorem sf_cp4_in {post : Int32 → MS → Prop} {K35 : MS → Int32 → Int32 → Prop} {v5 v6 v7 : Int32} {j : Nat} (O : rOk Tm Γ σ) (e : a3 = nI 4) (h : post 1 σ) (hK : K35 σ v5 (v6 + 1)) (hj : j ≤ Γ.1) : ∃ k, u_K4_X11_canPlay_123 Γ post a1 a2 a3 a4 K35 k σ v5 v6 v7 (nI j) := by
  have hP := O.hP
  refine inv_loop (fun k (v : Int32) => u_K4_X11_canPlay_123 Γ post a1 a2 a3 a4 K35 k σ v5 v6 v7 v) (fun j v => v = nI j) Γ.1 ?_ ?_ j hj (nI j) rfl
  · rintro _ rfl
    show u_K4_X11_canPlay_123 Γ post a1 a2 a3 a4 K35 1 σ v5 v6 v7 (nI Γ.1)
    unfold u_K4_X11_canPlay_123 w_lp_Jx4a65c_size_8abf5
    rw [O.p]
    exact ⟨fun _ => hK, fun c => absurd (le_self _) c⟩
  · rintro j k _ hj rfl ih
    have ih : u_K4_X11_canPlay_123 Γ post a1 a2 a3 a4 K35 k σ v5 v6 v7 (nI j + 1) := ih _ (nI_1 j)
    show u_K4_X11_canPlay_123 Γ post a1 a2 a3 a4 K35 (k + 1) σ v5 v6 v7 (nI j)
    unfold u_K4_X11_canPlay_123 w_lp_Jx4a65c_size_8abf5
    rw [O.p]
    exact ⟨fun c => absurd c (nI_ge hj (by omega)), fun _ => ⟨fun _ => sf_isIn (fun r => ⟨fun _ => ih, fun _ => sf_pget O hj rfl ⟨⟨by omega, hj⟩, sf_isIn (fun r2 => ⟨fun _ => ih, fun _ => sf_cp5 O (by rw [e]; decide) (fun r3 _ => ⟨fun _ => ih, fun _ => h⟩)⟩)⟩⟩), fun _ => hK⟩⟩
theorem sf_cp4 {post : Int32 → MS → Prop} (O : rOk Tm Γ σ) (e : a3 = nI 4) (h : ∀ r, r = 0 ∨ r = 1 → post r σ) : w_K4_X11_canPlay Γ post σ a1 a2 a3 a4 := by
  have hP := O.hP
  unfold w_K4_X11_canPlay
  refine ⟨fun _ => h 1 (Or.inr rfl), fun _ => sf_needed (n := 4) (by decide) e (fun r => ⟨fun _ => sf_cp5 O (by rw [e]; decide) (fun r2 h2 => ⟨nar_01r h2, h r2 h2⟩), fun _ => ?_⟩)⟩
  refine pl_loop (S := Int32) O (fun k s v => u_K4_X11_canPlay_35 Γ post a1 a2 a3 a4 k σ s v) (fun s => ?_) (fun i k s hi ih => ?_) r
  · unfold u_K4_X11_canPlay_35 w_lp_Jx4a65c_size_8abf5
    rw [O.p]
    exact ⟨fun _ => h 0 (Or.inl rfl), fun c => absurd (le_self _) c⟩
  · have inn : ∃ n, u_K4_X11_canPlay_123 Γ post a1 a2 a3 a4 (fun σ w0 w1 => u_K4_X11_canPlay_35 Γ post a1 a2 a3 a4 k σ w0 w1) n σ s (nI i) (a4 ||| (1 <<< (nI i &&& 31))) (nI i + 1) := by
      rw [nI_1]
      exact sf_cp4_in O e (h 1 (Or.inr rfl)) (ih s) (by omega)
    unfold u_K4_X11_canPlay_35 w_lp_Jx4a65c_size_8abf5
    rw [O.p]
    exact ⟨fun c => absurd c (nI_ge hi (by omega)), fun _ => sf_isIn (fun r => ⟨fun _ => ih s, fun _ => sf_pget O hi rfl ⟨⟨by omega, hi⟩, sf_isIn (fun r2 => ⟨fun _ => ih s, fun _ => ⟨fun _ => sf_cp5 O (by rw [e]; decide) (fun r3 _ => ⟨fun _ => inn, fun _ => h 1 (Or.inr rfl)⟩), fun _ => inn⟩⟩)⟩⟩)⟩

theorem sf_cp3_in {post : Int32 → MS → Prop} {K35 : MS → Int32 → Int32 → Prop} {v5 v6 v7 : Int32} {j : Nat} (O : rOk Tm Γ σ) (e : a3 = nI 3) (h : post 1 σ) (hK : K35 σ v5 (v6 + 1)) (hj : j ≤ Γ.1) : ∃ k, u_K3_X11_canPlay_123 Γ post a1 a2 a3 a4 K35 k σ v5 v6 v7 (nI j) := by
  have hP := O.hP
  refine inv_loop (fun k (v : Int32) => u_K3_X11_canPlay_123 Γ post a1 a2 a3 a4 K35 k σ v5 v6 v7 v) (fun j v => v = nI j) Γ.1 ?_ ?_ j hj (nI j) rfl
  · rintro _ rfl
    show u_K3_X11_canPlay_123 Γ post a1 a2 a3 a4 K35 1 σ v5 v6 v7 (nI Γ.1)
    unfold u_K3_X11_canPlay_123 w_lp_Jx4a65c_size_8abf5
    rw [O.p]
    exact ⟨fun _ => hK, fun c => absurd (le_self _) c⟩
  · rintro j k _ hj rfl ih
    have ih : u_K3_X11_canPlay_123 Γ post a1 a2 a3 a4 K35 k σ v5 v6 v7 (nI j + 1) := ih _ (nI_1 j)
    show u_K3_X11_canPlay_123 Γ post a1 a2 a3 a4 K35 (k + 1) σ v5 v6 v7 (nI j)
    unfold u_K3_X11_canPlay_123 w_lp_Jx4a65c_size_8abf5
    rw [O.p]
    exact ⟨fun c => absurd c (nI_ge hj (by omega)), fun _ => ⟨fun _ => sf_isIn (fun r => ⟨fun _ => ih, fun _ => sf_pget O hj rfl ⟨⟨by omega, hj⟩, sf_isIn (fun r2 => ⟨fun _ => ih, fun _ => sf_cp4 O (by rw [e]; decide) (fun r3 _ => ⟨fun _ => ih, fun _ => h⟩)⟩)⟩⟩), fun _ => hK⟩⟩
theorem sf_cp3 {post : Int32 → MS → Prop} (O : rOk Tm Γ σ) (e : a3 = nI 3) (h : ∀ r, r = 0 ∨ r = 1 → post r σ) : w_K3_X11_canPlay Γ post σ a1 a2 a3 a4 := by
  have hP := O.hP
  unfold w_K3_X11_canPlay
  refine ⟨fun _ => h 1 (Or.inr rfl), fun _ => sf_needed (n := 3) (by decide) e (fun r => ⟨fun _ => sf_cp4 O (by rw [e]; decide) (fun r2 h2 => ⟨nar_01r h2, h r2 h2⟩), fun _ => ?_⟩)⟩
  refine pl_loop (S := Int32) O (fun k s v => u_K3_X11_canPlay_35 Γ post a1 a2 a3 a4 k σ s v) (fun s => ?_) (fun i k s hi ih => ?_) r
  · unfold u_K3_X11_canPlay_35 w_lp_Jx4a65c_size_8abf5
    rw [O.p]
    exact ⟨fun _ => h 0 (Or.inl rfl), fun c => absurd (le_self _) c⟩
  · have inn : ∃ n, u_K3_X11_canPlay_123 Γ post a1 a2 a3 a4 (fun σ w0 w1 => u_K3_X11_canPlay_35 Γ post a1 a2 a3 a4 k σ w0 w1) n σ s (nI i) (a4 ||| (1 <<< (nI i &&& 31))) (nI i + 1) := by
      rw [nI_1]
      exact sf_cp3_in O e (h 1 (Or.inr rfl)) (ih s) (by omega)
    unfold u_K3_X11_canPlay_35 w_lp_Jx4a65c_size_8abf5
    rw [O.p]
    exact ⟨fun c => absurd c (nI_ge hi (by omega)), fun _ => sf_isIn (fun r => ⟨fun _ => ih s, fun _ => sf_pget O hi rfl ⟨⟨by omega, hi⟩, sf_isIn (fun r2 => ⟨fun _ => ih s, fun _ => ⟨fun _ => sf_cp4 O (by rw [e]; decide) (fun r3 _ => ⟨fun _ => inn, fun _ => h 1 (Or.inr rfl)⟩), fun _ => inn⟩⟩)⟩⟩)⟩

theorem sf_cp2_in {post : Int32 → MS → Prop} {K35 : MS → Int32 → Int32 → Prop} {v5 v6 v7 : Int32} {j : Nat} (O : rOk Tm Γ σ) (e : a3 = nI 2) (h : post 1 σ) (hK : K35 σ v5 (v6 + 1)) (hj : j ≤ Γ.1) : ∃ k, u_K2_X11_canPlay_123 Γ post a1 a2 a3 a4 K35 k σ v5 v6 v7 (nI j) := by
  have hP := O.hP
  refine inv_loop (fun k (v : Int32) => u_K2_X11_canPlay_123 Γ post a1 a2 a3 a4 K35 k σ v5 v6 v7 v) (fun j v => v = nI j) Γ.1 ?_ ?_ j hj (nI j) rfl
  · rintro _ rfl
    show u_K2_X11_canPlay_123 Γ post a1 a2 a3 a4 K35 1 σ v5 v6 v7 (nI Γ.1)
    unfold u_K2_X11_canPlay_123 w_lp_Jx4a65c_size_8abf5
    rw [O.p]
    exact ⟨fun _ => hK, fun c => absurd (le_self _) c⟩
  · rintro j k _ hj rfl ih
    have ih : u_K2_X11_canPlay_123 Γ post a1 a2 a3 a4 K35 k σ v5 v6 v7 (nI j + 1) := ih _ (nI_1 j)
    show u_K2_X11_canPlay_123 Γ post a1 a2 a3 a4 K35 (k + 1) σ v5 v6 v7 (nI j)
    unfold u_K2_X11_canPlay_123 w_lp_Jx4a65c_size_8abf5
    rw [O.p]
    exact ⟨fun c => absurd c (nI_ge hj (by omega)), fun _ => ⟨fun _ => sf_isIn (fun r => ⟨fun _ => ih, fun _ => sf_pget O hj rfl ⟨⟨by omega, hj⟩, sf_isIn (fun r2 => ⟨fun _ => ih, fun _ => sf_cp3 O (by rw [e]; decide) (fun r3 _ => ⟨fun _ => ih, fun _ => h⟩)⟩)⟩⟩), fun _ => hK⟩⟩
theorem sf_cp2 {post : Int32 → MS → Prop} (O : rOk Tm Γ σ) (e : a3 = nI 2) (h : ∀ r, r = 0 ∨ r = 1 → post r σ) : w_K2_X11_canPlay Γ post σ a1 a2 a3 a4 := by
  have hP := O.hP
  unfold w_K2_X11_canPlay
  refine ⟨fun _ => h 1 (Or.inr rfl), fun _ => sf_needed (n := 2) (by decide) e (fun r => ⟨fun _ => sf_cp3 O (by rw [e]; decide) (fun r2 h2 => ⟨nar_01r h2, h r2 h2⟩), fun _ => ?_⟩)⟩
  refine pl_loop (S := Int32) O (fun k s v => u_K2_X11_canPlay_35 Γ post a1 a2 a3 a4 k σ s v) (fun s => ?_) (fun i k s hi ih => ?_) r
  · unfold u_K2_X11_canPlay_35 w_lp_Jx4a65c_size_8abf5
    rw [O.p]
    exact ⟨fun _ => h 0 (Or.inl rfl), fun c => absurd (le_self _) c⟩
  · have inn : ∃ n, u_K2_X11_canPlay_123 Γ post a1 a2 a3 a4 (fun σ w0 w1 => u_K2_X11_canPlay_35 Γ post a1 a2 a3 a4 k σ w0 w1) n σ s (nI i) (a4 ||| (1 <<< (nI i &&& 31))) (nI i + 1) := by
      rw [nI_1]
      exact sf_cp2_in O e (h 1 (Or.inr rfl)) (ih s) (by omega)
    unfold u_K2_X11_canPlay_35 w_lp_Jx4a65c_size_8abf5
    rw [O.p]
    exact ⟨fun c => absurd c (nI_ge hi (by omega)), fun _ => sf_isIn (fun r => ⟨fun _ => ih s, fun _ => sf_pget O hi rfl ⟨⟨by omega, hi⟩, sf_isIn (fun r2 => ⟨fun _ => ih s, fun _ => ⟨fun _ => sf_cp3 O (by rw [e]; decide) (fun r3 _ => ⟨fun _ => inn, fun _ => h 1 (Or.inr rfl)⟩), fun _ => inn⟩⟩)⟩⟩)⟩

theorem sf_cp1_in {post : Int32 → MS → Prop} {K35 : MS → Int32 → Int32 → Prop} {v5 v6 v7 : Int32} {j : Nat} (O : rOk Tm Γ σ) (e : a3 = nI 1) (h : post 1 σ) (hK : K35 σ v5 (v6 + 1)) (hj : j ≤ Γ.1) : ∃ k, u_K1_X11_canPlay_123 Γ post a1 a2 a3 a4 K35 k σ v5 v6 v7 (nI j) := by
  have hP := O.hP
  refine inv_loop (fun k (v : Int32) => u_K1_X11_canPlay_123 Γ post a1 a2 a3 a4 K35 k σ v5 v6 v7 v) (fun j v => v = nI j) Γ.1 ?_ ?_ j hj (nI j) rfl
  · rintro _ rfl
    show u_K1_X11_canPlay_123 Γ post a1 a2 a3 a4 K35 1 σ v5 v6 v7 (nI Γ.1)
    unfold u_K1_X11_canPlay_123 w_lp_Jx4a65c_size_8abf5
    rw [O.p]
    exact ⟨fun _ => hK, fun c => absurd (le_self _) c⟩
  · rintro j k _ hj rfl ih
    have ih : u_K1_X11_canPlay_123 Γ post a1 a2 a3 a4 K35 k σ v5 v6 v7 (nI j + 1) := ih _ (nI_1 j)
    show u_K1_X11_canPlay_123 Γ post a1 a2 a3 a4 K35 (k + 1) σ v5 v6 v7 (nI j)
    unfold u_K1_X11_canPlay_123 w_lp_Jx4a65c_size_8abf5
    rw [O.p]
    exact ⟨fun c => absurd c (nI_ge hj (by omega)), fun _ => ⟨fun _ => sf_isIn (fun r => ⟨fun _ => ih, fun _ => sf_pget O hj rfl ⟨⟨by omega, hj⟩, sf_isIn (fun r2 => ⟨fun _ => ih, fun _ => sf_cp2 O (by rw [e]; decide) (fun r3 _ => ⟨fun _ => ih, fun _ => h⟩)⟩)⟩⟩), fun _ => hK⟩⟩
theorem sf_cp1 {post : Int32 → MS → Prop} (O : rOk Tm Γ σ) (e : a3 = nI 1) (h : ∀ r, r = 0 ∨ r = 1 → post r σ) : w_K1_X11_canPlay Γ post σ a1 a2 a3 a4 := by
  have hP := O.hP
  unfold w_K1_X11_canPlay
  refine ⟨fun _ => h 1 (Or.inr rfl), fun _ => sf_needed (n := 1) (by decide) e (fun r => ⟨fun _ => sf_cp2 O (by rw [e]; decide) (fun r2 h2 => ⟨nar_01r h2, h r2 h2⟩), fun _ => ?_⟩)⟩
  refine pl_loop (S := Int32) O (fun k s v => u_K1_X11_canPlay_35 Γ post a1 a2 a3 a4 k σ s v) (fun s => ?_) (fun i k s hi ih => ?_) r
  · unfold u_K1_X11_canPlay_35 w_lp_Jx4a65c_size_8abf5
    rw [O.p]
    exact ⟨fun _ => h 0 (Or.inl rfl), fun c => absurd (le_self _) c⟩
  · have inn : ∃ n, u_K1_X11_canPlay_123 Γ post a1 a2 a3 a4 (fun σ w0 w1 => u_K1_X11_canPlay_35 Γ post a1 a2 a3 a4 k σ w0 w1) n σ s (nI i) (a4 ||| (1 <<< (nI i &&& 31))) (nI i + 1) := by
      rw [nI_1]
      exact sf_cp1_in O e (h 1 (Or.inr rfl)) (ih s) (by omega)
    unfold u_K1_X11_canPlay_35 w_lp_Jx4a65c_size_8abf5
    rw [O.p]
    exact ⟨fun c => absurd c (nI_ge hi (by omega)), fun _ => sf_isIn (fun r => ⟨fun _ => ih s, fun _ => sf_pget O hi rfl ⟨⟨by omega, hi⟩, sf_isIn (fun r2 => ⟨fun _ => ih s, fun _ => ⟨fun _ => sf_cp2 O (by rw [e]; decide) (fun r3 _ => ⟨fun _ => inn, fun _ => h 1 (Or.inr rfl)⟩), fun _ => inn⟩⟩)⟩⟩)⟩

theorem sf_cp0_in {post : Int32 → MS → Prop} {K35 : MS → Int32 → Int32 → Prop} {v5 v6 v7 : Int32} {j : Nat} (O : rOk Tm Γ σ) (e : a3 = nI 0) (h : post 1 σ) (hK : K35 σ v5 (v6 + 1)) (hj : j ≤ Γ.1) : ∃ k, u_K0_X11_canPlay_123 Γ post a1 a2 a3 a4 K35 k σ v5 v6 v7 (nI j) := by
  have hP := O.hP
  refine inv_loop (fun k (v : Int32) => u_K0_X11_canPlay_123 Γ post a1 a2 a3 a4 K35 k σ v5 v6 v7 v) (fun j v => v = nI j) Γ.1 ?_ ?_ j hj (nI j) rfl
  · rintro _ rfl
    show u_K0_X11_canPlay_123 Γ post a1 a2 a3 a4 K35 1 σ v5 v6 v7 (nI Γ.1)
    unfold u_K0_X11_canPlay_123 w_lp_Jx4a65c_size_8abf5
    rw [O.p]
    exact ⟨fun _ => hK, fun c => absurd (le_self _) c⟩
  · rintro j k _ hj rfl ih
    have ih : u_K0_X11_canPlay_123 Γ post a1 a2 a3 a4 K35 k σ v5 v6 v7 (nI j + 1) := ih _ (nI_1 j)
    show u_K0_X11_canPlay_123 Γ post a1 a2 a3 a4 K35 (k + 1) σ v5 v6 v7 (nI j)
    unfold u_K0_X11_canPlay_123 w_lp_Jx4a65c_size_8abf5
    rw [O.p]
    exact ⟨fun c => absurd c (nI_ge hj (by omega)), fun _ => ⟨fun _ => sf_isIn (fun r => ⟨fun _ => ih, fun _ => sf_pget O hj rfl ⟨⟨by omega, hj⟩, sf_isIn (fun r2 => ⟨fun _ => ih, fun _ => sf_cp1 O (by rw [e]; decide) (fun r3 _ => ⟨fun _ => ih, fun _ => h⟩)⟩)⟩⟩), fun _ => hK⟩⟩
theorem sf_cp0 {post : Int32 → MS → Prop} (O : rOk Tm Γ σ) (e : a3 = nI 0) (h : ∀ r, r = 0 ∨ r = 1 → post r σ) : w_K0_X11_canPlay Γ post σ a1 a2 a3 a4 := by
  have hP := O.hP
  unfold w_K0_X11_canPlay
  refine ⟨fun _ => h 1 (Or.inr rfl), fun _ => sf_needed (n := 0) (by decide) e (fun r => ⟨fun _ => sf_cp1 O (by rw [e]; decide) (fun r2 h2 => ⟨nar_01r h2, h r2 h2⟩), fun _ => ?_⟩)⟩
  refine pl_loop (S := Int32) O (fun k s v => u_K0_X11_canPlay_35 Γ post a1 a2 a3 a4 k σ s v) (fun s => ?_) (fun i k s hi ih => ?_) r
  · unfold u_K0_X11_canPlay_35 w_lp_Jx4a65c_size_8abf5
    rw [O.p]
    exact ⟨fun _ => h 0 (Or.inl rfl), fun c => absurd (le_self _) c⟩
  · have inn : ∃ n, u_K0_X11_canPlay_123 Γ post a1 a2 a3 a4 (fun σ w0 w1 => u_K0_X11_canPlay_35 Γ post a1 a2 a3 a4 k σ w0 w1) n σ s (nI i) (a4 ||| (1 <<< (nI i &&& 31))) (nI i + 1) := by
      rw [nI_1]
      exact sf_cp0_in O e (h 1 (Or.inr rfl)) (ih s) (by omega)
    unfold u_K0_X11_canPlay_35 w_lp_Jx4a65c_size_8abf5
    rw [O.p]
    exact ⟨fun c => absurd c (nI_ge hi (by omega)), fun _ => sf_isIn (fun r => ⟨fun _ => ih s, fun _ => sf_pget O hi rfl ⟨⟨by omega, hi⟩, sf_isIn (fun r2 => ⟨fun _ => ih s, fun _ => ⟨fun _ => sf_cp1 O (by rw [e]; decide) (fun r3 _ => ⟨fun _ => inn, fun _ => h 1 (Or.inr rfl)⟩), fun _ => inn⟩⟩)⟩⟩)⟩

theorem sf_isFilling {post : Int32 → MS → Prop} {w : Nat} (O : rOk Tm Γ σ) (hw : w < Γ.2.2.1) (h : ∀ r, post r σ) : w_X11_isFilling Γ post σ a1 w := by
  obtain ⟨b, hb, eb⟩ := O.band hw
  unfold w_X11_isFilling
  refine sf_lbget O hb eb ⟨hb, ?_⟩
  unfold w_in_J6_intValue_8abf5
  exact sf_bc (fun r => sf_needed_ (fun r2 => ⟨fun _ => sf_isPeaceful O (fun r3 => ⟨fun _ => h 0, fun _ => sf_areKnown O (fun r4 => ⟨fun _ => h 0, fun _ => sf_cp0 O rfl (fun r5 _ => ⟨fun _ => h 0, fun _ => h 1⟩)⟩)⟩), fun _ => h 0⟩))
theorem sf_isBetter {post : Int32 → MS → Prop} {w : Nat} (O : rOk Tm Γ σ) (hw : w < Γ.2.2.1) (h : ∀ r, post r σ) : w_X11_isBetter Γ post σ a1 a2 a3 w := by
  unfold w_X11_isBetter
  exact sf_bc (fun r => sf_bc (fun r2 => ⟨fun _ => h 1, fun _ => ⟨fun _ => sf_costOf O hw (fun r3 => sf_costOf O hw (fun r4 => ⟨fun _ => h 0, fun _ => h 1⟩)), fun _ => h 0⟩⟩))
end RSAFE3
