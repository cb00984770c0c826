section
/-! SEATS: the reference search, one depth more -/
section SEATS3
variable {Tm : MS} {Γ : RG} {σ : MS} {a1 a2 a3 a4 : Int32}
theorem sx_cp4_in {post : Int32 → MS → Prop} {K35 : MS → Int32 → Int32 → Prop} {v5 v6 : Int32} {p : Nat} (O : rOk Tm Γ σ) (hs : shp a2) (e : a3 = nI 4) (e5 : v5 = 2) (hp : p < Γ.1) (hS : fS a1 a4 p) (hI : iR σ p 4) (h : (∃ q, p < q ∧ q < Γ.1 ∧ gd2 σ Γ.1 4 (rpl a2 1) (fS a1 a4) p q) → post 1 σ) (hK : (¬ ∃ q, p < q ∧ q < Γ.1 ∧ gd2 σ Γ.1 4 (rpl a2 1) (fS a1 a4) p q) → K35 σ v5 (v6 + 1)) : ∃ k, u_K4_X11_canPlay_123 Γ post a1 a2 a3 a4 K35 k σ v5 v6 (a4 ||| one p) (nI (p + 1)) := by
  have hP := O.hP
  subst e
  refine inv_loop (fun k (v : Int32) => u_K4_X11_canPlay_123 Γ post a1 a2 (nI 4) a4 K35 k σ v5 v6 (a4 ||| one p) v) (fun j v => v = nI j ∧ p < j ∧ ∀ q, p < q → q < j → ¬ gd2 σ Γ.1 4 (rpl a2 1) (fS a1 a4) p q) Γ.1 ?_ ?_ (p + 1) hp (nI (p + 1)) ⟨rfl, by omega, fun q h1 h2 => by omega⟩
  · rintro _ ⟨rfl, -, hno⟩
    show u_K4_X11_canPlay_123 Γ post a1 a2 (nI 4) a4 K35 1 σ v5 v6 (a4 ||| one p) (nI Γ.1)
    unfold u_K4_X11_canPlay_123 w_lp_Jx4a65c_size_8abf5
    rw [O.p]
    exact ⟨fun _ => hK (fun ⟨q, h1, h2, h3⟩ => hno q h1 h2 h3), fun c => absurd (le_self _) c⟩
  · rintro j k _ hj ⟨rfl, lt, hno⟩ ih
    have hgo : ¬ gd2 σ Γ.1 4 (rpl a2 1) (fS a1 a4) p j ∨ ¬ p < j → u_K4_X11_canPlay_123 Γ post a1 a2 (nI 4) a4 K35 k σ v5 v6 (a4 ||| one p) (nI j + 1) := fun g => ih _ ⟨nI_1 j, by omega, fun q h1 h2 => by
      rcases Nat.eq_or_lt_of_le (Nat.le_of_lt_succ h2) with z | z
      · subst z
        rcases g with g | g
        · exact g
        · exact absurd h1 g
      · exact hno q h1 z⟩
    show u_K4_X11_canPlay_123 Γ post a1 a2 (nI 4) a4 K35 (k + 1) σ v5 v6 (a4 ||| one p) (nI j)
    unfold u_K4_X11_canPlay_123 w_lp_Jx4a65c_size_8abf5
    rw [O.p]
    have w1 : bt (a1 &&& ((a4 ||| one p) ^^^ (-1))) j = true ↔ fS a1 a4 j ∧ j ≠ p := fS_with (by omega) (by omega)
    refine ⟨fun c => absurd c (nI_ge hj (by omega)), fun _ => ⟨fun _ => sx_isIn (by omega) ⟨fun c => hgo (Or.inl (fun g => ?_)), fun c => sf_pget O hj rfl ⟨⟨by omega, hj⟩, ?_⟩⟩, fun c => absurd e5 c⟩⟩
    · have := w1.mpr g.2.2.1
      rw [b01_0.mp c] at this
      cases this
    · have hSj := w1.mp (b01_1.mp c)
      refine sx_isIn (by omega) ⟨fun d => hgo (Or.inl (fun g => ?_)), fun d => ?_⟩
      · have := g.2.2.2.1
        unfold iR at this
        rw [b01_0.mp d] at this
        cases this
      · have hIj : iR σ j 4 := b01_1.mp d
        have cg : can (iR σ) Γ.1 (rpl a2 1) (fS a1 (a4 ||| one p ||| (1 <<< (nI j &&& 31)))) ↔ can (iR σ) Γ.1 (rpl a2 1) (fun r => (fS a1 a4 r ∧ r ≠ p) ∧ r ≠ j) := can_cg _ (fun r hr => by
          rw [show (a4 ||| one p ||| (1 <<< (nI j &&& 31)) : Int32) = (a4 ||| one p) ||| one j from rfl, fS_with (by omega) (by omega), fS_with (by omega) (by omega)])
        exact sx_cp5 O hs (by decide) (fun g => ⟨fun z => absurd z (by decide), fun _ => h ⟨j, lt, hj, hS, hI, hSj, hIj, cg.mp g⟩⟩) (fun g => ⟨fun _ => hgo (Or.inl (fun y => g (cg.mpr y.2.2.2.2))), fun z => absurd rfl z⟩)
theorem sx_cp4 {post : Int32 → MS → Prop} (O : rOk Tm Γ σ) (hs : shp a2) (e : a3 = nI 4) (h1 : can (iR σ) Γ.1 (rpl a2 2) (fS a1 a4) → post 1 σ) (h0 : ¬ can (iR σ) Γ.1 (rpl a2 2) (fS a1 a4) → post 0 σ) : w_K4_X11_canPlay Γ post σ a1 a2 a3 a4 := by
  have hP := O.hP
  have ep : rpl a2 2 = seatsOf (rNeed a2 4) 4 ++ rpl a2 1 := rpl_s a2 1
  unfold w_K4_X11_canPlay
  subst e
  refine ⟨fun c => absurd c (by decide), fun _ => ?_⟩
  refine law_X11_needed (j := 4) (by decide) ⟨fun r0 => ?_, fun r0 => ?_⟩
  · rw [ep, r0, seatsOf_0, List.nil_append] at h1 h0
    exact sx_cp5 O hs (by decide) (fun g => ⟨rfl, h1 g⟩) (fun g => ⟨rfl, h0 g⟩)
  · have hr : rNeed a2 4 = 1 ∨ rNeed a2 4 = 2 := (hs 4 (by decide)).resolve_left r0
    -- none of the first i can begin
    have := inv_loop (fun k (v : Int32) => u_K4_X11_canPlay_35 Γ post a1 a2 (nI 4) a4 k σ (rNeed a2 4) v) (fun i v => v = nI i ∧ ∀ p, p < i → (rNeed a2 4 = 1 → ¬ gd1 σ Γ.1 4 (rpl a2 1) (fS a1 a4) p) ∧ (rNeed a2 4 = 2 → ¬ ∃ q, p < q ∧ q < Γ.1 ∧ gd2 σ Γ.1 4 (rpl a2 1) (fS a1 a4) p q)) Γ.1 (by
      rintro _ ⟨rfl, hno⟩
      show u_K4_X11_canPlay_35 Γ post a1 a2 (nI 4) a4 1 σ (rNeed a2 4) (nI Γ.1)
      unfold u_K4_X11_canPlay_35 w_lp_Jx4a65c_size_8abf5
      rw [O.p]
      refine ⟨fun _ => h0 (fun g => ?_), fun c => absurd (le_self _) c⟩
      rw [ep] at g
      rcases hr with r | r
      · rw [r, seatsOf_1] at g
        obtain ⟨p, hp, hg⟩ := can_one.mp g
        exact (hno p hp).1 r hg
      · rw [r, seatsOf_2] at g
        obtain ⟨p, q, hpq, hq, hg⟩ := can_two.mp g
        exact (hno p (by omega)).2 r ⟨q, hpq, hq, hg⟩) (by
      rintro i k _ hi ⟨rfl, hno⟩ ih
      have nx : ((rNeed a2 4 = 1 → ¬ gd1 σ Γ.1 4 (rpl a2 1) (fS a1 a4) i) ∧ (rNeed a2 4 = 2 → ¬ ∃ q, i < q ∧ q < Γ.1 ∧ gd2 σ Γ.1 4 (rpl a2 1) (fS a1 a4) i q)) → u_K4_X11_canPlay_35 Γ post a1 a2 (nI 4) a4 k σ (rNeed a2 4) (nI i + 1) := fun g => ih _ ⟨nI_1 i, fun p hp => by
        rcases Nat.eq_or_lt_of_le (Nat.le_of_lt_succ hp) with z | z
        · rw [z]; exact g
        · exact hno p z⟩
      show u_K4_X11_canPlay_35 Γ post a1 a2 (nI 4) a4 (k + 1) σ (rNeed a2 4) (nI i)
      unfold u_K4_X11_canPlay_35 w_lp_Jx4a65c_size_8abf5
      rw [O.p]
      refine ⟨fun c => absurd c (nI_ge hi (by omega)), fun _ => sx_isIn (by omega) ⟨fun c => nx ?_, fun c => sf_pget O hi rfl ⟨⟨by omega, hi⟩, sx_isIn (by omega) ⟨fun d => nx ?_, fun d => ?_⟩⟩⟩⟩
      · have no : ¬ fS a1 a4 i := fun z => by
          unfold fS at z
          rw [b01_0.mp c] at z
          cases z
        exact ⟨fun _ g => no g.1, fun _ ⟨q, _, _, g⟩ => no g.1⟩
      · have no : ¬ iR σ i 4 := fun z => by
          unfold iR at z
          rw [b01_0.mp d] at z
          cases z
        exact ⟨fun _ g => no g.2.1, fun _ ⟨q, _, _, g⟩ => no g.2.1⟩
      · have hS : fS a1 a4 i := b01_1.mp c
        have hI : iR σ i 4 := b01_1.mp d
        have cg : can (iR σ) Γ.1 (rpl a2 1) (fS a1 (a4 ||| (1 <<< (nI i &&& 31)))) ↔ can (iR σ) Γ.1 (rpl a2 1) (fun r => fS a1 a4 r ∧ r ≠ i) := can_cg _ (fun r hr => by
          rw [show (a4 ||| (1 <<< (nI i &&& 31)) : Int32) = a4 ||| one i from rfl, fS_with (by omega) (by omega)])
        refine ⟨fun r1 => ?_, fun r1 => ?_⟩
        · -- one place: this one takes it, or none with it; the inner loop finds none
          have r2 : ¬ rNeed a2 4 = 2 := fun z => by rw [r1] at z; exact absurd z (by decide)
          have skip : (¬ gd1 σ Γ.1 4 (rpl a2 1) (fS a1 a4) i) → ∃ n, u_K4_X11_canPlay_123 Γ post a1 a2 (nI 4) a4 (fun σ w0 w1 => u_K4_X11_canPlay_35 Γ post a1 a2 (nI 4) a4 k σ w0 w1) n σ (rNeed a2 4) (nI i) (a4 ||| (1 <<< (nI i &&& 31))) (nI i + 1) := fun g => by
            refine ⟨1, ?_⟩
            unfold u_K4_X11_canPlay_123 w_lp_Jx4a65c_size_8abf5
            have n1 := nx ⟨fun _ => g, fun z => absurd z r2⟩
            exact ⟨fun _ => n1, fun _ => ⟨fun z => absurd z r2, fun _ => n1⟩⟩
          exact sx_cp5 O hs (by decide) (fun g => ⟨fun z => absurd z (by decide), fun _ => h1 (by rw [ep, r1, seatsOf_1]; exact can_one.mpr ⟨i, hi, hS, hI, cg.mp g⟩)⟩) (fun g => ⟨fun _ => skip (fun y => g (cg.mpr y.2.2)), fun z => absurd rfl z⟩)
        · have r2 := hr.resolve_left r1
          have inn := sx_cp4_in (post := post) (K35 := fun σ w0 w1 => u_K4_X11_canPlay_35 Γ post a1 a2 (nI 4) a4 k σ w0 w1) (v6 := nI i) O hs (a3 := nI 4) rfl r2 hi hS hI (fun g => h1 (by
            rw [ep, r2, seatsOf_2]
            obtain ⟨q, g1, g2, g3⟩ := g
            exact can_two.mpr ⟨i, q, g1, g2, g3⟩)) (fun g => nx ⟨fun z => absurd z r1, fun _ => g⟩)
          rw [nI_1]
          exact inn) 0 (by omega) 0 ⟨nI_0.symm, fun p hp => absurd hp (Nat.not_lt_zero _)⟩
    exact this
end SEATS3
end
section
/-! SEATS: the reference search, one depth more -/
section SEATS3
variable {Tm : MS} {Γ : RG} {σ : MS} {a1 a2 a3 a4 : Int32}
theorem sx_cp3_in {post : Int32 → MS → Prop} {K35 : MS → Int32 → Int32 → Prop} {v5 v6 : Int32} {p : Nat} (O : rOk Tm Γ σ) (hs : shp a2) (e : a3 = nI 3) (e5 : v5 = 2) (hp : p < Γ.1) (hS : fS a1 a4 p) (hI : iR σ p 3) (h : (∃ q, p < q ∧ q < Γ.1 ∧ gd2 σ Γ.1 3 (rpl a2 2) (fS a1 a4) p q) → post 1 σ) (hK : (¬ ∃ q, p < q ∧ q < Γ.1 ∧ gd2 σ Γ.1 3 (rpl a2 2) (fS a1 a4) p q) → K35 σ v5 (v6 + 1)) : ∃ k, u_K3_X11_canPlay_123 Γ post a1 a2 a3 a4 K35 k σ v5 v6 (a4 ||| one p) (nI (p + 1)) := by
  have hP := O.hP
  subst e
  refine inv_loop (fun k (v : Int32) => u_K3_X11_canPlay_123 Γ post a1 a2 (nI 3) a4 K35 k σ v5 v6 (a4 ||| one p) v) (fun j v => v = nI j ∧ p < j ∧ ∀ q, p < q → q < j → ¬ gd2 σ Γ.1 3 (rpl a2 2) (fS a1 a4) p q) Γ.1 ?_ ?_ (p + 1) hp (nI (p + 1)) ⟨rfl, by omega, fun q h1 h2 => by omega⟩
  · rintro _ ⟨rfl, -, hno⟩
    show u_K3_X11_canPlay_123 Γ post a1 a2 (nI 3) a4 K35 1 σ v5 v6 (a4 ||| one p) (nI Γ.1)
    unfold u_K3_X11_canPlay_123 w_lp_Jx4a65c_size_8abf5
    rw [O.p]
    exact ⟨fun _ => hK (fun ⟨q, h1, h2, h3⟩ => hno q h1 h2 h3), fun c => absurd (le_self _) c⟩
  · rintro j k _ hj ⟨rfl, lt, hno⟩ ih
    have hgo : ¬ gd2 σ Γ.1 3 (rpl a2 2) (fS a1 a4) p j ∨ ¬ p < j → u_K3_X11_canPlay_123 Γ post a1 a2 (nI 3) a4 K35 k σ v5 v6 (a4 ||| one p) (nI j + 1) := fun g => ih _ ⟨nI_1 j, by omega, fun q h1 h2 => by
      rcases Nat.eq_or_lt_of_le (Nat.le_of_lt_succ h2) with z | z
      · subst z
        rcases g with g | g
        · exact g
        · exact absurd h1 g
      · exact hno q h1 z⟩
    show u_K3_X11_canPlay_123 Γ post a1 a2 (nI 3) a4 K35 (k + 1) σ v5 v6 (a4 ||| one p) (nI j)
    unfold u_K3_X11_canPlay_123 w_lp_Jx4a65c_size_8abf5
    rw [O.p]
    have w1 : bt (a1 &&& ((a4 ||| one p) ^^^ (-1))) j = true ↔ fS a1 a4 j ∧ j ≠ p := fS_with (by omega) (by omega)
    refine ⟨fun c => absurd c (nI_ge hj (by omega)), fun _ => ⟨fun _ => sx_isIn (by omega) ⟨fun c => hgo (Or.inl (fun g => ?_)), fun c => sf_pget O hj rfl ⟨⟨by omega, hj⟩, ?_⟩⟩, fun c => absurd e5 c⟩⟩
    · have := w1.mpr g.2.2.1
      rw [b01_0.mp c] at this
      cases this
    · have hSj := w1.mp (b01_1.mp c)
      refine sx_isIn (by omega) ⟨fun d => hgo (Or.inl (fun g => ?_)), fun d => ?_⟩
      · have := g.2.2.2.1
        unfold iR at this
        rw [b01_0.mp d] at this
        cases this
      · have hIj : iR σ j 3 := b01_1.mp d
        have cg : can (iR σ) Γ.1 (rpl a2 2) (fS a1 (a4 ||| one p ||| (1 <<< (nI j &&& 31)))) ↔ can (iR σ) Γ.1 (rpl a2 2) (fun r => (fS a1 a4 r ∧ r ≠ p) ∧ r ≠ j) := can_cg _ (fun r hr => by
          rw [show (a4 ||| one p ||| (1 <<< (nI j &&& 31)) : Int32) = (a4 ||| one p) ||| one j from rfl, fS_with (by omega) (by omega), fS_with (by omega) (by omega)])
        exact sx_cp4 O hs (by decide) (fun g => ⟨fun z => absurd z (by decide), fun _ => h ⟨j, lt, hj, hS, hI, hSj, hIj, cg.mp g⟩⟩) (fun g => ⟨fun _ => hgo (Or.inl (fun y => g (cg.mpr y.2.2.2.2))), fun z => absurd rfl z⟩)
theorem sx_cp3 {post : Int32 → MS → Prop} (O : rOk Tm Γ σ) (hs : shp a2) (e : a3 = nI 3) (h1 : can (iR σ) Γ.1 (rpl a2 3) (fS a1 a4) → post 1 σ) (h0 : ¬ can (iR σ) Γ.1 (rpl a2 3) (fS a1 a4) → post 0 σ) : w_K3_X11_canPlay Γ post σ a1 a2 a3 a4 := by
  have hP := O.hP
  have ep : rpl a2 3 = seatsOf (rNeed a2 3) 3 ++ rpl a2 2 := rpl_s a2 2
  unfold w_K3_X11_canPlay
  subst e
  refine ⟨fun c => absurd c (by decide), fun _ => ?_⟩
  refine law_X11_needed (j := 3) (by decide) ⟨fun r0 => ?_, fun r0 => ?_⟩
  · rw [ep, r0, seatsOf_0, List.nil_append] at h1 h0
    exact sx_cp4 O hs (by decide) (fun g => ⟨rfl, h1 g⟩) (fun g => ⟨rfl, h0 g⟩)
  · have hr : rNeed a2 3 = 1 ∨ rNeed a2 3 = 2 := (hs 3 (by decide)).resolve_left r0
    -- none of the first i can begin
    have := inv_loop (fun k (v : Int32) => u_K3_X11_canPlay_35 Γ post a1 a2 (nI 3) a4 k σ (rNeed a2 3) v) (fun i v => v = nI i ∧ ∀ p, p < i → (rNeed a2 3 = 1 → ¬ gd1 σ Γ.1 3 (rpl a2 2) (fS a1 a4) p) ∧ (rNeed a2 3 = 2 → ¬ ∃ q, p < q ∧ q < Γ.1 ∧ gd2 σ Γ.1 3 (rpl a2 2) (fS a1 a4) p q)) Γ.1 (by
      rintro _ ⟨rfl, hno⟩
      show u_K3_X11_canPlay_35 Γ post a1 a2 (nI 3) a4 1 σ (rNeed a2 3) (nI Γ.1)
      unfold u_K3_X11_canPlay_35 w_lp_Jx4a65c_size_8abf5
      rw [O.p]
      refine ⟨fun _ => h0 (fun g => ?_), fun c => absurd (le_self _) c⟩
      rw [ep] at g
      rcases hr with r | r
      · rw [r, seatsOf_1] at g
        obtain ⟨p, hp, hg⟩ := can_one.mp g
        exact (hno p hp).1 r hg
      · rw [r, seatsOf_2] at g
        obtain ⟨p, q, hpq, hq, hg⟩ := can_two.mp g
        exact (hno p (by omega)).2 r ⟨q, hpq, hq, hg⟩) (by
      rintro i k _ hi ⟨rfl, hno⟩ ih
      have nx : ((rNeed a2 3 = 1 → ¬ gd1 σ Γ.1 3 (rpl a2 2) (fS a1 a4) i) ∧ (rNeed a2 3 = 2 → ¬ ∃ q, i < q ∧ q < Γ.1 ∧ gd2 σ Γ.1 3 (rpl a2 2) (fS a1 a4) i q)) → u_K3_X11_canPlay_35 Γ post a1 a2 (nI 3) a4 k σ (rNeed a2 3) (nI i + 1) := fun g => ih _ ⟨nI_1 i, fun p hp => by
        rcases Nat.eq_or_lt_of_le (Nat.le_of_lt_succ hp) with z | z
        · rw [z]; exact g
        · exact hno p z⟩
      show u_K3_X11_canPlay_35 Γ post a1 a2 (nI 3) a4 (k + 1) σ (rNeed a2 3) (nI i)
      unfold u_K3_X11_canPlay_35 w_lp_Jx4a65c_size_8abf5
      rw [O.p]
      refine ⟨fun c => absurd c (nI_ge hi (by omega)), fun _ => sx_isIn (by omega) ⟨fun c => nx ?_, fun c => sf_pget O hi rfl ⟨⟨by omega, hi⟩, sx_isIn (by omega) ⟨fun d => nx ?_, fun d => ?_⟩⟩⟩⟩
      · have no : ¬ fS a1 a4 i := fun z => by
          unfold fS at z
          rw [b01_0.mp c] at z
          cases z
        exact ⟨fun _ g => no g.1, fun _ ⟨q, _, _, g⟩ => no g.1⟩
      · have no : ¬ iR σ i 3 := fun z => by
          unfold iR at z
          rw [b01_0.mp d] at z
          cases z
        exact ⟨fun _ g => no g.2.1, fun _ ⟨q, _, _, g⟩ => no g.2.1⟩
      · have hS : fS a1 a4 i := b01_1.mp c
        have hI : iR σ i 3 := b01_1.mp d
        have cg : can (iR σ) Γ.1 (rpl a2 2) (fS a1 (a4 ||| (1 <<< (nI i &&& 31)))) ↔ can (iR σ) Γ.1 (rpl a2 2) (fun r => fS a1 a4 r ∧ r ≠ i) := can_cg _ (fun r hr => by
          rw [show (a4 ||| (1 <<< (nI i &&& 31)) : Int32) = a4 ||| one i from rfl, fS_with (by omega) (by omega)])
        refine ⟨fun r1 => ?_, fun r1 => ?_⟩
        · -- one place: this one takes it, or none with it; the inner loop finds none
          have r2 : ¬ rNeed a2 3 = 2 := fun z => by rw [r1] at z; exact absurd z (by decide)
          have skip : (¬ gd1 σ Γ.1 3 (rpl a2 2) (fS a1 a4) i) → ∃ n, u_K3_X11_canPlay_123 Γ post a1 a2 (nI 3) a4 (fun σ w0 w1 => u_K3_X11_canPlay_35 Γ post a1 a2 (nI 3) a4 k σ w0 w1) n σ (rNeed a2 3) (nI i) (a4 ||| (1 <<< (nI i &&& 31))) (nI i + 1) := fun g => by
            refine ⟨1, ?_⟩
            unfold u_K3_X11_canPlay_123 w_lp_Jx4a65c_size_8abf5
            have n1 := nx ⟨fun _ => g, fun z => absurd z r2⟩
            exact ⟨fun _ => n1, fun _ => ⟨fun z => absurd z r2, fun _ => n1⟩⟩
          exact sx_cp4 O hs (by decide) (fun g => ⟨fun z => absurd z (by decide), fun _ => h1 (by rw [ep, r1, seatsOf_1]; exact can_one.mpr ⟨i, hi, hS, hI, cg.mp g⟩)⟩) (fun g => ⟨fun _ => skip (fun y => g (cg.mpr y.2.2)), fun z => absurd rfl z⟩)
        · have r2 := hr.resolve_left r1
          have inn := sx_cp3_in (post := post) (K35 := fun σ w0 w1 => u_K3_X11_canPlay_35 Γ post a1 a2 (nI 3) a4 k σ w0 w1) (v6 := nI i) O hs (a3 := nI 3) rfl r2 hi hS hI (fun g => h1 (by
            rw [ep, r2, seatsOf_2]
            obtain ⟨q, g1, g2, g3⟩ := g
            exact can_two.mpr ⟨i, q, g1, g2, g3⟩)) (fun g => nx ⟨fun z => absurd z r1, fun _ => g⟩)
          rw [nI_1]
          exact inn) 0 (by omega) 0 ⟨nI_0.symm, fun p hp => absurd hp (Nat.not_lt_zero _)⟩
    exact this
end SEATS3
end
section
/-! SEATS: the reference search, one depth more -/
section SEATS3
variable {Tm : MS} {Γ : RG} {σ : MS} {a1 a2 a3 a4 : Int32}
theorem sx_cp2_in {post : Int32 → MS → Prop} {K35 : MS → Int32 → Int32 → Prop} {v5 v6 : Int32} {p : Nat} (O : rOk Tm Γ σ) (hs : shp a2) (e : a3 = nI 2) (e5 : v5 = 2) (hp : p < Γ.1) (hS : fS a1 a4 p) (hI : iR σ p 2) (h : (∃ q, p < q ∧ q < Γ.1 ∧ gd2 σ Γ.1 2 (rpl a2 3) (fS a1 a4) p q) → post 1 σ) (hK : (¬ ∃ q, p < q ∧ q < Γ.1 ∧ gd2 σ Γ.1 2 (rpl a2 3) (fS a1 a4) p q) → K35 σ v5 (v6 + 1)) : ∃ k, u_K2_X11_canPlay_123 Γ post a1 a2 a3 a4 K35 k σ v5 v6 (a4 ||| one p) (nI (p + 1)) := by
  have hP := O.hP
  subst e
  refine inv_loop (fun k (v : Int32) => u_K2_X11_canPlay_123 Γ post a1 a2 (nI 2) a4 K35 k σ v5 v6 (a4 ||| one p) v) (fun j v => v = nI j ∧ p < j ∧ ∀ q, p < q → q < j → ¬ gd2 σ Γ.1 2 (rpl a2 3) (fS a1 a4) p q) Γ.1 ?_ ?_ (p + 1) hp (nI (p + 1)) ⟨rfl, by omega, fun q h1 h2 => by omega⟩
  · rintro _ ⟨rfl, -, hno⟩
    show u_K2_X11_canPlay_123 Γ post a1 a2 (nI 2) a4 K35 1 σ v5 v6 (a4 ||| one p) (nI Γ.1)
    unfold u_K2_X11_canPlay_123 w_lp_Jx4a65c_size_8abf5
    rw [O.p]
    exact ⟨fun _ => hK (fun ⟨q, h1, h2, h3⟩ => hno q h1 h2 h3), fun c => absurd (le_self _) c⟩
  · rintro j k _ hj ⟨rfl, lt, hno⟩ ih
    have hgo : ¬ gd2 σ Γ.1 2 (rpl a2 3) (fS a1 a4) p j ∨ ¬ p < j → u_K2_X11_canPlay_123 Γ post a1 a2 (nI 2) a4 K35 k σ v5 v6 (a4 ||| one p) (nI j + 1) := fun g => ih _ ⟨nI_1 j, by omega, fun q h1 h2 => by
      rcases Nat.eq_or_lt_of_le (Nat.le_of_lt_succ h2) with z | z
      · subst z
        rcases g with g | g
        · exact g
        · exact absurd h1 g
      · exact hno q h1 z⟩
    show u_K2_X11_canPlay_123 Γ post a1 a2 (nI 2) a4 K35 (k + 1) σ v5 v6 (a4 ||| one p) (nI j)
    unfold u_K2_X11_canPlay_123 w_lp_Jx4a65c_size_8abf5
    rw [O.p]
    have w1 : bt (a1 &&& ((a4 ||| one p) ^^^ (-1))) j = true ↔ fS a1 a4 j ∧ j ≠ p := fS_with (by omega) (by omega)
    refine ⟨fun c => absurd c (nI_ge hj (by omega)), fun _ => ⟨fun _ => sx_isIn (by omega) ⟨fun c => hgo (Or.inl (fun g => ?_)), fun c => sf_pget O hj rfl ⟨⟨by omega, hj⟩, ?_⟩⟩, fun c => absurd e5 c⟩⟩
    · have := w1.mpr g.2.2.1
      rw [b01_0.mp c] at this
      cases this
    · have hSj := w1.mp (b01_1.mp c)
      refine sx_isIn (by omega) ⟨fun d => hgo (Or.inl (fun g => ?_)), fun d => ?_⟩
      · have := g.2.2.2.1
        unfold iR at this
        rw [b01_0.mp d] at this
        cases this
      · have hIj : iR σ j 2 := b01_1.mp d
        have cg : can (iR σ) Γ.1 (rpl a2 3) (fS a1 (a4 ||| one p ||| (1 <<< (nI j &&& 31)))) ↔ can (iR σ) Γ.1 (rpl a2 3) (fun r => (fS a1 a4 r ∧ r ≠ p) ∧ r ≠ j) := can_cg _ (fun r hr => by
          rw [show (a4 ||| one p ||| (1 <<< (nI j &&& 31)) : Int32) = (a4 ||| one p) ||| one j from rfl, fS_with (by omega) (by omega), fS_with (by omega) (by omega)])
        exact sx_cp3 O hs (by decide) (fun g => ⟨fun z => absurd z (by decide), fun _ => h ⟨j, lt, hj, hS, hI, hSj, hIj, cg.mp g⟩⟩) (fun g => ⟨fun _ => hgo (Or.inl (fun y => g (cg.mpr y.2.2.2.2))), fun z => absurd rfl z⟩)
theorem sx_cp2 {post : Int32 → MS → Prop} (O : rOk Tm Γ σ) (hs : shp a2) (e : a3 = nI 2) (h1 : can (iR σ) Γ.1 (rpl a2 4) (fS a1 a4) → post 1 σ) (h0 : ¬ can (iR σ) Γ.1 (rpl a2 4) (fS a1 a4) → post 0 σ) : w_K2_X11_canPlay Γ post σ a1 a2 a3 a4 := by
  have hP := O.hP
  have ep : rpl a2 4 = seatsOf (rNeed a2 2) 2 ++ rpl a2 3 := rpl_s a2 3
  unfold w_K2_X11_canPlay
  subst e
  refine ⟨fun c => absurd c (by decide), fun _ => ?_⟩
  refine law_X11_needed (j := 2) (by decide) ⟨fun r0 => ?_, fun r0 => ?_⟩
  · rw [ep, r0, seatsOf_0, List.nil_append] at h1 h0
    exact sx_cp3 O hs (by decide) (fun g => ⟨rfl, h1 g⟩) (fun g => ⟨rfl, h0 g⟩)
  · have hr : rNeed a2 2 = 1 ∨ rNeed a2 2 = 2 := (hs 2 (by decide)).resolve_left r0
    -- none of the first i can begin
    have := inv_loop (fun k (v : Int32) => u_K2_X11_canPlay_35 Γ post a1 a2 (nI 2) a4 k σ (rNeed a2 2) v) (fun i v => v = nI i ∧ ∀ p, p < i → (rNeed a2 2 = 1 → ¬ gd1 σ Γ.1 2 (rpl a2 3) (fS a1 a4) p) ∧ (rNeed a2 2 = 2 → ¬ ∃ q, p < q ∧ q < Γ.1 ∧ gd2 σ Γ.1 2 (rpl a2 3) (fS a1 a4) p q)) Γ.1 (by
      rintro _ ⟨rfl, hno⟩
      show u_K2_X11_canPlay_35 Γ post a1 a2 (nI 2) a4 1 σ (rNeed a2 2) (nI Γ.1)
      unfold u_K2_X11_canPlay_35 w_lp_Jx4a65c_size_8abf5
      rw [O.p]
      refine ⟨fun _ => h0 (fun g => ?_), fun c => absurd (le_self _) c⟩
      rw [ep] at g
      rcases hr with r | r
      · rw [r, seatsOf_1] at g
        obtain ⟨p, hp, hg⟩ := can_one.mp g
        exact (hno p hp).1 r hg
      · rw [r, seatsOf_2] at g
        obtain ⟨p, q, hpq, hq, hg⟩ := can_two.mp g
        exact (hno p (by omega)).2 r ⟨q, hpq, hq, hg⟩) (by
      rintro i k _ hi ⟨rfl, hno⟩ ih
      have nx : ((rNeed a2 2 = 1 → ¬ gd1 σ Γ.1 2 (rpl a2 3) (fS a1 a4) i) ∧ (rNeed a2 2 = 2 → ¬ ∃ q, i < q ∧ q < Γ.1 ∧ gd2 σ Γ.1 2 (rpl a2 3) (fS a1 a4) i q)) → u_K2_X11_canPlay_35 Γ post a1 a2 (nI 2) a4 k σ (rNeed a2 2) (nI i + 1) := fun g => ih _ ⟨nI_1 i, fun p hp => by
        rcases Nat.eq_or_lt_of_le (Nat.le_of_lt_succ hp) with z | z
        · rw [z]; exact g
        · exact hno p z⟩
      show u_K2_X11_canPlay_35 Γ post a1 a2 (nI 2) a4 (k + 1) σ (rNeed a2 2) (nI i)
      unfold u_K2_X11_canPlay_35 w_lp_Jx4a65c_size_8abf5
      rw [O.p]
      refine ⟨fun c => absurd c (nI_ge hi (by omega)), fun _ => sx_isIn (by omega) ⟨fun c => nx ?_, fun c => sf_pget O hi rfl ⟨⟨by omega, hi⟩, sx_isIn (by omega) ⟨fun d => nx ?_, fun d => ?_⟩⟩⟩⟩
      · have no : ¬ fS a1 a4 i := fun z => by
          unfold fS at z
          rw [b01_0.mp c] at z
          cases z
        exact ⟨fun _ g => no g.1, fun _ ⟨q, _, _, g⟩ => no g.1⟩
      · have no : ¬ iR σ i 2 := fun z => by
          unfold iR at z
          rw [b01_0.mp d] at z
          cases z
        exact ⟨fun _ g => no g.2.1, fun _ ⟨q, _, _, g⟩ => no g.2.1⟩
      · have hS : fS a1 a4 i := b01_1.mp c
        have hI : iR σ i 2 := b01_1.mp d
        have cg : can (iR σ) Γ.1 (rpl a2 3) (fS a1 (a4 ||| (1 <<< (nI i &&& 31)))) ↔ can (iR σ) Γ.1 (rpl a2 3) (fun r => fS a1 a4 r ∧ r ≠ i) := can_cg _ (fun r hr => by
          rw [show (a4 ||| (1 <<< (nI i &&& 31)) : Int32) = a4 ||| one i from rfl, fS_with (by omega) (by omega)])
        refine ⟨fun r1 => ?_, fun r1 => ?_⟩
        · -- one place: this one takes it, or none with it; the inner loop finds none
          have r2 : ¬ rNeed a2 2 = 2 := fun z => by rw [r1] at z; exact absurd z (by decide)
          have skip : (¬ gd1 σ Γ.1 2 (rpl a2 3) (fS a1 a4) i) → ∃ n, u_K2_X11_canPlay_123 Γ post a1 a2 (nI 2) a4 (fun σ w0 w1 => u_K2_X11_canPlay_35 Γ post a1 a2 (nI 2) a4 k σ w0 w1) n σ (rNeed a2 2) (nI i) (a4 ||| (1 <<< (nI i &&& 31))) (nI i + 1) := fun g => by
            refine ⟨1, ?_⟩
            unfold u_K2_X11_canPlay_123 w_lp_Jx4a65c_size_8abf5
            have n1 := nx ⟨fun _ => g, fun z => absurd z r2⟩
            exact ⟨fun _ => n1, fun _ => ⟨fun z => absurd z r2, fun _ => n1⟩⟩
          exact sx_cp3 O hs (by decide) (fun g => ⟨fun z => absurd z (by decide), fun _ => h1 (by rw [ep, r1, seatsOf_1]; exact can_one.mpr ⟨i, hi, hS, hI, cg.mp g⟩)⟩) (fun g => ⟨fun _ => skip (fun y => g (cg.mpr y.2.2)), fun z => absurd rfl z⟩)
        · have r2 := hr.resolve_left r1
          have inn := sx_cp2_in (post := post) (K35 := fun σ w0 w1 => u_K2_X11_canPlay_35 Γ post a1 a2 (nI 2) a4 k σ w0 w1) (v6 := nI i) O hs (a3 := nI 2) rfl r2 hi hS hI (fun g => h1 (by
            rw [ep, r2, seatsOf_2]
            obtain ⟨q, g1, g2, g3⟩ := g
            exact can_two.mpr ⟨i, q, g1, g2, g3⟩)) (fun g => nx ⟨fun z => absurd z r1, fun _ => g⟩)
          rw [nI_1]
          exact inn) 0 (by omega) 0 ⟨nI_0.symm, fun p hp => absurd hp (Nat.not_lt_zero _)⟩
    exact this
end SEATS3
end
section
/-! SEATS: the reference search, one depth more -/
section SEATS3
variable {Tm : MS} {Γ : RG} {σ : MS} {a1 a2 a3 a4 : Int32}
theorem sx_cp1_in {post : Int32 → MS → Prop} {K35 : MS → Int32 → Int32 → Prop} {v5 v6 : Int32} {p : Nat} (O : rOk Tm Γ σ) (hs : shp a2) (e : a3 = nI 1) (e5 : v5 = 2) (hp : p < Γ.1) (hS : fS a1 a4 p) (hI : iR σ p 1) (h : (∃ q, p < q ∧ q < Γ.1 ∧ gd2 σ Γ.1 1 (rpl a2 4) (fS a1 a4) p q) → post 1 σ) (hK : (¬ ∃ q, p < q ∧ q < Γ.1 ∧ gd2 σ Γ.1 1 (rpl a2 4) (fS a1 a4) p q) → K35 σ v5 (v6 + 1)) : ∃ k, u_K1_X11_canPlay_123 Γ post a1 a2 a3 a4 K35 k σ v5 v6 (a4 ||| one p) (nI (p + 1)) := by
  have hP := O.hP
  subst e
  refine inv_loop (fun k (v : Int32) => u_K1_X11_canPlay_123 Γ post a1 a2 (nI 1) a4 K35 k σ v5 v6 (a4 ||| one p) v) (fun j v => v = nI j ∧ p < j ∧ ∀ q, p < q → q < j → ¬ gd2 σ Γ.1 1 (rpl a2 4) (fS a1 a4) p q) Γ.1 ?_ ?_ (p + 1) hp (nI (p + 1)) ⟨rfl, by omega, fun q h1 h2 => by omega⟩
  · rintro _ ⟨rfl, -, hno⟩
    show u_K1_X11_canPlay_123 Γ post a1 a2 (nI 1) a4 K35 1 σ v5 v6 (a4 ||| one p) (nI Γ.1)
    unfold u_K1_X11_canPlay_123 w_lp_Jx4a65c_size_8abf5
    rw [O.p]
    exact ⟨fun _ => hK (fun ⟨q, h1, h2, h3⟩ => hno q h1 h2 h3), fun c => absurd (le_self _) c⟩
  · rintro j k _ hj ⟨rfl, lt, hno⟩ ih
    have hgo : ¬ gd2 σ Γ.1 1 (rpl a2 4) (fS a1 a4) p j ∨ ¬ p < j → u_K1_X11_canPlay_123 Γ post a1 a2 (nI 1) a4 K35 k σ v5 v6 (a4 ||| one p) (nI j + 1) := fun g => ih _ ⟨nI_1 j, by omega, fun q h1 h2 => by
      rcases Nat.eq_or_lt_of_le (Nat.le_of_lt_succ h2) with z | z
      · subst z
        rcases g with g | g
        · exact g
        · exact absurd h1 g
      · exact hno q h1 z⟩
    show u_K1_X11_canPlay_123 Γ post a1 a2 (nI 1) a4 K35 (k + 1) σ v5 v6 (a4 ||| one p) (nI j)
    unfold u_K1_X11_canPlay_123 w_lp_Jx4a65c_size_8abf5
    rw [O.p]
    have w1 : bt (a1 &&& ((a4 ||| one p) ^^^ (-1))) j = true ↔ fS a1 a4 j ∧ j ≠ p := fS_with (by omega) (by omega)
    refine ⟨fun c => absurd c (nI_ge hj (by omega)), fun _ => ⟨fun _ => sx_isIn (by omega) ⟨fun c => hgo (Or.inl (fun g => ?_)), fun c => sf_pget O hj rfl ⟨⟨by omega, hj⟩, ?_⟩⟩, fun c => absurd e5 c⟩⟩
    · have := w1.mpr g.2.2.1
      rw [b01_0.mp c] at this
      cases this
    · have hSj := w1.mp (b01_1.mp c)
      refine sx_isIn (by omega) ⟨fun d => hgo (Or.inl (fun g => ?_)), fun d => ?_⟩
      · have := g.2.2.2.1
        unfold iR at this
        rw [b01_0.mp d] at this
        cases this
      · have hIj : iR σ j 1 := b01_1.mp d
        have cg : can (iR σ) Γ.1 (rpl a2 4) (fS a1 (a4 ||| one p ||| (1 <<< (nI j &&& 31)))) ↔ can (iR σ) Γ.1 (rpl a2 4) (fun r => (fS a1 a4 r ∧ r ≠ p) ∧ r ≠ j) := can_cg _ (fun r hr => by
          rw [show (a4 ||| one p ||| (1 <<< (nI j &&& 31)) : Int32) = (a4 ||| one p) ||| one j from rfl, fS_with (by omega) (by omega), fS_with (by omega) (by omega)])
        exact sx_cp2 O hs (by decide) (fun g => ⟨fun z => absurd z (by decide), fun _ => h ⟨j, lt, hj, hS, hI, hSj, hIj, cg.mp g⟩⟩) (fun g => ⟨fun _ => hgo (Or.inl (fun y => g (cg.mpr y.2.2.2.2))), fun z => absurd rfl z⟩)
theorem sx_cp1 {post : Int32 → MS → Prop} (O : rOk Tm Γ σ) (hs : shp a2) (e : a3 = nI 1) (h1 : can (iR σ) Γ.1 (rpl a2 5) (fS a1 a4) → post 1 σ) (h0 : ¬ can (iR σ) Γ.1 (rpl a2 5) (fS a1 a4) → post 0 σ) : w_K1_X11_canPlay Γ post σ a1 a2 a3 a4 := by
  have hP := O.hP
  have ep : rpl a2 5 = seatsOf (rNeed a2 1) 1 ++ rpl a2 4 := rpl_s a2 4
  unfold w_K1_X11_canPlay
  subst e
  refine ⟨fun c => absurd c (by decide), fun _ => ?_⟩
  refine law_X11_needed (j := 1) (by decide) ⟨fun r0 => ?_, fun r0 => ?_⟩
  · rw [ep, r0, seatsOf_0, List.nil_append] at h1 h0
    exact sx_cp2 O hs (by decide) (fun g => ⟨rfl, h1 g⟩) (fun g => ⟨rfl, h0 g⟩)
  · have hr : rNeed a2 1 = 1 ∨ rNeed a2 1 = 2 := (hs 1 (by decide)).resolve_left r0
    -- none of the first i can begin
    have := inv_loop (fun k (v : Int32) => u_K1_X11_canPlay_35 Γ post a1 a2 (nI 1) a4 k σ (rNeed a2 1) v) (fun i v => v = nI i ∧ ∀ p, p < i → (rNeed a2 1 = 1 → ¬ gd1 σ Γ.1 1 (rpl a2 4) (fS a1 a4) p) ∧ (rNeed a2 1 = 2 → ¬ ∃ q, p < q ∧ q < Γ.1 ∧ gd2 σ Γ.1 1 (rpl a2 4) (fS a1 a4) p q)) Γ.1 (by
      rintro _ ⟨rfl, hno⟩
      show u_K1_X11_canPlay_35 Γ post a1 a2 (nI 1) a4 1 σ (rNeed a2 1) (nI Γ.1)
      unfold u_K1_X11_canPlay_35 w_lp_Jx4a65c_size_8abf5
      rw [O.p]
      refine ⟨fun _ => h0 (fun g => ?_), fun c => absurd (le_self _) c⟩
      rw [ep] at g
      rcases hr with r | r
      · rw [r, seatsOf_1] at g
        obtain ⟨p, hp, hg⟩ := can_one.mp g
        exact (hno p hp).1 r hg
      · rw [r, seatsOf_2] at g
        obtain ⟨p, q, hpq, hq, hg⟩ := can_two.mp g
        exact (hno p (by omega)).2 r ⟨q, hpq, hq, hg⟩) (by
      rintro i k _ hi ⟨rfl, hno⟩ ih
      have nx : ((rNeed a2 1 = 1 → ¬ gd1 σ Γ.1 1 (rpl a2 4) (fS a1 a4) i) ∧ (rNeed a2 1 = 2 → ¬ ∃ q, i < q ∧ q < Γ.1 ∧ gd2 σ Γ.1 1 (rpl a2 4) (fS a1 a4) i q)) → u_K1_X11_canPlay_35 Γ post a1 a2 (nI 1) a4 k σ (rNeed a2 1) (nI i + 1) := fun g => ih _ ⟨nI_1 i, fun p hp => by
        rcases Nat.eq_or_lt_of_le (Nat.le_of_lt_succ hp) with z | z
        · rw [z]; exact g
        · exact hno p z⟩
      show u_K1_X11_canPlay_35 Γ post a1 a2 (nI 1) a4 (k + 1) σ (rNeed a2 1) (nI i)
      unfold u_K1_X11_canPlay_35 w_lp_Jx4a65c_size_8abf5
      rw [O.p]
      refine ⟨fun c => absurd c (nI_ge hi (by omega)), fun _ => sx_isIn (by omega) ⟨fun c => nx ?_, fun c => sf_pget O hi rfl ⟨⟨by omega, hi⟩, sx_isIn (by omega) ⟨fun d => nx ?_, fun d => ?_⟩⟩⟩⟩
      · have no : ¬ fS a1 a4 i := fun z => by
          unfold fS at z
          rw [b01_0.mp c] at z
          cases z
        exact ⟨fun _ g => no g.1, fun _ ⟨q, _, _, g⟩ => no g.1⟩
      · have no : ¬ iR σ i 1 := fun z => by
          unfold iR at z
          rw [b01_0.mp d] at z
          cases z
        exact ⟨fun _ g => no g.2.1, fun _ ⟨q, _, _, g⟩ => no g.2.1⟩
      · have hS : fS a1 a4 i := b01_1.mp c
        have hI : iR σ i 1 := b01_1.mp d
        have cg : can (iR σ) Γ.1 (rpl a2 4) (fS a1 (a4 ||| (1 <<< (nI i &&& 31)))) ↔ can (iR σ) Γ.1 (rpl a2 4) (fun r => fS a1 a4 r ∧ r ≠ i) := can_cg _ (fun r hr => by
          rw [show (a4 ||| (1 <<< (nI i &&& 31)) : Int32) = a4 ||| one i from rfl, fS_with (by omega) (by omega)])
        refine ⟨fun r1 => ?_, fun r1 => ?_⟩
        · -- one place: this one takes it, or none with it; the inner loop finds none
          have r2 : ¬ rNeed a2 1 = 2 := fun z => by rw [r1] at z; exact absurd z (by decide)
          have skip : (¬ gd1 σ Γ.1 1 (rpl a2 4) (fS a1 a4) i) → ∃ n, u_K1_X11_canPlay_123 Γ post a1 a2 (nI 1) a4 (fun σ w0 w1 => u_K1_X11_canPlay_35 Γ post a1 a2 (nI 1) a4 k σ w0 w1) n σ (rNeed a2 1) (nI i) (a4 ||| (1 <<< (nI i &&& 31))) (nI i + 1) := fun g => by
            refine ⟨1, ?_⟩
            unfold u_K1_X11_canPlay_123 w_lp_Jx4a65c_size_8abf5
            have n1 := nx ⟨fun _ => g, fun z => absurd z r2⟩
            exact ⟨fun _ => n1, fun _ => ⟨fun z => absurd z r2, fun _ => n1⟩⟩
          exact sx_cp2 O hs (by decide) (fun g => ⟨fun z => absurd z (by decide), fun _ => h1 (by rw [ep, r1, seatsOf_1]; exact can_one.mpr ⟨i, hi, hS, hI, cg.mp g⟩)⟩) (fun g => ⟨fun _ => skip (fun y => g (cg.mpr y.2.2)), fun z => absurd rfl z⟩)
        · have r2 := hr.resolve_left r1
          have inn := sx_cp1_in (post := post) (K35 := fun σ w0 w1 => u_K1_X11_canPlay_35 Γ post a1 a2 (nI 1) a4 k σ w0 w1) (v6 := nI i) O hs (a3 := nI 1) rfl r2 hi hS hI (fun g => h1 (by
            rw [ep, r2, seatsOf_2]
            obtain ⟨q, g1, g2, g3⟩ := g
            exact can_two.mpr ⟨i, q, g1, g2, g3⟩)) (fun g => nx ⟨fun z => absurd z r1, fun _ => g⟩)
          rw [nI_1]
          exact inn) 0 (by omega) 0 ⟨nI_0.symm, fun p hp => absurd hp (Nat.not_lt_zero _)⟩
    exact this
end SEATS3
end
section
/-! SEATS: the reference search, one depth more -/
section SEATS3
variable {Tm : MS} {Γ : RG} {σ : MS} {a1 a2 a3 a4 : Int32}
theorem sx_cp0_in {post : Int32 → MS → Prop} {K35 : MS → Int32 → Int32 → Prop} {v5 v6 : Int32} {p : Nat} (O : rOk Tm Γ σ) (hs : shp a2) (e : a3 = nI 0) (e5 : v5 = 2) (hp : p < Γ.1) (hS : fS a1 a4 p) (hI : iR σ p 0) (h : (∃ q, p < q ∧ q < Γ.1 ∧ gd2 σ Γ.1 0 (rpl a2 5) (fS a1 a4) p q) → post 1 σ) (hK : (¬ ∃ q, p < q ∧ q < Γ.1 ∧ gd2 σ Γ.1 0 (rpl a2 5) (fS a1 a4) p q) → K35 σ v5 (v6 + 1)) : ∃ k, u_K0_X11_canPlay_123 Γ post a1 a2 a3 a4 K35 k σ v5 v6 (a4 ||| one p) (nI (p + 1)) := by
  have hP := O.hP
  subst e
  refine inv_loop (fun k (v : Int32) => u_K0_X11_canPlay_123 Γ post a1 a2 (nI 0) a4 K35 k σ v5 v6 (a4 ||| one p) v) (fun j v => v = nI j ∧ p < j ∧ ∀ q, p < q → q < j → ¬ gd2 σ Γ.1 0 (rpl a2 5) (fS a1 a4) p q) Γ.1 ?_ ?_ (p + 1) hp (nI (p + 1)) ⟨rfl, by omega, fun q h1 h2 => by omega⟩
  · rintro _ ⟨rfl, -, hno⟩
    show u_K0_X11_canPlay_123 Γ post a1 a2 (nI 0) a4 K35 1 σ v5 v6 (a4 ||| one p) (nI Γ.1)
    unfold u_K0_X11_canPlay_123 w_lp_Jx4a65c_size_8abf5
    rw [O.p]
    exact ⟨fun _ => hK (fun ⟨q, h1, h2, h3⟩ => hno q h1 h2 h3), fun c => absurd (le_self _) c⟩
  · rintro j k _ hj ⟨rfl, lt, hno⟩ ih
    have hgo : ¬ gd2 σ Γ.1 0 (rpl a2 5) (fS a1 a4) p j ∨ ¬ p < j → u_K0_X11_canPlay_123 Γ post a1 a2 (nI 0) a4 K35 k σ v5 v6 (a4 ||| one p) (nI j + 1) := fun g => ih _ ⟨nI_1 j, by omega, fun q h1 h2 => by
      rcases Nat.eq_or_lt_of_le (Nat.le_of_lt_succ h2) with z | z
      · subst z
        rcases g with g | g
        · exact g
        · exact absurd h1 g
      · exact hno q h1 z⟩
    show u_K0_X11_canPlay_123 Γ post a1 a2 (nI 0) a4 K35 (k + 1) σ v5 v6 (a4 ||| one p) (nI j)
    unfold u_K0_X11_canPlay_123 w_lp_Jx4a65c_size_8abf5
    rw [O.p]
    have w1 : bt (a1 &&& ((a4 ||| one p) ^^^ (-1))) j = true ↔ fS a1 a4 j ∧ j ≠ p := fS_with (by omega) (by omega)
    refine ⟨fun c => absurd c (nI_ge hj (by omega)), fun _ => ⟨fun _ => sx_isIn (by omega) ⟨fun c => hgo (Or.inl (fun g => ?_)), fun c => sf_pget O hj rfl ⟨⟨by omega, hj⟩, ?_⟩⟩, fun c => absurd e5 c⟩⟩
    · have := w1.mpr g.2.2.1
      rw [b01_0.mp c] at this
      cases this
    · have hSj := w1.mp (b01_1.mp c)
      refine sx_isIn (by omega) ⟨fun d => hgo (Or.inl (fun g => ?_)), fun d => ?_⟩
      · have := g.2.2.2.1
        unfold iR at this
        rw [b01_0.mp d] at this
        cases this
      · have hIj : iR σ j 0 := b01_1.mp d
        have cg : can (iR σ) Γ.1 (rpl a2 5) (fS a1 (a4 ||| one p ||| (1 <<< (nI j &&& 31)))) ↔ can (iR σ) Γ.1 (rpl a2 5) (fun r => (fS a1 a4 r ∧ r ≠ p) ∧ r ≠ j) := can_cg _ (fun r hr => by
          rw [show (a4 ||| one p ||| (1 <<< (nI j &&& 31)) : Int32) = (a4 ||| one p) ||| one j from rfl, fS_with (by omega) (by omega), fS_with (by omega) (by omega)])
        exact sx_cp1 O hs (by decide) (fun g => ⟨fun z => absurd z (by decide), fun _ => h ⟨j, lt, hj, hS, hI, hSj, hIj, cg.mp g⟩⟩) (fun g => ⟨fun _ => hgo (Or.inl (fun y => g (cg.mpr y.2.2.2.2))), fun z => absurd rfl z⟩)
theorem sx_cp0 {post : Int32 → MS → Prop} (O : rOk Tm Γ σ) (hs : shp a2) (e : a3 = nI 0) (h1 : can (iR σ) Γ.1 (rpl a2 6) (fS a1 a4) → post 1 σ) (h0 : ¬ can (iR σ) Γ.1 (rpl a2 6) (fS a1 a4) → post 0 σ) : w_K0_X11_canPlay Γ post σ a1 a2 a3 a4 := by
  have hP := O.hP
  have ep : rpl a2 6 = seatsOf (rNeed a2 0) 0 ++ rpl a2 5 := rpl_s a2 5
  unfold w_K0_X11_canPlay
  subst e
  refine ⟨fun c => absurd c (by decide), fun _ => ?_⟩
  refine law_X11_needed (j := 0) (by decide) ⟨fun r0 => ?_, fun r0 => ?_⟩
  · rw [ep, r0, seatsOf_0, List.nil_append] at h1 h0
    exact sx_cp1 O hs (by decide) (fun g => ⟨rfl, h1 g⟩) (fun g => ⟨rfl, h0 g⟩)
  · have hr : rNeed a2 0 = 1 ∨ rNeed a2 0 = 2 := (hs 0 (by decide)).resolve_left r0
    -- none of the first i can begin
    have := inv_loop (fun k (v : Int32) => u_K0_X11_canPlay_35 Γ post a1 a2 (nI 0) a4 k σ (rNeed a2 0) v) (fun i v => v = nI i ∧ ∀ p, p < i → (rNeed a2 0 = 1 → ¬ gd1 σ Γ.1 0 (rpl a2 5) (fS a1 a4) p) ∧ (rNeed a2 0 = 2 → ¬ ∃ q, p < q ∧ q < Γ.1 ∧ gd2 σ Γ.1 0 (rpl a2 5) (fS a1 a4) p q)) Γ.1 (by
      rintro _ ⟨rfl, hno⟩
      show u_K0_X11_canPlay_35 Γ post a1 a2 (nI 0) a4 1 σ (rNeed a2 0) (nI Γ.1)
      unfold u_K0_X11_canPlay_35 w_lp_Jx4a65c_size_8abf5
      rw [O.p]
      refine ⟨fun _ => h0 (fun g => ?_), fun c => absurd (le_self _) c⟩
      rw [ep] at g
      rcases hr with r | r
      · rw [r, seatsOf_1] at g
        obtain ⟨p, hp, hg⟩ := can_one.mp g
        exact (hno p hp).1 r hg
      · rw [r, seatsOf_2] at g
        obtain ⟨p, q, hpq, hq, hg⟩ := can_two.mp g
        exact (hno p (by omega)).2 r ⟨q, hpq, hq, hg⟩) (by
      rintro i k _ hi ⟨rfl, hno⟩ ih
      have nx : ((rNeed a2 0 = 1 → ¬ gd1 σ Γ.1 0 (rpl a2 5) (fS a1 a4) i) ∧ (rNeed a2 0 = 2 → ¬ ∃ q, i < q ∧ q < Γ.1 ∧ gd2 σ Γ.1 0 (rpl a2 5) (fS a1 a4) i q)) → u_K0_X11_canPlay_35 Γ post a1 a2 (nI 0) a4 k σ (rNeed a2 0) (nI i + 1) := fun g => ih _ ⟨nI_1 i, fun p hp => by
        rcases Nat.eq_or_lt_of_le (Nat.le_of_lt_succ hp) with z | z
        · rw [z]; exact g
        · exact hno p z⟩
      show u_K0_X11_canPlay_35 Γ post a1 a2 (nI 0) a4 (k + 1) σ (rNeed a2 0) (nI i)
      unfold u_K0_X11_canPlay_35 w_lp_Jx4a65c_size_8abf5
      rw [O.p]
      refine ⟨fun c => absurd c (nI_ge hi (by omega)), fun _ => sx_isIn (by omega) ⟨fun c => nx ?_, fun c => sf_pget O hi rfl ⟨⟨by omega, hi⟩, sx_isIn (by omega) ⟨fun d => nx ?_, fun d => ?_⟩⟩⟩⟩
      · have no : ¬ fS a1 a4 i := fun z => by
          unfold fS at z
          rw [b01_0.mp c] at z
          cases z
        exact ⟨fun _ g => no g.1, fun _ ⟨q, _, _, g⟩ => no g.1⟩
      · have no : ¬ iR σ i 0 := fun z => by
          unfold iR at z
          rw [b01_0.mp d] at z
          cases z
        exact ⟨fun _ g => no g.2.1, fun _ ⟨q, _, _, g⟩ => no g.2.1⟩
      · have hS : fS a1 a4 i := b01_1.mp c
        have hI : iR σ i 0 := b01_1.mp d
        have cg : can (iR σ) Γ.1 (rpl a2 5) (fS a1 (a4 ||| (1 <<< (nI i &&& 31)))) ↔ can (iR σ) Γ.1 (rpl a2 5) (fun r => fS a1 a4 r ∧ r ≠ i) := can_cg _ (fun r hr => by
          rw [show (a4 ||| (1 <<< (nI i &&& 31)) : Int32) = a4 ||| one i from rfl, fS_with (by omega) (by omega)])
        refine ⟨fun r1 => ?_, fun r1 => ?_⟩
        · -- one place: this one takes it, or none with it; the inner loop finds none
          have r2 : ¬ rNeed a2 0 = 2 := fun z => by rw [r1] at z; exact absurd z (by decide)
          have skip : (¬ gd1 σ Γ.1 0 (rpl a2 5) (fS a1 a4) i) → ∃ n, u_K0_X11_canPlay_123 Γ post a1 a2 (nI 0) a4 (fun σ w0 w1 => u_K0_X11_canPlay_35 Γ post a1 a2 (nI 0) a4 k σ w0 w1) n σ (rNeed a2 0) (nI i) (a4 ||| (1 <<< (nI i &&& 31))) (nI i + 1) := fun g => by
            refine ⟨1, ?_⟩
            unfold u_K0_X11_canPlay_123 w_lp_Jx4a65c_size_8abf5
            have n1 := nx ⟨fun _ => g, fun z => absurd z r2⟩
            exact ⟨fun _ => n1, fun _ => ⟨fun z => absurd z r2, fun _ => n1⟩⟩
          exact sx_cp1 O hs (by decide) (fun g => ⟨fun z => absurd z (by decide), fun _ => h1 (by rw [ep, r1, seatsOf_1]; exact can_one.mpr ⟨i, hi, hS, hI, cg.mp g⟩)⟩) (fun g => ⟨fun _ => skip (fun y => g (cg.mpr y.2.2)), fun z => absurd rfl z⟩)
        · have r2 := hr.resolve_left r1
          have inn := sx_cp0_in (post := post) (K35 := fun σ w0 w1 => u_K0_X11_canPlay_35 Γ post a1 a2 (nI 0) a4 k σ w0 w1) (v6 := nI i) O hs (a3 := nI 0) rfl r2 hi hS hI (fun g => h1 (by
            rw [ep, r2, seatsOf_2]
            obtain ⟨q, g1, g2, g3⟩ := g
            exact can_two.mpr ⟨i, q, g1, g2, g3⟩)) (fun g => nx ⟨fun z => absurd z r1, fun _ => g⟩)
          rw [nI_1]
          exact inn) 0 (by omega) 0 ⟨nI_0.symm, fun p hp => absurd hp (Nat.not_lt_zero _)⟩
    exact this
end SEATS3
end
section
/-! FILLINGS ON BOTH SIDES: subsets in rising order -/
section NXT
theorem and_h (a c : Nat) : a &&& c = 2 * (a / 2 &&& c / 2) + (if a % 2 = 1 ∧ c % 2 = 1 then 1 else 0) := by
  have h1 : (a &&& c) / 2 = a / 2 &&& c / 2 := Nat.and_div_two
  have h2 : (a &&& c) % 2 = 1 ↔ a % 2 = 1 ∧ c % 2 = 1 := Nat.and_mod_two_eq_one
  by_cases h : a % 2 = 1 ∧ c % 2 = 1
  · have := h2.mpr h
    rw [if_pos h]
    omega
  · have : ¬ (a &&& c) % 2 = 1 := fun q => h (h2.mp q)
    rw [if_neg h]
    omega
theorem nxt_h {v f : Nat} (h : v &&& f = v) : (v / 2 &&& f / 2) = v / 2 ∧ (v % 2 = 1 → f % 2 = 1) := by
  rw [and_h] at h
  by_cases q : v % 2 = 1 ∧ f % 2 = 1
  · rw [if_pos q] at h
    exact ⟨by omega, fun _ => q.2⟩
  · rw [if_neg q] at h
    exact ⟨by omega, fun z => by omega⟩
theorem nxt_c : ∀ n f v, f < 2 ^ n → v &&& f = v → (v + (2 ^ n - 1 - f)) &&& f = v := by
  intro n
  induction n with
  | zero =>
    intro f v hf h
    have e : f = 0 := by omega
    subst e
    rw [Nat.and_zero] at h ⊢
    exact h
  | succ n ih =>
    intro f v hf h
    have hN : 2 ^ (n + 1) = 2 * 2 ^ n := by rw [Nat.pow_succ]; omega
    have hp : 1 ≤ 2 ^ n := Nat.one_le_two_pow
    obtain ⟨h1, h2⟩ := nxt_h h
    have i := ih (f / 2) (v / 2) (by omega) h1
    rw [hN] at hf ⊢
    generalize 2 ^ n = N at hf hp i ⊢
    by_cases q : v % 2 = 1
    · have q2 := h2 q
      rw [and_h, show (v + (2 * N - 1 - f)) / 2 = v / 2 + (N - 1 - f / 2) by omega, i, if_pos ⟨by omega, q2⟩]
      omega
    · by_cases q2 : f % 2 = 1
      · rw [and_h, show (v + (2 * N - 1 - f)) / 2 = v / 2 + (N - 1 - f / 2) by omega, i, if_neg (fun z => by omega)]
        omega
      · rw [and_h, show (v + (2 * N - 1 - f)) / 2 = v / 2 + (N - 1 - f / 2) by omega, i, if_neg (fun z => q2 z.2)]
        omega
/-- the next subset of f behind v -/
theorem nxt : ∀ n f v, f < 2 ^ n → v &&& f = v → v ≠ f → v < ((v + (2 ^ n - f)) &&& f) ∧ (((v + (2 ^ n - f)) &&& f) &&& f = ((v + (2 ^ n - f)) &&& f)) ∧ ∀ u, v < u → u < ((v + (2 ^ n - f)) &&& f) → ¬ (u &&& f = u) := by
  intro n
  induction n with
  | zero =>
    intro f v hf h hne
    have e : f = 0 := by omega
    subst e
    rw [Nat.and_zero] at h
    exact absurd h.symm hne
  | succ n ih =>
    intro f v hf h hne
    have hN : 2 ^ (n + 1) = 2 * 2 ^ n := by rw [Nat.pow_succ]; omega
    have hp : 1 ≤ 2 ^ n := Nat.one_le_two_pow
    obtain ⟨h1, h2⟩ := nxt_h h
    have i := ih (f / 2) (v / 2) (by omega) h1
    have hc := nxt_c n (f / 2) (v / 2) (by omega) h1
    rw [hN] at hf ⊢
    generalize 2 ^ n = N at hf hp i hc ⊢
    by_cases c : f % 2 = 1 ∧ v % 2 = 0
    · have hs : (v + (2 * N - f)) &&& f = v + 1 := by
        rw [and_h, show (v + (2 * N - f)) / 2 = v / 2 + (N - 1 - f / 2) by omega, hc, if_pos ⟨by omega, c.1⟩]
        omega
      rw [hs]
      refine ⟨by omega, ?_, fun u g1 g2 => by omega⟩
      rw [and_h, show (v + 1) / 2 = v / 2 by omega, h1, if_pos ⟨by omega, c.1⟩]
      omega
    · have hpar : v % 2 = f % 2 := by
        by_cases q : v % 2 = 1
        · rw [q, h2 q]
        · have : ¬ f % 2 = 1 := fun z => c ⟨z, by omega⟩
          omega
      have e2 : ¬ (v + (2 * N - f)) % 2 = 1 := by omega
      have hs : (v + (2 * N - f)) &&& f = 2 * ((v / 2 + (N - f / 2)) &&& (f / 2)) := by
        rw [and_h, show (v + (2 * N - f)) / 2 = v / 2 + (N - f / 2) by omega, if_neg (fun q => e2 q.1), Nat.add_zero]
      obtain ⟨i1, i2, i3⟩ := i (fun q => hne (by omega))
      rw [hs]
      generalize (v / 2 + (N - f / 2)) &&& (f / 2) = t at i1 i2 i3 ⊢
      refine ⟨by omega, ?_, fun u g1 g2 g3 => ?_⟩
      · rw [and_h, show 2 * t / 2 = t by omega, i2, if_neg (fun q => by omega), Nat.add_zero]
      · obtain ⟨u1, u2⟩ := nxt_h g3
        by_cases q : u % 2 = 1
        · have := u2 q
          exact i3 (u / 2) (by omega) (by omega) u1
        · exact i3 (u / 2) (by omega) (by omega) u1
theorem sub_loopX {S : Type} (U : Nat → S → Int32 → Prop) (I : Nat → S → Prop) {F : Nat} (hF : F < 1024)
    (hz : ∀ k s, I 1024 s → U (k + 1) s (nI 0))
    (hs : ∀ k s V, V < 1024 → 1 ≤ V → V &&& F = V → I V s → (∀ s', I (V + 1) s' → U k s' ((nI V - nI F) &&& nI F)) → U (k + 1) s (nI V))
    (hk : ∀ V s, 1 ≤ V → V < 1024 → ¬ (V &&& F = V) → I V s → I (V + 1) s) (s : S) (h : I 1 s) : ∃ k, U k s (nI F &&& (-(nI F))) := by
  have skip : ∀ d V s, 1 ≤ V → V + d ≤ 1024 → (∀ u, V ≤ u → u < V + d → ¬ (u &&& F = u)) → I V s → I (V + d) s := by
    intro d
    induction d with
    | zero => intro V s _ _ _ h; exact h
    | succ d ih =>
      intro V s v1 v2 g h
      exact hk (V + d) s (by omega) (by omega) (g (V + d) (by omega) (by omega)) (ih V s v1 (by omega) (fun u h1 h2 => g u h1 (by omega)) h)
  have key : ∀ d V, V &&& F = V → V < 1024 → 1024 - V ≤ d → ∀ s, I (V + 1) s → U (d + 1) s (nI ((V + (1024 - F)) &&& F)) := by
    intro d
    induction d with
    | zero => intro V _ h1 h2; omega
    | succ d ih =>
      intro V hV h1 h2 s hI
      by_cases c : V = F
      · have e : (V + (1024 - F)) &&& F = 0 := by
          rw [c, show F + (1024 - F) = 1024 by omega, and_m10 1024 hF]
          exact Nat.zero_and F
        rw [e]
        refine hz _ s ?_
        have := skip (1024 - (V + 1)) (V + 1) s (by omega) (by omega) (fun u g1 g2 g3 => by
          have : u &&& F ≤ F := Nat.and_le_right
          omega) hI
        rw [show V + 1 + (1024 - (V + 1)) = 1024 by omega] at this
        exact this
      · have n := nxt 10 F V hF hV c
        have n4 : (V + (2 ^ 10 - F)) &&& F ≤ F := Nat.and_le_right
        rw [show (2 : Nat) ^ 10 = 1024 from rfl] at n n4
        obtain ⟨n1, n2, n3⟩ := n
        generalize (V + (1024 - F)) &&& F = V' at n1 n2 n3 n4 ⊢
        refine hs (d + 1) s V' (by omega) (by omega) n2 ?_ (fun s' h' => ?_)
        · have := skip (V' - (V + 1)) (V + 1) s (by omega) (by omega) (fun u g1 g2 => n3 u (by omega) (by omega)) hI
          rw [show V + 1 + (V' - (V + 1)) = V' by omega] at this
          exact this
        · rw [sub_step (by omega) hF]
          exact ih V' n2 (by omega) (by omega) s' h'
  refine ⟨1024 + 1, ?_⟩
  have e : nI F &&& (-(nI F)) = nI ((0 + (1024 - F)) &&& F) := by
    have := sub_step (V := 0) (F := F) (by decide) hF
    rw [show (nI 0 - nI F : Int32) = -(nI F) by rw [nI_0]; grind] at this
    rw [← this]
    exact Int32.and_comm _ _
  rw [e]
  exact key 1024 0 (Nat.zero_and F) (by decide) (by decide) s h
end NXT
end
section
/-! FILLINGS ON BOTH SIDES: what is a filling, which is better, the best of the first sets -/
/-- bands are of one shape on both sides -/
def Sh (x : MS) (Γ : RG) : Prop := ∀ b, b < Γ.2.1 → ∃ m sz, 1 ≤ m ∧ m ≤ 728 ∧ Γ.2.2.2.2.2 b = nI m ∧ sz ≤ 5 ∧ rNeeds (nI m) 6 = nI sz ∧ x (55 + b) 2 = nI sz ∧ plcs x b sz = rpl (nI m) 6 ∧ ∀ k, k < 6 → x (61 + b) k = rNeed (nI m) k
/-- the songs of a wedding are songs -/
def Gs (x : MS) : Prop := ∀ w, w < 14 → ∀ i, 16 ≤ i → bt (x (73 + w) 5) i = false
def inst (x : MS) (p i : Nat) : Prop := bt (x (29 + p) 0) i = true
def stB (x : MS) (w P s : Nat) : Bool := decide (¬ svIn x w P 8 s = 0 ∧ bcI (nI s) = x (55 + bdOf x w) 2)
def knB (x : MS) (w P s : Nat) : Bool := decide (x (73 + w) 5 &&& (playF x (nI s) P ^^^ (-1)) = 0)
def filB (x : MS) (w P s : Nat) : Bool := stB x w P s && (knB x w P s && !feudB x (nI s) P)
def subB (free : Int32) (s : Nat) : Bool := decide (nI s &&& (free ^^^ (-1)) = 0)
def btr (x : MS) (w P : Nat) (had s b : Int32) : Bool := decide (0 < bcI (s &&& had) - bcI (b &&& had) ∨ (bcI (s &&& had) - bcI (b &&& had) = 0 ∧ ¬ costsF x b w P ≤ costsF x s w P))
/-- the best of the first n sets; how many fillings; who is in all; is one seated, playable -/
def bR (x : MS) (w P : Nat) (free had : Int32) : Nat → Int32
  | 0 => -1
  | n + 1 => if subB free (n + 1) = true ∧ filB x w P (n + 1) = true ∧ (bR x w P free had n = -1 ∨ btr x w P had (nI (n + 1)) (bR x w P free had n) = true) then nI (n + 1) else bR x w P free had n
def cR (x : MS) (w P : Nat) (free : Int32) : Nat → Nat
  | 0 => 0
  | n + 1 => cR x w P free n + (if subB free (n + 1) = true ∧ filB x w P (n + 1) = true then 1 else 0)
def alR (x : MS) (w P : Nat) (free : Int32) : Nat → Int32
  | 0 => -1
  | n + 1 => if subB free (n + 1) = true ∧ filB x w P (n + 1) = true then alR x w P free n &&& nI (n + 1) else alR x w P free n
def anS (x : MS) (w P : Nat) (free : Int32) : Nat → Bool
  | 0 => false
  | n + 1 => anS x w P free n || (subB free (n + 1) && stB x w P (n + 1))
def anK (x : MS) (w P : Nat) (free : Int32) : Nat → Bool
  | 0 => false
  | n + 1 => anK x w P free n || (subB free (n + 1) && (stB x w P (n + 1) && knB x w P (n + 1)))
section FILL
variable {x y : MS} {Γ : RG} {σ τ : MS} {a a0 a1 a2 a3 a4 b free had : Int32} {w P : Nat}
theorem can_ci {f g : Nat → Nat → Prop} {n : Nat} : ∀ (L : List Nat) {S : Nat → Prop}, (∀ p i, p < n → (f p i ↔ g p i)) → (can f n L S ↔ can g n L S)
  | [], _, _ => Iff.rfl
  | i :: L, S, h => by
    unfold can
    constructor
    · rintro ⟨p, hp, h1, h2, h3⟩
      exact ⟨p, hp, h1, (h p i hp).mp h2, (can_ci L h).mp h3⟩
    · rintro ⟨p, hp, h1, h2, h3⟩
      exact ⟨p, hp, h1, (h p i hp).mpr h2, (can_ci L h).mpr h3⟩
theorem fS_0 {q : Nat} (hq : q < 32) : fS a 0 q ↔ bt a q = true := by
  unfold fS
  rw [b_and, b_cmp hq, b_0, Bool.not_false, Bool.and_true]
theorem rD3_m {m : Nat} (hm : m ≤ 728) : ∀ i, rD3 (nI m) i = nI (m / 3 ^ i)
  | 0 => by rw [Nat.pow_zero, Nat.div_one]; rfl
  | i + 1 => by
    show rD3 (nI m) i / 3 = _
    rw [rD3_m hm i, (dv3 _ (Nat.le_trans (Nat.div_le_self _ _) hm)).1, Nat.pow_succ, Nat.div_div_eq_div_mul]
theorem rNeed_m {m : Nat} (hm : m ≤ 728) (i : Nat) : rNeed (nI m) i = nI (m / 3 ^ i % 3) := by
  unfold rNeed
  rw [rD3_m hm, (dv3 _ (Nat.le_trans (Nat.div_le_self _ _) hm)).2]
theorem shp_m {m : Nat} (hm : m ≤ 728) : shp (nI m) := fun i _ => by
  rw [rNeed_m hm]
  have : m / 3 ^ i % 3 = 0 ∨ m / 3 ^ i % 3 = 1 ∨ m / 3 ^ i % 3 = 2 := by omega
  rcases this with h | h | h
  · rw [h]; exact Or.inl rfl
  · rw [h]; exact Or.inr (Or.inl rfl)
  · rw [h]; exact Or.inr (Or.inr rfl)
theorem stB_can {sz s : Nat} (hP : P ≤ 10) (hz : sz ≤ 5) (hs : x (55 + bdOf x w) 2 = nI sz) (h : s < 2 ^ P) : stB x w P s = true ↔ bcI (nI s) = nI sz ∧ can (inst x) P (plcs x (bdOf x w) sz) (fun q => bt (nI s) q = true) := by
  unfold stB
  rw [decide_eq_true_iff, hs]
  have key := sat_can (σ := clearF x) (b := bdOf x w) hP hz (by rw [(Scr.clear x).c55]; exact hs) (2 ^ P - 1) (Nat.le_refl _) s (by omega) sz (by omega)
  have e1 : plcs (clearF x) (bdOf x w) sz = plcs x (bdOf x w) sz := by
    unfold plcs
    rw [show pl (clearF x) (bdOf x w) = pl x (bdOf x w) from funext fun j => by unfold pl; rw [(Scr.clear x).c67]]
  have e2 : (fun p i => bt (clearF x (29 + p) 0) i = true) = inst x := funext fun p => funext fun i => by unfold inst; rw [(Scr.clear x).c29]
  rw [e1, e2] at key
  unfold svIn
  constructor
  · rintro ⟨h1, h2⟩
    exact ⟨h2, ((key h2).mp h1).2⟩
  · rintro ⟨h1, h2⟩
    exact ⟨(key h1).mpr ⟨Nat.le_refl _, h2⟩, h1⟩
theorem Sh.get (S : Sh x Γ) (O : rOk (tR x) Γ σ) (hw : w < Γ.2.2.1) : ∃ b m sz, b < Γ.2.1 ∧ x (73 + w) 0 = nI b ∧ bdOf x w = b ∧ m ≤ 728 ∧ Γ.2.2.2.2.2 b = nI m ∧ sz ≤ 5 ∧ rNeeds (nI m) 6 = nI sz ∧ x (55 + b) 2 = nI sz ∧ plcs x b sz = rpl (nI m) 6 := by
  obtain ⟨b, hb, eb⟩ := O.xband hw
  obtain ⟨m, sz, m1, m2, e1, z1, e2, e3, e4, e5⟩ := S b hb
  have hB := O.hB
  exact ⟨b, m, sz, hb, eb, by unfold bdOf; rw [eb, nI_clamp (by omega)], m2, e1, z1, e2, e3, e4⟩
theorem cp_one {m sz b : Nat} {v : Int32} (O : rOk (tR x) Γ σ) (e4 : plcs x b sz = rpl (nI m) 6) : can (iR σ) Γ.1 (rpl (nI m) 6) (fS v 0) ↔ can (inst x) Γ.1 (plcs x b sz) (fun q => bt v q = true) := by
  have hP := O.hP
  rw [e4]
  refine (can_ci _ (fun p i hp => ?_)).trans (can_cg _ (fun q hq => fS_0 (by omega)))
  unfold iR inst
  rw [O.pl (j := 0) hp (by decide)]
theorem sy_canPlay {post : Int32 → MS → Prop} {b m sz s : Nat} (O : rOk (tR x) Γ σ) (hs : s < 2 ^ Γ.1) (m2 : m ≤ 728) (z1 : sz ≤ 5) (hbd : bdOf x w = b) (e3 : x (55 + b) 2 = nI sz) (e4 : plcs x b sz = rpl (nI m) 6) (hc : bcI (nI s) = nI sz) (h : post (b01 (stB x w Γ.1 s)) σ) : w_K0_X11_canPlay Γ post σ (nI s) (nI m) 0 0 := by
  have hst := stB_can (x := x) (w := w) (s := s) O.hP z1 (by rw [hbd]; exact e3) hs
  rw [hbd] at hst
  have hcp := cp_one (v := nI s) O e4
  refine sx_cp0 O (shp_m m2) rfl (fun g => ?_) (fun g => ?_)
  · rw [hst.mpr ⟨hc, hcp.mp g⟩] at h
    exact h
  · rw [Bool.eq_false_iff.mpr (fun z => g (hcp.mpr (hst.mp z).2))] at h
    exact h
theorem sy_isFilling {post : Int32 → MS → Prop} {s : Nat} (O : rOk (tR x) Γ σ) (S : Sh x Γ) (G : Gs x) (hw : w < Γ.2.2.1) (hs : s < 2 ^ Γ.1) (h : post (b01 (filB x w Γ.1 s)) σ) : w_X11_isFilling Γ post σ (nI s) w := by
  have hW := O.hW
  obtain ⟨b, m, sz, hb, eb, hbd, m2, e1, z1, e2, e3, e4⟩ := S.get O hw
  have hst := stB_can (x := x) (w := w) (s := s) O.hP z1 (by rw [hbd]; exact e3) hs
  have no : filB x w Γ.1 s = false → post 0 σ := fun e => by rw [e] at h; exact h
  unfold w_X11_isFilling
  refine sf_lbget O hb ((O.wd (j := 0) hw (by decide)).trans eb) ⟨hb, ?_⟩
  unfold w_in_J6_intValue_8abf5
  rw [e1]
  refine sx_bc (law_X11_needed_ ?_)
  rw [e2]
  refine ⟨fun c => sy_isPeaceful O ⟨fun c2 => no ?_, fun c2 => ?_⟩, fun c => no ?_⟩
  · unfold filB
    rw [b01_0.mp c2, Bool.and_false, Bool.and_false]
  · rw [O.wd (j := 5) hw (by decide)]
    refine sy_areKnown O (G w (by omega)) ⟨fun c3 => no ?_, fun c3 => sy_canPlay O hs m2 z1 hbd e3 e4 c ⟨fun c4 => no ?_, fun c4 => ?_⟩⟩
    · unfold filB
      rw [show knB x w Γ.1 s = false from b01_0.mp c3, Bool.false_and, Bool.and_false]
    · unfold filB
      rw [b01_0.mp c4, Bool.false_and]
    · unfold filB at h
      rw [b01_1.mp c2, show knB x w Γ.1 s = true from b01_1.mp c3, b01_1.mp c4] at h
      exact h
  · unfold filB
    rw [Bool.eq_false_iff.mpr (fun z => c (hst.mp z).1), Bool.false_and]
theorem sy_isBetter {post : Int32 → MS → Prop} (O : rOk (tR x) Γ σ) (Y : Sy x) (hw : w < Γ.2.2.1) (h : post (b01 (btr x w Γ.1 a3 a1 a2)) σ) : w_X11_isBetter Γ post σ a1 a2 a3 w := by
  unfold w_X11_isBetter
  unfold btr at h
  refine sx_bc (sx_bc ⟨fun c => ?_, fun c => ⟨fun d => sy_costOf O Y hw (sy_costOf O Y hw ⟨fun e => ?_, fun e => ?_⟩), fun d => ?_⟩⟩)
  · rw [decide_eq_true (Or.inl c)] at h; exact h
  · rw [decide_eq_false (fun q => q.elim c (fun q => q.2 e))] at h; exact h
  · rw [decide_eq_true (Or.inr ⟨d, e⟩)] at h; exact h
  · rw [decide_eq_false (fun q => q.elim c (fun q => d q.1))] at h; exact h
theorem nI_nm1 {n : Nat} (h : n < 2 ^ 31) : ¬ nI n = -1 := fun e => nI_pos h (by rw [e]; decide)
theorem bR_rg : ∀ n, n < 1024 → bR x w P free had n = -1 ∨ ∃ s, 1 ≤ s ∧ s ≤ n ∧ bR x w P free had n = nI s ∧ subB free s = true ∧ filB x w P s = true
  | 0, _ => Or.inl rfl
  | n + 1, hn => by
    have ih := bR_rg n (by omega)
    unfold bR
    by_cases c : subB free (n + 1) = true ∧ filB x w P (n + 1) = true ∧ (bR x w P free had n = -1 ∨ btr x w P had (nI (n + 1)) (bR x w P free had n) = true)
    · rw [if_pos c]
      exact Or.inr ⟨n + 1, by omega, Nat.le_refl _, rfl, c.1, c.2.1⟩
    · rw [if_neg c]
      rcases ih with ih | ⟨s, h1, h2, h3⟩
      · exact Or.inl ih
      · exact Or.inr ⟨s, h1, by omega, h3⟩
theorem bR_none : ∀ n, n < 1024 → (bR x w P free had n = -1 ↔ ∀ s, 1 ≤ s → s ≤ n → ¬ (subB free s = true ∧ filB x w P s = true))
  | 0, _ => ⟨fun _ s h1 h2 => by omega, fun _ => rfl⟩
  | n + 1, hn => by
    have ih := bR_none n (by omega)
    unfold bR
    by_cases c : subB free (n + 1) = true ∧ filB x w P (n + 1) = true
    · by_cases d : bR x w P free had n = -1 ∨ btr x w P had (nI (n + 1)) (bR x w P free had n) = true
      · rw [if_pos ⟨c.1, c.2, d⟩]
        exact ⟨fun e => absurd e (nI_nm1 (by omega)), fun g => absurd c (g (n + 1) (by omega) (Nat.le_refl _))⟩
      · rw [if_neg (fun z => d z.2.2)]
        exact ⟨fun e => absurd (Or.inl e) d, fun g => absurd c (g (n + 1) (by omega) (Nat.le_refl _))⟩
    · rw [if_neg (fun z => c ⟨z.1, z.2.1⟩), ih]
      constructor
      · intro g s h1 h2
        rcases Nat.eq_or_lt_of_le h2 with z | z
        · rw [z]; exact c
        · exact g s h1 (by omega)
      · intro g s h1 h2
        exact g s h1 (by omega)
theorem bR_skip {n : Nat} : ∀ d, (∀ s, n < s → s ≤ n + d → ¬ subB free s = true) → bR x w P free had (n + d) = bR x w P free had n
  | 0, _ => rfl
  | d + 1, h => by
    have ih := bR_skip (n := n) d (fun s h1 h2 => h s h1 (by omega))
    rw [← ih]
    show (if _ then _ else _) = _
    exact if_neg (fun z => h (n + d + 1) (by omega) (by omega) z.1)
theorem cR_skip {n : Nat} : ∀ d, (∀ s, n < s → s ≤ n + d → ¬ subB free s = true) → cR x w P free (n + d) = cR x w P free n
  | 0, _ => rfl
  | d + 1, h => by
    have ih := cR_skip (n := n) d (fun s h1 h2 => h s h1 (by omega))
    rw [← ih]
    show _ + (if _ then 1 else 0) = _
    rw [if_neg (fun z => h (n + d + 1) (by omega) (by omega) z.1)]
    rfl
theorem anS_skip {n : Nat} : ∀ d, (∀ s, n < s → s ≤ n + d → ¬ subB free s = true) → anS x w P free (n + d) = anS x w P free n
  | 0, _ => rfl
  | d + 1, h => by
    have ih := anS_skip (n := n) d (fun s h1 h2 => h s h1 (by omega))
    rw [← ih]
    show (_ || (subB free (n + d + 1) && _)) = _
    rw [Bool.eq_false_iff.mpr (h (n + d + 1) (by omega) (by omega)), Bool.false_and, Bool.or_false]
    rfl
theorem anK_skip {n : Nat} : ∀ d, (∀ s, n < s → s ≤ n + d → ¬ subB free s = true) → anK x w P free (n + d) = anK x w P free n
  | 0, _ => rfl
  | d + 1, h => by
    have ih := anK_skip (n := n) d (fun s h1 h2 => h s h1 (by omega))
    rw [← ih]
    show (_ || (subB free (n + d + 1) && _)) = _
    rw [Bool.eq_false_iff.mpr (h (n + d + 1) (by omega) (by omega)), Bool.false_and, Bool.or_false]
    rfl
theorem tb_big {n i : Nat} (h : n < 1024) (hi : 10 ≤ i) : n.testBit i = false := Nat.testBit_lt_two_pow (Nat.lt_of_lt_of_le h (Nat.pow_le_pow_right (n := 2) (by decide) hi))
theorem sub_iff {F s : Nat} (hF : F < 1024) (hs : s < 1024) : subB (nI F) s = true ↔ s &&& F = s := by
  unfold subB
  rw [decide_eq_true_iff]
  constructor
  · intro h
    refine Nat.eq_of_testBit_eq fun i => ?_
    rw [Nat.testBit_and]
    rcases Nat.lt_or_ge i 10 with c | c
    · have := congrArg (fun y => bt y i) h
      simp only [b_and, b_cmp (show i < 32 by omega), b_0, bt_nI, decide_eq_true (show i < 32 by omega), Bool.true_and] at this
      cases q : s.testBit i with
      | false => rfl
      | true =>
        rw [q] at this
        simpa using this
    · rw [tb_big hs c]; rfl
  · intro h
    refine b_ext fun i hi => ?_
    rw [b_and, b_cmp hi, b_0, bt_nI, bt_nI, decide_eq_true hi, Bool.true_and, Bool.true_and]
    have := congrArg (fun y => y.testBit i) h
    simp only [Nat.testBit_and] at this
    cases q : s.testBit i with
    | false => rfl
    | true =>
      rw [q, Bool.true_and] at this
      rw [this]
      rfl
theorem sub_le {F s : Nat} (hF : F < 1024) (hs : s < 1024) (h : subB (nI F) s = true) : s ≤ F := by
  have h1 := (sub_iff hF hs).mp h
  have : s &&& F ≤ F := Nat.and_le_right
  omega
theorem freeF_lt {W : Nat} : ∀ n, n ≤ 10 → ∃ m, m < 2 ^ n ∧ freeF y w W n = nI m
  | 0, _ => ⟨0, by decide, nI_0.symm⟩
  | n + 1, hn => by
    obtain ⟨m, hm, e⟩ := freeF_lt (W := W) n (by omega)
    have h1 : freeF y w W (n + 1) = nI m ||| (if freeB y n w W = true then one n else 0) := by rw [← e]; rfl
    rw [h1]
    by_cases c : freeB y n w W = true
    · rw [if_pos c]
      unfold one
      rw [shl1 n (by omega), nx_or]
      exact ⟨_, Nat.or_lt_two_pow (by rw [Nat.pow_succ]; omega) (by rw [Nat.pow_succ]; have := Nat.one_le_two_pow (n := n); omega), rfl⟩
    · rw [if_neg c, Int32.or_zero]
      exact ⟨m, by rw [Nat.pow_succ]; omega, rfl⟩
/-- who is free, of the wedding w as things are -/
abbrev frR (x : MS) (Γ : RG) (w : Nat) : Int32 := freeF (stg x Γ.2.2.1) w Γ.2.2.1 Γ.1
theorem sy_best {post : Int32 → MS → Prop} (O : rOk (tR x) Γ σ) (Y : Sy x) (S : Sh x Γ) (G : Gs x) (hw : w < Γ.2.2.1) (e : a1 = nI w) (h : post (bR x w Γ.1 (frR x Γ w &&& (a2 ^^^ (-1))) a3 (2 ^ Γ.1 - 1)) σ) : w_X11_best Γ post σ a1 a2 a3 := by
  have hW := O.hW
  have hP := O.hP
  unfold w_X11_best
  refine sf_wget O hw e ⟨⟨by omega, hw⟩, sy_freeFor O Y hw e ?_⟩
  unfold frR at h
  obtain ⟨m, hm, em⟩ := freeF_lt (y := stg x Γ.2.2.1) (w := w) (W := Γ.2.2.1) Γ.1 hP
  obtain ⟨p1, p2⟩ := pw1024 hP
  obtain ⟨F, hF, eF⟩ := and_small (show m < 1024 by omega) (by decide) (a2 ^^^ (-1))
  rw [em, eF] at h ⊢
  refine sub_loopX (fun k (v : Int32) q => u_X11_best_38 Γ post a1 a2 a3 k σ w (nI F) v q) (fun V v => v = bR x w Γ.1 (nI F) a3 (V - 1)) (F := F) (by omega) (fun k v hv => ?_) (fun k v V h1 h2 h3 hv ih => ?_) (fun V v v1 v2 hn hv => ?_) (-1) rfl
  · unfold u_X11_best_38
    refine ⟨fun _ => ?_, fun c => absurd (le_self (nI 0)) c⟩
    have sk := bR_skip (x := x) (w := w) (P := Γ.1) (had := a3) (free := nI F) (n := 2 ^ Γ.1 - 1) (1023 - (2 ^ Γ.1 - 1)) (fun s g1 g2 g3 => by have := sub_le (by omega) (by omega) g3; omega)
    rw [show 2 ^ Γ.1 - 1 + (1023 - (2 ^ Γ.1 - 1)) = 1024 - 1 by omega] at sk
    rw [hv, sk]
    exact h
  · have hVF : V ≤ F := by
      have : V &&& F ≤ F := Nat.and_le_right
      omega
    have hsub : subB (nI F) V = true := (sub_iff (by omega) h1).mpr h3
    obtain ⟨n, rfl⟩ : ∃ n, V = n + 1 := ⟨V - 1, by omega⟩
    have hv : v = bR x w Γ.1 (nI F) a3 n := hv
    have st : ∀ v', v' = bR x w Γ.1 (nI F) a3 (n + 1) → u_X11_best_38 Γ post a1 a2 a3 k σ w (nI F) v' ((nI (n + 1) - nI F) &&& nI F) := fun v' e => ih v' e
    unfold bR at st
    unfold u_X11_best_38
    refine ⟨fun c => absurd (show nI (n + 1) ≤ nI 0 from c) (nI_ge (by omega) (by omega)), fun _ => sy_isFilling O S G hw (by omega) ⟨fun c => st v ?_, fun c => ⟨fun d => st _ ?_, fun d => ?_⟩⟩⟩
    · rw [if_neg (fun z => by rw [b01_0.mp c] at z; exact Bool.false_ne_true z.2.1)]
      exact hv
    · rw [if_pos ⟨hsub, b01_1.mp c, Or.inl (hv ▸ d)⟩]
    · rw [hv] at d ⊢
      refine sy_isBetter O Y hw ⟨fun f => st _ ?_, fun f => st _ ?_⟩
      · rw [if_neg (fun z => z.2.2.elim d (fun z => by rw [b01_0.mp f] at z; exact Bool.false_ne_true z))]
      · rw [if_pos ⟨hsub, b01_1.mp c, Or.inr (b01_1.mp f)⟩]
  · obtain ⟨n, rfl⟩ : ∃ n, V = n + 1 := ⟨V - 1, by omega⟩
    show v = bR x w Γ.1 (nI F) a3 (n + 1)
    have hv : v = bR x w Γ.1 (nI F) a3 n := hv
    unfold bR
    rw [if_neg (fun z => hn ((sub_iff (by omega) v2).mp z.1))]
    exact hv
theorem sy_fillings {post : Int32 → MS → Prop} (O : rOk (tR x) Γ σ) (Y : Sy x) (S : Sh x Γ) (G : Gs x) (hw : w < Γ.2.2.1) (e : a1 = nI w) (h : post (nI (cR x w Γ.1 (frR x Γ w) (2 ^ Γ.1 - 1))) σ) : w_X11_fillings Γ post σ a1 := by
  have hW := O.hW
  have hP := O.hP
  unfold w_X11_fillings
  refine sf_wget O hw e ⟨⟨by omega, hw⟩, sy_freeFor O Y hw e ?_⟩
  unfold frR at h
  obtain ⟨m, hm, em⟩ := freeF_lt (y := stg x Γ.2.2.1) (w := w) (W := Γ.2.2.1) Γ.1 hP
  obtain ⟨p1, p2⟩ := pw1024 hP
  rw [em] at h ⊢
  have sk := cR_skip (x := x) (w := w) (P := Γ.1) (free := nI m) (n := m) (2 ^ Γ.1 - 1 - m) (fun s g1 g2 g3 => by have := sub_le (by omega) (by omega) g3; omega)
  rw [show m + (2 ^ Γ.1 - 1 - m) = 2 ^ Γ.1 - 1 by omega] at sk
  rw [sk] at h
  refine up_loop (fun k (q : Int32 × Int32) => u_X11_fillings_24 Γ post a1 k σ w (nI m) q.1 q.2) (fun i => (nI (cR x w Γ.1 (nI m) i), nI (i + 1))) m ?_ (fun i k hi hk => ?_)
  · show u_X11_fillings_24 Γ post a1 1 σ w (nI m) (nI (cR x w Γ.1 (nI m) m)) (nI (m + 1))
    unfold u_X11_fillings_24
    exact ⟨fun _ => h, fun c => absurd (nI_lt (Nat.lt_succ_self m) (by omega)) c⟩
  · have hk : ∀ v, v = nI (cR x w Γ.1 (nI m) i + (if subB (nI m) (i + 1) = true ∧ filB x w Γ.1 (i + 1) = true then 1 else 0)) → u_X11_fillings_24 Γ post a1 k σ w (nI m) v (nI (i + 1 + 1)) := fun v e => by rw [e]; exact hk
    show u_X11_fillings_24 Γ post a1 (k + 1) σ w (nI m) (nI (cR x w Γ.1 (nI m) i)) (nI (i + 1))
    unfold u_X11_fillings_24
    rw [nI_1]
    have no : ¬ (subB (nI m) (i + 1) = true ∧ filB x w Γ.1 (i + 1) = true) → u_X11_fillings_24 Γ post a1 k σ w (nI m) (nI (cR x w Γ.1 (nI m) i) + 0) (nI (i + 1 + 1)) := fun z => hk _ (by
      rw [if_neg z]
      show nI _ + nI 0 = _
      rw [nI_add])
    refine ⟨fun c => absurd c (nI_nlt (show i + 1 ≤ m by omega) (by omega)), fun _ => ⟨fun c => sy_isFilling O S G hw (by omega) ⟨fun d => no (fun z => ?_), fun d => hk _ ?_⟩, fun c => no (fun z => c (of_decide_eq_true z.1))⟩⟩
    · rw [b01_0.mp d] at z
      exact Bool.false_ne_true z.2
    · rw [if_pos ⟨decide_eq_true c, b01_1.mp d⟩]
      show nI _ + nI 1 = _
      rw [nI_add]
theorem bc_ct : ∀ n, n < 1024 → bcI (nI n) = nI (fb_ct (fun i => n.testBit i) 10) := by decide +kernel
theorem bc_mono {s F : Nat} (hF : F < 1024) (hs : s < 1024) (h : subB (nI F) s = true) : bcI (nI s) ≤ bcI (nI F) := by
  rw [bc_ct s hs, bc_ct F hF]
  have h1 := (sub_iff hF hs).mp h
  have h2 : fb_ct (fun i => s.testBit i) 10 ≤ fb_ct (fun i => F.testBit i) 10 := fb_ct_sub (fun i _ hi => by
    have := congrArg (fun y => y.testBit i) h1
    simp only [Nat.testBit_and] at this
    have hi : s.testBit i = true := hi
    rw [hi, Bool.true_and] at this
    exact this)
  have := fb_ct_le (fun i => F.testBit i) 10
  exact nI_le0 h2 (by omega)
/-- why there is none -/
def whyR (x : MS) (w P : Nat) (free : Int32) : Int32 := if x (55 + bdOf x w) 2 ≤ bcI free then (if cR x w P free (2 ^ P - 1) = 0 then (if anK x w P free (2 ^ P - 1) = true then 3 else if anS x w P free (2 ^ P - 1) = true then 4 else 2) else 0) else 1
theorem cR_none : ∀ n, (cR x w P free n = 0 ↔ ∀ s, 1 ≤ s → s ≤ n → ¬ (subB free s = true ∧ filB x w P s = true))
  | 0 => ⟨fun _ s h1 h2 => by omega, fun _ => rfl⟩
  | n + 1 => by
    have ih := cR_none n
    unfold cR
    by_cases c : subB free (n + 1) = true ∧ filB x w P (n + 1) = true
    · rw [if_pos c]
      exact ⟨fun e => by omega, fun g => absurd c (g (n + 1) (by omega) (Nat.le_refl _))⟩
    · rw [if_neg c, Nat.add_zero, ih]
      constructor
      · intro g s h1 h2
        rcases Nat.eq_or_lt_of_le h2 with z | z
        · rw [z]; exact c
        · exact g s h1 (by omega)
      · intro g s h1 h2
        exact g s h1 (by omega)
theorem anK_le {i n : Nat} (h : i ≤ n) (ht : anK x w P free i = true) : anK x w P free n = true := by
  induction n with
  | zero => obtain rfl : i = 0 := by omega
            exact ht
  | succ n ih =>
    by_cases q : i = n + 1
    · subst q; exact ht
    · unfold anK; rw [ih (by omega)]; rfl
theorem and_m1' : ((0 : Int32) ^^^ (-1)) = -1 := by decide
theorem and_all (v : Int32) : v &&& ((0 : Int32) ^^^ (-1)) = v := b_ext fun i hi => by rw [b_and, b_cmp hi, b_0, Bool.not_false, Bool.and_true]
theorem sy_why {post : Int32 → MS → Prop} (O : rOk (tR x) Γ σ) (Y : Sy x) (S : Sh x Γ) (G : Gs x) (hw : w < Γ.2.2.1) (e : a1 = nI w) (h : post (whyR x w Γ.1 (frR x Γ w)) σ) : w_X11_why Γ post σ a1 := by
  have hW := O.hW
  have hP := O.hP
  obtain ⟨b, m, sz, hb, eb, hbd, m2, e1, z1, e2, e3, e4⟩ := S.get O hw
  unfold w_X11_why
  refine sf_wget O hw e ⟨⟨by omega, hw⟩, sf_lbget O hb ((O.wd (j := 0) hw (by decide)).trans eb) ⟨hb, ?_⟩⟩
  unfold w_in_J6_intValue_8abf5
  rw [e1]
  refine sy_freeFor O Y hw e (sx_bc (law_X11_needed_ ?_))
  have hbest := fun (post : Int32 → MS → Prop) => sy_best (a2 := 0) (a3 := 0) (post := post) O Y S G hw e
  rw [and_all] at hbest
  unfold whyR at h
  rw [hbd, e3] at h
  unfold frR at h hbest
  obtain ⟨F, hF, em⟩ := freeF_lt (y := stg x Γ.2.2.1) (w := w) (W := Γ.2.2.1) Γ.1 hP
  obtain ⟨p1, p2⟩ := pw1024 hP
  rw [em] at h hbest ⊢
  rw [e2]
  refine ⟨fun c => hbest _ ⟨fun d => ?_, fun d => ?_⟩, fun c => ?_⟩
  · rw [if_pos c, if_pos ((cR_none _).mpr ((bR_none _ (by omega)).mp d))] at h
    have skS := anS_skip (x := x) (w := w) (P := Γ.1) (free := nI F) (n := F) (2 ^ Γ.1 - 1 - F) (fun s g1 g2 g3 => by have := sub_le (by omega) (by omega) g3; omega)
    have skK := anK_skip (x := x) (w := w) (P := Γ.1) (free := nI F) (n := F) (2 ^ Γ.1 - 1 - F) (fun s g1 g2 g3 => by have := sub_le (by omega) (by omega) g3; omega)
    rw [show F + (2 ^ Γ.1 - 1 - F) = 2 ^ Γ.1 - 1 by omega] at skS skK
    rw [skS, skK] at h
    have key : ∀ d i, i + d = F → anK x w Γ.1 (nI F) i = false → u_X11_why_70 Γ post a1 (d + 1) σ w (nI m) (nI F) (if anS x w Γ.1 (nI F) i = true then 4 else 2) (nI (i + 1)) := by
      intro d
      induction d with
      | zero =>
        intro i hi hk
        obtain rfl : i = F := by omega
        unfold u_X11_why_70
        rw [if_neg (by rw [hk]; exact Bool.false_ne_true)] at h
        exact ⟨fun _ => h, fun c => absurd (nI_lt (Nat.lt_succ_self i) (by omega)) c⟩
      | succ d ih =>
        intro i hi hk
        have nx : ∀ v, anK x w Γ.1 (nI F) (i + 1) = false → v = (if anS x w Γ.1 (nI F) (i + 1) = true then (4 : Int32) else 2) → u_X11_why_70 Γ post a1 (d + 1) σ w (nI m) (nI F) v (nI (i + 1) + 1) := fun v g e => by
          rw [nI_1, e]
          exact ih (i + 1) (by omega) g
        have same : (subB (nI F) (i + 1) && stB x w Γ.1 (i + 1)) = false → u_X11_why_70 Γ post a1 (d + 1) σ w (nI m) (nI F) (if anS x w Γ.1 (nI F) i = true then 4 else 2) (nI (i + 1) + 1) := fun g => nx _ (by
          unfold anK
          rw [hk, ← Bool.and_assoc, g, Bool.false_and]
          rfl) (by
          conv => rhs; unfold anS
          rw [g, Bool.or_false])
        have hst := stB_can (x := x) (w := w) (s := i + 1) hP z1 (by rw [hbd]; exact e3) (by omega)
        unfold u_X11_why_70
        refine ⟨fun c => absurd c (nI_nlt (show i + 1 ≤ F by omega) (by omega)), fun _ => ⟨fun c => sx_bc (law_X11_needed_ ?_), fun c => same ?_⟩⟩
        · rw [e2]
          refine ⟨fun c2 => sy_canPlay O (by omega) m2 z1 hbd e3 e4 c2 ⟨fun c3 => same ?_, fun c3 => ?_⟩, fun c2 => same ?_⟩
          · rw [b01_0.mp c3, Bool.and_false]
          · rw [O.wd (j := 5) hw (by decide)]
            refine sy_areKnown O (G w (by omega)) ⟨fun c4 => nx _ ?_ ?_, fun c4 => ?_⟩
            · unfold anK
              rw [hk, show knB x w Γ.1 (i + 1) = false from b01_0.mp c4, Bool.and_false, Bool.and_false]
              rfl
            · unfold anS
              rw [show subB (nI F) (i + 1) = true from decide_eq_true c, b01_1.mp c3, Bool.and_true, Bool.or_true, if_pos rfl]
            · have ht : anK x w Γ.1 (nI F) (i + 1) = true := by
                unfold anK
                rw [show subB (nI F) (i + 1) = true from decide_eq_true c, b01_1.mp c3, show knB x w Γ.1 (i + 1) = true from b01_1.mp c4, Bool.and_true, Bool.and_true, Bool.or_true]
              rw [if_pos (anK_le (n := F) (by omega) ht)] at h
              exact h
          · rw [Bool.eq_false_iff.mpr (fun z => c2 (hst.mp z).1), Bool.and_false]
        · rw [show subB (nI F) (i + 1) = false from decide_eq_false c, Bool.false_and]
    exact ⟨F + 1, key F 0 (by omega) rfl⟩
  · rw [if_pos c, if_neg (fun z => d ((bR_none _ (by omega)).mpr ((cR_none _).mp z)))] at h
    exact h
  · rw [if_neg c] at h
    exact h
end FILL
end
section
/-! FILLINGS ON BOTH SIDES: what the class's survey finds is the best of all sets, their number, and why there is none -/
def svOk (x : MS) (w P : Nat) (free had : Int32) (n : Nat) (z : MS × Int32 × Int32) : Prop := z.1 9 0 = bR x w P free had n ∧ z.1 9 3 = nI (cR x w P free n) ∧ (¬ bR x w P free had n = -1 → z.1 9 1 = costsF x (bR x w P free had n) w P ∧ z.1 9 2 = bcI (bR x w P free had n &&& had)) ∧ (bR x w P free had n = -1 → z.1 9 1 = -1) ∧ z.1 9 4 = alR x w P free n ∧ z.2.1 = b01 (anS x w P free n) ∧ z.2.2 = b01 (anK x w P free n)
section SURV
variable {x : MS} {free had : Int32} {w P : Nat}
theorem addF_c {σ : MS} {s c k : Int32} : (addF σ s c k 9 0 = if σ 9 3 = 0 ∨ σ 9 2 < k ∨ (k = σ 9 2 ∧ ¬ σ 9 1 ≤ c) then s else σ 9 0) ∧ (addF σ s c k 9 1 = if σ 9 3 = 0 ∨ σ 9 2 < k ∨ (k = σ 9 2 ∧ ¬ σ 9 1 ≤ c) then c else σ 9 1) ∧ (addF σ s c k 9 2 = if σ 9 3 = 0 ∨ σ 9 2 < k ∨ (k = σ 9 2 ∧ ¬ σ 9 1 ≤ c) then k else σ 9 2) ∧ addF σ s c k 9 3 = σ 9 3 + 1 ∧ addF σ s c k 9 4 = σ 9 4 &&& s := by
  unfold addF
  (try dsimp only)
  by_cases h : σ 9 3 = 0 ∨ σ 9 2 < k ∨ (k = σ 9 2 ∧ ¬ σ 9 1 ≤ c)
  · simp only [if_pos h]
    refine ⟨?_, ?_, ?_, ?_, ?_⟩
    · rw [up2_at (by omega), up2_at (by omega), up2_at (by omega), up2_at (by omega), up2_same]
    · rw [up2_at (by omega), up2_at (by omega), up2_at (by omega), up2_same]
    · rw [up2_at (by omega), up2_at (by omega), up2_same]
    · rw [up2_at (by omega), up2_same, up2_at (by omega), up2_at (by omega), up2_at (by omega)]
    · rw [up2_same, up2_at (by omega), up2_at (by omega), up2_at (by omega), up2_at (by omega)]
  · simp only [if_neg h]
    refine ⟨?_, ?_, ?_, ?_, ?_⟩
    · rw [up2_at (by omega), up2_at (by omega)]
    · rw [up2_at (by omega), up2_at (by omega)]
    · rw [up2_at (by omega), up2_at (by omega)]
    · rw [up2_at (by omega), up2_same]
    · rw [up2_same, up2_at (by omega)]
theorem cmp10 : ∀ a, a < 11 → ∀ b, b < 11 → ((nI b < nI a ↔ 0 < nI a - nI b) ∧ (nI a = nI b ↔ nI a - nI b = 0)) := by decide +kernel
theorem bc_and {s : Nat} (hs : s < 1024) (had : Int32) : ∃ m, m < 11 ∧ bcI (nI s &&& had) = nI m := by
  obtain ⟨j, hj, e⟩ := and_small hs (by decide) had
  obtain ⟨m, hm, em⟩ := bc_tab j (by omega)
  exact ⟨m, by omega, by rw [e]; exact em⟩
theorem cR_le : ∀ n, cR x w P free n ≤ n
  | 0 => Nat.le_refl _
  | n + 1 => by
    have := cR_le n
    unfold cR
    split <;> omega
theorem sv_bR (hP : P ≤ 10) : ∀ n, n < 2 ^ P → svOk x w P free had n (sv (svIn x w P) P w (x (55 + bdOf x w) 2) free had n)
  | 0, _ => by
    have e9 : svIn x w P 9 = clearF x 9 := sat_9 _ _ _ _
    show svOk x w P free had 0 (svIn x w P, 0, 0)
    unfold svOk
    dsimp only
    rw [e9]
    unfold clearF
    refine ⟨?_, ?_, fun h => absurd rfl h, fun _ => ?_, ?_, rfl, rfl⟩
    · rw [up2_at (by omega), up2_at (by omega), up2_at (by omega), up2_at (by omega), up2_at (by omega), up2_same]; rfl
    · rw [up2_at (by omega), up2_at (by omega), up2_same]; rfl
    · rw [up2_at (by omega), up2_at (by omega), up2_at (by omega), up2_at (by omega), up2_same]
    · rw [up2_at (by omega), up2_same]; rfl
  | n + 1, hn => by
    have hp := (pw1024 hP).2
    have ih := sv_bR hP n (by omega)
    have h8 := sv_8 (svIn x w P) P w (x (55 + bdOf x w) 2) free had n
    have hs := (Scr.svIn x w P).tr (Scr.sv (svIn x w P) P w (x (55 + bdOf x w) 2) free had n)
    show svOk x w P free had (n + 1) (svS P w (x (55 + bdOf x w) 2) free had (n + 1) (sv (svIn x w P) P w (x (55 + bdOf x w) 2) free had n))
    generalize sv (svIn x w P) P w (x (55 + bdOf x w) 2) free had n = Z at ih h8 hs ⊢
    obtain ⟨i0, i3, i12, i1, i4, i5, i6⟩ := ih
    have nofil : ¬ (subB free (n + 1) = true ∧ filB x w P (n + 1) = true) → bR x w P free had (n + 1) = bR x w P free had n ∧ cR x w P free (n + 1) = cR x w P free n ∧ alR x w P free (n + 1) = alR x w P free n := fun z => ⟨if_neg (fun q => z ⟨q.1, q.2.1⟩), by show _ + (if _ then 1 else 0) = _; rw [if_neg z]; rfl, if_neg z⟩
    have same : ¬ (subB free (n + 1) = true ∧ filB x w P (n + 1) = true) → ∀ u v, u = b01 (anS x w P free (n + 1)) → v = b01 (anK x w P free (n + 1)) → svOk x w P free had (n + 1) (Z.1, u, v) := fun z u v hu hv => by
      obtain ⟨e1, e2, e3⟩ := nofil z
      unfold svOk
      rw [e1, e2, e3]
      exact ⟨i0, i3, i12, i1, i4, hu, hv⟩
    unfold svS
    rw [h8, hs.c73, playF_sc hs, feudB_sc hs, costsF_sc hs]
    have eS : anS x w P free (n + 1) = (anS x w P free n || (subB free (n + 1) && stB x w P (n + 1))) := rfl
    have eK : anK x w P free (n + 1) = (anK x w P free n || (subB free (n + 1) && (stB x w P (n + 1) && knB x w P (n + 1)))) := rfl
    have hC : (nI (n + 1) &&& (free ^^^ (-1)) = 0 ∧ ¬ svIn x w P 8 (n + 1) = 0 ∧ bcI (nI (n + 1)) = x (55 + bdOf x w) 2) ↔ (subB free (n + 1) = true ∧ stB x w P (n + 1) = true) := by
      unfold subB stB
      rw [decide_eq_true_iff, decide_eq_true_iff]
    by_cases c : subB free (n + 1) = true ∧ stB x w P (n + 1) = true
    · rw [if_pos (hC.mpr c)]
      have aS : anS x w P free (n + 1) = true := by
        unfold anS
        rw [c.1, c.2]
        exact Bool.or_true _
      by_cases d : knB x w P (n + 1) = true
      · rw [if_pos (of_decide_eq_true (show decide _ = true from d))]
        have aK : anK x w P free (n + 1) = true := by
          unfold anK
          rw [c.1, c.2, d]
          exact Bool.or_true _
        by_cases f : feudB x (nI (n + 1)) P = true
        · rw [if_pos f]
          exact same (fun z => by have := z.2; unfold filB at this; rw [f, Bool.not_true, Bool.and_false, Bool.and_false] at this; cases this) 1 1 (by rw [aS]; rfl) (by rw [aK]; rfl)
        · rw [if_neg f]
          have hf : filB x w P (n + 1) = true := by
            unfold filB
            rw [c.2, d, Bool.eq_false_iff.mpr f]
            rfl
          have hcond : (Z.1 9 3 = 0 ∨ Z.1 9 2 < bcI (nI (n + 1) &&& had) ∨ (bcI (nI (n + 1) &&& had) = Z.1 9 2 ∧ ¬ Z.1 9 1 ≤ costsF x (nI (n + 1)) w P)) ↔ (bR x w P free had n = -1 ∨ btr x w P had (nI (n + 1)) (bR x w P free had n) = true) := by
            by_cases e : bR x w P free had n = -1
            · have e0 := (cR_none (x := x) (w := w) (P := P) (free := free) n).mpr ((bR_none n (by omega)).mp e)
              exact ⟨fun _ => Or.inl e, fun _ => Or.inl (by rw [i3, e0]; rfl)⟩
            · obtain ⟨j1, j2⟩ := i12 e
              have hne : ¬ Z.1 9 3 = 0 := fun z => by
                rw [i3] at z
                have hl := cR_le (x := x) (w := w) (P := P) (free := free) n
                have : cR x w P free n = 0 := (nI_eq (by omega) (by decide)).mp (z.trans nI_0.symm)
                exact e ((bR_none n (by omega)).mpr ((cR_none n).mp this))
              obtain ⟨s', q1, q2, q3, -⟩ := (bR_rg (x := x) (w := w) (P := P) (free := free) (had := had) n (by omega)).resolve_left e
              obtain ⟨ka, ha, ea⟩ := bc_and (s := n + 1) (by omega) had
              obtain ⟨kb, hb, eb⟩ := bc_and (s := s') (by omega) had
              have cm := cmp10 ka ha kb hb
              unfold btr
              rw [decide_eq_true_iff, j1, j2, q3, ea, eb]
              constructor
              · rintro (h | h | ⟨h1, h2⟩)
                · exact absurd h hne
                · exact Or.inr (Or.inl (cm.1.mp h))
                · exact Or.inr (Or.inr ⟨cm.2.mp h1, h2⟩)
              · rintro (h | h | ⟨h1, h2⟩)
                · rw [q3] at e; exact absurd h e
                · exact Or.inr (Or.inl (cm.1.mpr h))
                · exact Or.inr (Or.inr ⟨cm.2.mpr h1, h2⟩)
          obtain ⟨a0, a1, a2, a3, a4⟩ := addF_c (σ := Z.1) (s := nI (n + 1)) (c := costsF x (nI (n + 1)) w P) (k := bcI (nI (n + 1) &&& had))
          have ec : cR x w P free (n + 1) = cR x w P free n + 1 := by
            show _ + (if _ then 1 else 0) = _
            rw [if_pos ⟨c.1, hf⟩]
          have ea : alR x w P free (n + 1) = alR x w P free n &&& nI (n + 1) := if_pos ⟨c.1, hf⟩
          have b3 : addF Z.1 (nI (n + 1)) (costsF x (nI (n + 1)) w P) (bcI (nI (n + 1) &&& had)) 9 3 = nI (cR x w P free (n + 1)) := by rw [a3, i3, ec, nI_1]
          have b4 : addF Z.1 (nI (n + 1)) (costsF x (nI (n + 1)) w P) (bcI (nI (n + 1) &&& had)) 9 4 = alR x w P free (n + 1) := by rw [a4, i4, ea]
          unfold svOk
          by_cases g : bR x w P free had n = -1 ∨ btr x w P had (nI (n + 1)) (bR x w P free had n) = true
          · have e1 : bR x w P free had (n + 1) = nI (n + 1) := if_pos ⟨c.1, hf, g⟩
            rw [if_pos (hcond.mpr g)] at a0 a1 a2
            exact ⟨a0.trans e1.symm, b3, fun _ => ⟨by rw [e1]; exact a1, by rw [e1]; exact a2⟩, fun z => absurd (e1.symm.trans z) (nI_nm1 (by omega)), b4, by rw [aS]; rfl, by rw [aK]; rfl⟩
          · have e1 : bR x w P free had (n + 1) = bR x w P free had n := if_neg (fun q => g q.2.2)
            rw [if_neg (fun q => g (hcond.mp q))] at a0 a1 a2
            exact ⟨a0.trans (i0.trans e1.symm), b3, fun z => by rw [e1] at z ⊢; exact ⟨a1.trans (i12 z).1, a2.trans (i12 z).2⟩, fun z => absurd (Or.inl (e1.symm.trans z)) g, b4, by rw [aS]; rfl, by rw [aK]; rfl⟩
      · rw [if_neg (fun z => d (decide_eq_true z))]
        refine same (fun z => by have := z.2; unfold filB at this; rw [Bool.eq_false_iff.mpr d, Bool.false_and, Bool.and_false] at this; cases this) 1 Z.2.2 (by rw [aS]; rfl) ?_
        rw [i6, eK, Bool.eq_false_iff.mpr d, Bool.and_false, Bool.and_false, Bool.or_false]
    · rw [if_neg (fun z => c (hC.mp z))]
      have hno : (subB free (n + 1) && stB x w P (n + 1)) = false := Bool.eq_false_iff.mpr (fun z => c (by rw [Bool.and_eq_true] at z; exact z))
      refine same (fun z => ?_) Z.2.1 Z.2.2 ?_ ?_
      · have := z.2
        unfold filB at this
        rw [Bool.and_eq_true] at this
        exact c ⟨z.1, this.1⟩
      · rw [i5, eS, hno, Bool.or_false]
      · rw [i6, eK, ← Bool.and_assoc, hno, Bool.false_and, Bool.or_false]
theorem anK_anS : ∀ n, anK x w P free n = true → anS x w P free n = true
  | 0, h => by cases h
  | n + 1, h => by
    unfold anK at h
    unfold anS
    rw [Bool.or_eq_true] at h ⊢
    rcases h with h | h
    · exact Or.inl (anK_anS n h)
    · refine Or.inr ?_
      rw [← Bool.and_assoc, Bool.and_eq_true] at h
      exact h.1
/-- what the survey finds -/
theorem surv_is (hP : P ≤ 10) : svOk x w P free had (2 ^ P - 1) (survF x w P free had, (svAll x w P free had).2) := by
  obtain ⟨p1, p2⟩ := pw1024 hP
  have h := sv_bR (x := x) (w := w) (free := free) (had := had) hP (2 ^ P - 1) (by omega)
  unfold survF svAll
  generalize sv (svIn x w P) P w (x (55 + bdOf x w) 2) free had (2 ^ P - 1) = Z at h ⊢
  unfold svOk at h ⊢
  dsimp only at h ⊢
  rw [up2_at (by omega), up2_at (by omega), up2_at (by omega), up2_at (by omega), up2_at (by omega)]
  exact h
theorem surv_why {F : Nat} (hP : P ≤ 10) (hF : F < 2 ^ P) : survF x w P (nI F) had 9 5 = whyR x w P (nI F) := by
  obtain ⟨p1, p2⟩ := pw1024 hP
  obtain ⟨-, h3, -, -, -, h5, h6⟩ := sv_bR (x := x) (w := w) (free := nI F) (had := had) hP (2 ^ P - 1) (by omega)
  have hl := cR_le (x := x) (w := w) (P := P) (free := nI F) (2 ^ P - 1)
  have hno := cR_none (x := x) (w := w) (P := P) (free := nI F) (2 ^ P - 1)
  have hKS := anK_anS (x := x) (w := w) (P := P) (free := nI F) (2 ^ P - 1)
  unfold survF svAll
  generalize sv (svIn x w P) P w (x (55 + bdOf x w) 2) (nI F) had (2 ^ P - 1) = Z at h3 h5 h6 ⊢
  rw [up2_same]
  unfold whyF whyR
  rw [h3, h5, h6]
  by_cases c : cR x w P (nI F) (2 ^ P - 1) = 0
  · rw [c, if_pos (show nI 0 ≤ 0 from le_self (nI 0)), if_pos rfl]
    by_cases d : x (55 + bdOf x w) 2 ≤ bcI (nI F)
    · rw [if_pos d, if_pos d]
      cases q1 : anS x w P (nI F) (2 ^ P - 1) with
      | false =>
        have q2 : anK x w P (nI F) (2 ^ P - 1) = false := Bool.eq_false_iff.mpr (fun z => by rw [hKS z] at q1; cases q1)
        rw [q2]
        rfl
      | true =>
        cases q2 : anK x w P (nI F) (2 ^ P - 1) <;> rfl
    · rw [if_neg d, if_neg d]
  · have hpos : ¬ nI (cR x w P (nI F) (2 ^ P - 1)) ≤ 0 := fun z => absurd (show nI _ ≤ nI 0 from z) (nI_ge (by omega) (by omega))
    rw [if_neg hpos, if_neg c]
    have hex : x (55 + bdOf x w) 2 ≤ bcI (nI F) := Decidable.byContradiction fun z => c (hno.mpr (fun s h1 h2 hh => z (by
      have hst := hh.2
      unfold filB at hst
      rw [Bool.and_eq_true] at hst
      have hb := (of_decide_eq_true (show decide _ = true from hst.1)).2
      rw [← hb]
      exact bc_mono (by omega) (by omega) hh.1)))
    rw [if_pos hex]
/-- who is in all fillings -/
theorem alR_bt {p : Nat} (hp : p < 32) : ∀ n, n < 1024 → (bt (alR x w P free n) p = true ↔ ∀ s, 1 ≤ s → s ≤ n → subB free s = true ∧ filB x w P s = true → bt (nI s) p = true)
  | 0, _ => ⟨fun _ s h1 h2 => by omega, fun _ => b_m1 p hp⟩
  | n + 1, hn => by
    have ih := alR_bt hp n (by omega)
    unfold alR
    by_cases c : subB free (n + 1) = true ∧ filB x w P (n + 1) = true
    · rw [if_pos c, b_and, Bool.and_eq_true, ih]
      constructor
      · rintro ⟨g1, g2⟩ s h1 h2 h3
        rcases Nat.eq_or_lt_of_le h2 with z | z
        · rw [z]; exact g2
        · exact g1 s h1 (by omega) h3
      · intro g
        exact ⟨fun s h1 h2 h3 => g s h1 (by omega) h3, g (n + 1) (by omega) (Nat.le_refl _) c⟩
    · rw [if_neg c, ih]
      constructor
      · intro g s h1 h2 h3
        rcases Nat.eq_or_lt_of_le h2 with z | z
        · rw [z] at h3; exact absurd h3 c
        · exact g s h1 (by omega) h3
      · intro g s h1 h2 h3
        exact g s h1 (by omega) h3
theorem and_clr {F : Nat} {p s : Nat} (hF : F < 1024) (hs : s < 1024) (hp : p < 10) : subB (nI F &&& (one p ^^^ (-1))) s = true ↔ subB (nI F) s = true ∧ bt (nI s) p = false := by
  unfold subB
  rw [decide_eq_true_iff, decide_eq_true_iff]
  have key : ∀ v : Int32, (nI s &&& (v ^^^ (-1)) = 0) ↔ ∀ i, i < 32 → bt (nI s) i = true → bt v i = true := fun v => by
    constructor
    · intro h i hi hb
      have := congrArg (fun y => bt y i) h
      simp only [b_and, b_cmp hi, b_0, hb] at this
      simpa using this
    · intro h
      refine b_ext fun i hi => ?_
      rw [b_and, b_cmp hi, b_0]
      cases q : bt (nI s) i with
      | false => rfl
      | true => rw [h i hi q]; rfl
  rw [key, key]
  constructor
  · intro h
    refine ⟨fun i hi hb => ?_, ?_⟩
    · have := h i hi hb
      rw [b_and, Bool.and_eq_true] at this
      exact this.1
    · cases q : bt (nI s) p with
      | false => rfl
      | true =>
        have := h p (by omega) q
        rw [b_and, b_cmp (by omega), b_one (by omega) (by omega), decide_eq_true rfl, Bool.not_true, Bool.and_false] at this
        cases this
  · rintro ⟨h1, h2⟩ i hi hb
    rw [b_and, h1 i hi hb, b_cmp hi, b_one (by omega) hi, Bool.true_and]
    by_cases e : i = p
    · rw [e, h2] at hb; cases hb
    · rw [decide_eq_false e]; rfl
theorem key_is {F p : Nat} (hP : P ≤ 10) (hF : F < 2 ^ P) (hp : p < P) : bR x w P (nI F &&& (one p ^^^ (-1))) 0 (2 ^ P - 1) = -1 ↔ bt (alR x w P (nI F) (2 ^ P - 1)) p = true := by
  obtain ⟨p1, p2⟩ := pw1024 hP
  rw [bR_none _ (by omega), alR_bt (by omega) _ (by omega)]
  constructor
  · intro g s h1 h2 h3
    cases q : bt (nI s) p with
    | true => rfl
    | false => exact absurd ⟨(and_clr (by omega) (by omega) (by omega)).mpr ⟨h3.1, q⟩, h3.2⟩ (g s h1 h2)
  · intro g s h1 h2 h3
    obtain ⟨g1, g2⟩ := (and_clr (by omega) (by omega) (by omega)).mp h3.1
    rw [g s h1 h2 ⟨g1, h3.2⟩] at g2
    cases g2
end SURV
end
section
/-! ONE STATE ON BOTH SIDES: what one side changes with the other -/
/-- the class's cells that the reference has too -/
def seen (a b : Nat) : Prop := (a = 0 ∧ (b = 9 ∨ b = 10)) ∨ a = 6 ∨ (17 ≤ a ∧ a < 29) ∨ (29 ≤ a ∧ a < 39 ∧ b < 6) ∨ (39 ≤ a ∧ a < 55 ∧ b ≤ 3) ∨ (73 ≤ a ∧ a < 87 ∧ b < 12)
section RELA
variable {x y : MS} {Γ : RG} {σ τ : MS} {k i : Nat}
theorem tR_leaf (h : rTd Γ k i) (hP : Γ.1 ≤ 10) (hW : Γ.2.2.1 ≤ 14) :
    (k = 0 ∧ i = 1 ∧ ∀ x, tR x k i = x 0 9) ∨ (k = 0 ∧ i = 2 ∧ ∀ x, tR x k i = x 0 10) ∨
    (7 ≤ k ∧ k ≤ 10 ∧ i < 16 ∧ ∀ x, tR x k i = x (39 + i) (k - 7)) ∨ (11 ≤ k ∧ k ≤ 12 ∧ i < 36 ∧ ∀ x, tR x k i = x (17 + 6 * (k - 11) + i / 6) (i % 6)) ∨
    (13 ≤ k ∧ k < 13 + Γ.1 ∧ i < 6 ∧ ∀ x, tR x k i = x (29 + (k - 13)) i) ∨ (23 ≤ k ∧ k < 23 + Γ.1 ∧ i < 366 ∧ ∀ x, tR x k i = b01 (bt (x 6 i) (k - 23))) ∨
    (33 ≤ k ∧ k < 33 + Γ.2.2.1 ∧ i < 12 ∧ ∀ x, tR x k i = x (73 + (k - 33)) i) := by
  unfold rTd at h
  by_cases h0 : k = 0
  · subst h0
    by_cases h1 : i = 1
    · subst h1; exact Or.inl ⟨rfl, rfl, fun _ => rfl⟩
    · have h2 : i = 2 := by omega
      subst h2
      exact Or.inr (Or.inl ⟨rfl, rfl, fun _ => rfl⟩)
  by_cases h7 : k = 7
  · subst h7; exact Or.inr (Or.inr (Or.inl ⟨by omega, by omega, by omega, fun _ => rfl⟩))
  by_cases h8 : k = 8
  · subst h8; exact Or.inr (Or.inr (Or.inl ⟨by omega, by omega, by omega, fun _ => rfl⟩))
  by_cases h9 : k = 9
  · subst h9; exact Or.inr (Or.inr (Or.inl ⟨by omega, by omega, by omega, fun _ => rfl⟩))
  by_cases h10 : k = 10
  · subst h10; exact Or.inr (Or.inr (Or.inl ⟨by omega, by omega, by omega, fun _ => rfl⟩))
  by_cases h11 : k = 11
  · subst h11; exact Or.inr (Or.inr (Or.inr (Or.inl ⟨by omega, by omega, by omega, fun _ => rfl⟩)))
  by_cases h12 : k = 12
  · subst h12; exact Or.inr (Or.inr (Or.inr (Or.inl ⟨by omega, by omega, by omega, fun _ => rfl⟩)))
  by_cases h23 : k < 23
  · refine Or.inr (Or.inr (Or.inr (Or.inr (Or.inl ⟨by omega, by omega, by omega, fun x => ?_⟩))))
    unfold tR
    rw [if_neg h0, if_neg h7, if_neg h8, if_neg h9, if_neg h10, if_neg h11, if_neg h12, if_pos h23]
  by_cases h33 : k < 33
  · refine Or.inr (Or.inr (Or.inr (Or.inr (Or.inr (Or.inl ⟨by omega, by omega, by omega, fun x => ?_⟩)))))
    unfold tR
    rw [if_neg h0, if_neg h7, if_neg h8, if_neg h9, if_neg h10, if_neg h11, if_neg h12, if_neg h23, if_pos h33]
  · refine Or.inr (Or.inr (Or.inr (Or.inr (Or.inr (Or.inr ⟨by omega, by omega, by omega, fun x => ?_⟩)))))
    unfold tR
    rw [if_neg h0, if_neg h7, if_neg h8, if_neg h9, if_neg h10, if_neg h11, if_neg h12, if_neg h23, if_neg h33]
theorem tR_cg (h : rTd Γ k i) (hP : Γ.1 ≤ 10) (hW : Γ.2.2.1 ≤ 14) (e : ∀ a b, seen a b → y a b = x a b) : tR y k i = tR x k i := by
  rcases tR_leaf h hP hW with ⟨_, _, l⟩ | ⟨_, _, l⟩ | ⟨g1, g2, g3, l⟩ | ⟨g1, g2, g3, l⟩ | ⟨g1, g2, g3, l⟩ | ⟨g1, g2, g3, l⟩ | ⟨g1, g2, g3, l⟩
  · rw [l, l]; exact e _ _ (by unfold seen; omega)
  · rw [l, l]; exact e _ _ (by unfold seen; omega)
  · rw [l, l]; exact e _ _ (by unfold seen; omega)
  · rw [l, l]; exact e _ _ (by unfold seen; omega)
  · rw [l, l]; exact e _ _ (by unfold seen; omega)
  · rw [l, l, e 6 i (by unfold seen; omega)]
  · rw [l, l]; exact e _ _ (by unfold seen; omega)
theorem RX.cg (O : rOk (tR x) Γ σ) (e : ∀ a b, seen a b → y a b = x a b) : rOk (tR y) Γ σ := O.reT (fun k i hk => tR_cg hk O.hP O.hW e)
theorem RX.sc (O : rOk (tR x) Γ σ) (h : Scr x y) : rOk (tR y) Γ σ := RX.cg O (fun a b hs => by rw [h a (by unfold seen at hs; omega)])
theorem RX.off {a b : Nat} {v : Int32} (O : rOk (tR x) Γ σ) (h : ¬ seen a b) : rOk (tR (up2 x a b v)) Γ σ := RX.cg O (fun a' b' hs => up2_off (fun z => h (by obtain ⟨rfl, rfl⟩ := z; exact hs)))
/-- the reference's cells that are as they were -/
theorem RX.at (O : rOk (tR x) Γ σ) (e0 : rOk0 Γ τ) (e : ∀ k i, rTd Γ k i → τ k i = tR y k i) : rOk (tR y) Γ τ := ⟨e0, e⟩
theorem RX.wd {w j : Nat} {v : Int32} (O : rOk (tR x) Γ σ) (hw : w < Γ.2.2.1) (h3 : 3 ≤ j) (hj : j < 12) : rOk (tR (up2 x (73 + w) j v)) Γ (up2 σ (33 + w) j v) :=
  (O.tel (k := 33 + w) (j := j) (v := v) (by unfold rPr0; omega)).reT (fun k i hk => by
    have hP := O.hP
    have hW := O.hW
    rcases tR_leaf hk hP hW with ⟨_, _, l⟩ | ⟨_, _, l⟩ | ⟨g1, g2, g3, l⟩ | ⟨g1, g2, g3, l⟩ | ⟨g1, g2, g3, l⟩ | ⟨g1, g2, g3, l⟩ | ⟨g1, g2, g3, l⟩
    · rw [l, up2_off (by omega), up2_off (by omega), l]
    · rw [l, up2_off (by omega), up2_off (by omega), l]
    · rw [l, up2_off (by omega), up2_off (by omega), l]
    · rw [l, up2_off (by omega), up2_off (by omega), l]
    · rw [l, up2_off (by omega), up2_off (by omega), l]
    · rw [l, up2_off (by omega), up2_off (by omega), l]
    · rw [l]
      by_cases z : k = 33 + w ∧ i = j
      · obtain ⟨rfl, rfl⟩ := z
        rw [show 33 + w - 33 = w by omega, up2_same, up2_same]
      · rw [up2_off (by omega), up2_off z, l])
theorem RX.pl {p j : Nat} {v : Int32} (O : rOk (tR x) Γ σ) (hp : p < Γ.1) (hj : j < 6) (h2 : j ≠ 2) : rOk (tR (up2 x (29 + p) j v)) Γ (up2 σ (13 + p) j v) :=
  (O.tel (k := 13 + p) (j := j) (v := v) (by have := O.hP; unfold rPr0; omega)).reT (fun k i hk => by
    have hP := O.hP
    have hW := O.hW
    rcases tR_leaf hk hP hW with ⟨_, _, l⟩ | ⟨_, _, l⟩ | ⟨g1, g2, g3, l⟩ | ⟨g1, g2, g3, l⟩ | ⟨g1, g2, g3, l⟩ | ⟨g1, g2, g3, l⟩ | ⟨g1, g2, g3, l⟩
    · rw [l, up2_off (by omega), up2_off (by omega), l]
    · rw [l, up2_off (by omega), up2_off (by omega), l]
    · rw [l, up2_off (by omega), up2_off (by omega), l]
    · rw [l, up2_off (by omega), up2_off (by omega), l]
    · rw [l]
      by_cases z : k = 13 + p ∧ i = j
      · obtain ⟨rfl, rfl⟩ := z
        rw [show 13 + p - 13 = p by omega, up2_same, up2_same]
      · rw [up2_off (by omega), up2_off z, l]
    · rw [l, up2_off (by omega), up2_off (by omega), l]
    · rw [l, up2_off (by omega), up2_off (by omega), l])
theorem RX.csh {v : Int32} (O : rOk (tR x) Γ σ) : rOk (tR (up2 x 0 10 v)) Γ (up2 σ 0 2 v) :=
  (O.tel (k := 0) (j := 2) (v := v) (by unfold rPr0; omega)).reT (fun k i hk => by
    have hP := O.hP
    have hW := O.hW
    rcases tR_leaf hk hP hW with ⟨g1, g2, l⟩ | ⟨g1, g2, l⟩ | ⟨g1, g2, g3, l⟩ | ⟨g1, g2, g3, l⟩ | ⟨g1, g2, g3, l⟩ | ⟨g1, g2, g3, l⟩ | ⟨g1, g2, g3, l⟩
    · rw [l, up2_off (by omega), up2_off (by omega), l]
    · subst g1
      subst g2
      rw [l, up2_same, up2_same]
    · rw [l, up2_off (by omega), up2_off (by omega), l]
    · rw [l, up2_off (by omega), up2_off (by omega), l]
    · rw [l, up2_off (by omega), up2_off (by omega), l]
    · rw [l, up2_off (by omega), up2_off (by omega), l]
    · rw [l, up2_off (by omega), up2_off (by omega), l])
theorem RX.tdy {T : Nat} (O : rOk (tR x) Γ σ) (hT : T ≤ 365) : rOk (tR (up2 x 0 9 (nI T))) Γ (up2 σ 0 1 (nI T)) := by
  have ne : ∀ k i, k ≠ 0 → up2 σ 0 1 (nI T) k i = σ k i := fun k i hk => up2_at (Or.inl hk)
  have hP := O.hP
  have hW := O.hW
  obtain ⟨⟨h1, h2, h3, h4, h5, h6, h7, h0, h8, h9⟩, ht⟩ := O
  refine ⟨⟨h1, h2, h3, by rw [ne _ _ (by omega)]; exact h4, by rw [ne _ _ (by omega)]; exact h5, by rw [ne _ _ (by omega)]; exact h6, ⟨T, hT, up2_same⟩, fun s hs => by rw [ne _ _ (by omega)]; exact h0 s hs, fun p hp => by rw [ne _ _ (by omega)]; exact h8 p hp, fun w hw => by rw [ne _ _ (by omega), ne _ _ (by omega), ne _ _ (by omega)]; exact h9 w hw⟩, fun k i hk => ?_⟩
  have hh := ht k i hk
  rcases tR_leaf hk hP hW with ⟨g1, g2, l⟩ | ⟨g1, g2, l⟩ | ⟨g1, g2, g3, l⟩ | ⟨g1, g2, g3, l⟩ | ⟨g1, g2, g3, l⟩ | ⟨g1, g2, g3, l⟩ | ⟨g1, g2, g3, l⟩
  · subst g1
    subst g2
    rw [l, up2_same, up2_same]
  · rw [l, up2_off (by omega), up2_off (by omega), hh, l]
  · rw [l, up2_off (by omega), up2_off (by omega), hh, l]
  · rw [l, up2_off (by omega), up2_off (by omega), hh, l]
  · rw [l, up2_off (by omega), up2_off (by omega), hh, l]
  · rw [l, up2_off (by omega), up2_off (by omega), hh, l]
  · rw [l, up2_off (by omega), up2_off (by omega), hh, l]
theorem RX.ply {s : Nat} {v : Int32} (O : rOk (tR x) Γ σ) (hs : s < 16) : rOk (tR (up2 x (39 + s) 3 v)) Γ (up2 σ 10 s v) :=
  (O.tel (k := 10) (j := s) (v := v) (by unfold rPr0; omega)).reT (fun k i hk => by
    have hP := O.hP
    have hW := O.hW
    rcases tR_leaf hk hP hW with ⟨g1, g2, l⟩ | ⟨g1, g2, l⟩ | ⟨g1, g2, g3, l⟩ | ⟨g1, g2, g3, l⟩ | ⟨g1, g2, g3, l⟩ | ⟨g1, g2, g3, l⟩ | ⟨g1, g2, g3, l⟩
    · rw [l, up2_off (by omega), up2_off (by omega), l]
    · rw [l, up2_off (by omega), up2_off (by omega), l]
    · rw [l]
      by_cases z : k = 10 ∧ i = s
      · obtain ⟨rfl, rfl⟩ := z
        rw [show (10 : Nat) - 7 = 3 from rfl, up2_same, up2_same]
      · rw [up2_off (by omega), up2_off z, l]
    · rw [l, up2_off (by omega), up2_off (by omega), l]
    · rw [l, up2_off (by omega), up2_off (by omega), l]
    · rw [l, up2_off (by omega), up2_off (by omega), l]
    · rw [l, up2_off (by omega), up2_off (by omega), l])
/-- a day off, told or taken back: the bit p of the day is what the reference has there -/
theorem RX.dof {p d : Nat} {v : Int32} {c : Bool} (O : rOk (tR x) Γ σ) (hp : p < Γ.1) (hd : d < 366) (h1 : bt v p = c) (h2 : ∀ q, q < 32 → q ≠ p → bt v q = bt (x 6 d) q) : rOk (tR (up2 x 6 d v)) Γ (up2 σ (23 + p) d (b01 c)) :=
  (O.tel (k := 23 + p) (j := d) (v := b01 c) (by have := O.hP; unfold rPr0; omega)).reT (fun k i hk => by
    have hP := O.hP
    have hW := O.hW
    rcases tR_leaf hk hP hW with ⟨g1, g2, l⟩ | ⟨g1, g2, l⟩ | ⟨g1, g2, g3, l⟩ | ⟨g1, g2, g3, l⟩ | ⟨g1, g2, g3, l⟩ | ⟨g1, g2, g3, l⟩ | ⟨g1, g2, g3, l⟩
    · rw [l, up2_off (by omega), up2_off (by omega), l]
    · rw [l, up2_off (by omega), up2_off (by omega), l]
    · rw [l, up2_off (by omega), up2_off (by omega), l]
    · rw [l, up2_off (by omega), up2_off (by omega), l]
    · rw [l, up2_off (by omega), up2_off (by omega), l]
    · rw [l]
      by_cases z : k = 23 + p ∧ i = d
      · obtain ⟨rfl, rfl⟩ := z
        rw [show 23 + p - 23 = p by omega, up2_same, up2_same, h1]
      · rw [up2_off z, l]
        by_cases e : i = d
        · subst e
          rw [up2_same, h2 (k - 23) (by omega) (by omega)]
        · rw [up2_off (by omega)]
    · rw [l, up2_off (by omega), up2_off (by omega), l])
end RELA
end
section
/-! FIXING, CANCELLING, RUNNING LATE, ON BOTH SIDES -/
/-- fixed with the players s -/
def fxN (x : MS) (w P : Nat) (s : Int32) : MS := up2 (up2 (up2 (up2 (up2 x (73 + w) 7 1) (73 + w) 8 s) (73 + w) 9 (priceI (costsF x s w P))) (73 + w) 11 (priceI (costsF x s w P) / 5)) 0 10 (x 0 10 + priceI (costsF x s w P) / 5)
/-- the queue of w lost, of the first n -/
def lsF (y : MS) (w : Nat) : Nat → MS
  | 0 => y
  | i + 1 => if lsF y w i (73 + i) 7 = 0 ∧ lsF y w i (73 + i) 0 = lsF y w i (73 + w) 0 ∧ lsF y w i (73 + i) 1 = lsF y w i (73 + w) 1 then up2 (lsF y w i) (73 + i) 7 3 else lsF y w i
/-- what stays of the reference's own: what is thrown, the lists, what a method made -/
def kq (σ τ : MS) : Prop := τ 0 0 = σ 0 0 ∧ τ 3 = σ 3 ∧ ∀ k, 47 ≤ k → τ k = σ k
section FIXB
variable {x y : MS} {Γ : RG} {σ τ ρ : MS} {a a0 a1 a2 a3 a4 b : Int32} {w : Nat}
theorem kq.rf : kq σ σ := ⟨rfl, rfl, fun _ _ => rfl⟩
theorem kq.up {k j : Nat} {v : Int32} (h : kq σ τ) (hk : (7 ≤ k ∧ k < 47) ∨ (k = 0 ∧ j ≠ 0)) : kq σ (up2 τ k j v) :=
  ⟨(up2_off (by omega)).trans h.1, (up2_ne (by omega)).trans h.2.1, fun k' hk' => (up2_ne (by omega)).trans (h.2.2 k' hk')⟩
theorem kq.tr (h : kq σ τ) (g : kq τ ρ) : kq σ ρ := ⟨g.1.trans h.1, g.2.1.trans h.2.1, fun k hk => (g.2.2 k hk).trans (h.2.2 k hk)⟩
theorem sx_isWedding {post : Int32 → MS → Prop} {Tm : MS} (O : rOk Tm Γ σ) (h0 : (∀ p, p < Γ.2.2.1 → a ≠ nI p) → post 0 σ) (h1 : ∀ p r, p < Γ.2.2.1 → a = nI p → ¬ r = 0 → post r σ) : w_X11_isWedding Γ post σ a := by
  refine law_X11_isWedding ?_
  rw [O.w]
  by_cases c : rIsF a 0 (nI Γ.2.2.1 - 1) = 0
  · rw [c]; exact h0 (rIs_no (by have := O.hW; omega) c)
  · obtain ⟨p, hp, e⟩ := rIs_idx (by have := O.hW; omega) c
    exact h1 p _ hp e c
theorem sx_isBand {post : Int32 → MS → Prop} {Tm : MS} (O : rOk Tm Γ σ) (h0 : (∀ p, p < Γ.2.1 → a ≠ nI p) → post 0 σ) (h1 : ∀ p r, p < Γ.2.1 → a = nI p → ¬ r = 0 → post r σ) : w_X11_isBand Γ post σ a := by
  refine law_X11_isBand ?_
  rw [O.b]
  by_cases c : rIsF a 0 (nI Γ.2.1 - 1) = 0
  · rw [c]; exact h0 (rIs_no (by have := O.hB; omega) c)
  · obtain ⟨p, hp, e⟩ := rIs_idx (by have := O.hB; omega) c
    exact h1 p _ hp e c
theorem sx_isDay {post : Int32 → MS → Prop} {T : Nat} (e : σ 0 1 = nI T) (hT : T ≤ 365) (h0 : (∀ d, T ≤ d → d ≤ 365 → a ≠ nI d) → post 0 σ) (h1 : ∀ d r, T ≤ d → d ≤ 365 → a = nI d → ¬ r = 0 → post r σ) : w_X11_isDay Γ post σ a := by
  refine law_X11_isDay ?_
  rw [e]
  by_cases c : rIsF a (nI T) 365 = 0
  · rw [c]; exact h0 (rIs_nor (lo := T) (hi := 365) (by decide) c)
  · obtain ⟨p, h2, h3, e⟩ := rIs_rg (lo := T) (hi := 365) (by decide) c (by omega)
    exact h1 p _ h2 h3 e c
theorem costF_cg {p : Nat} (hp : p < 10) (hh : ∃ t, t < 6 ∧ x (29 + p) 2 = nI t) (h1 : ∀ k j, 15 ≤ k → k < 73 → y k j = x k j) (h2 : ∀ j, j < 7 → y (73 + w) j = x (73 + w) j) : costF y p w = costF x p w := by
  obtain ⟨t, ht, e⟩ := hh
  unfold costF wayF
  rw [h1 (29 + p) 2 (by omega) (by omega), h1 (29 + p) 3 (by omega) (by omega), h2 2 (by decide), h2 4 (by decide), e, nI_clamp (by omega), h1 (23 + t) _ (by omega) (by omega)]
theorem costsF_cg {n : Nat} {s : Int32} (hn : n ≤ 10) (hh : ∀ p, p < n → ∃ t, t < 6 ∧ x (29 + p) 2 = nI t) (h1 : ∀ k j, 15 ≤ k → k < 73 → y k j = x k j) (h2 : ∀ j, j < 7 → y (73 + w) j = x (73 + w) j) : costsF y s w n = costsF x s w n := by
  unfold costsF
  exact sumI_congr (fun p hp => by
    show (if bt s p = true then costF y p w else 0) = (if bt s p = true then costF x p w else 0)
    rw [costF_cg (by omega) (hh p hp) h1 h2])
theorem sy_fixNow {post : MS → Prop} (O : rOk (tR x) Γ σ) (Y : Sy x) (hw : w < Γ.2.2.1) (e : a1 = nI w) (h : ∀ τ, rOk (tR (fxN x w Γ.1 a2)) Γ τ → kq σ τ → post τ) : w_X11_fixNow Γ post σ a1 a2 := by
  have hW := O.hW
  have hP := O.hP
  unfold w_X11_fixNow
  refine sf_wget O hw e ⟨⟨by omega, hw⟩, ?_⟩
  have O2 := RX.wd (v := a2) (RX.wd (v := 1) O hw (by decide) (show 7 < 12 by decide)) hw (by decide) (show 8 < 12 by decide)
  have ec : costsF (up2 (up2 x (73 + w) 7 1) (73 + w) 8 a2) a2 w Γ.1 = costsF x a2 w Γ.1 := costsF_cg hP (fun p hp => O.xhome hp) (fun k j h1 h2 => by rw [up2_off (by omega), up2_off (by omega)]) (fun j hj => by rw [up2_off (by omega), up2_off (by omega)])
  have Y2 : Sy (up2 (up2 x (73 + w) 7 1) (73 + w) 8 a2) := fun a b ha hb => by
    rw [up2_off (by omega), up2_off (by omega), up2_off (by omega), up2_off (by omega)]
    exact Y a b ha hb
  refine sy_costOf O2 Y2 hw ?_
  rw [ec]
  unfold w_X11_priceOf
  intro y8 h8
  have e5 : (costsF x a2 w Γ.1 * 6 / 5 + 50 : Int32) = priceI (costsF x a2 w Γ.1) := rfl
  rw [e5] at h8 ⊢
  rw [up2_same] at h8 ⊢
  rw [up2_off (by omega), up2_off (by omega), up2_off (by omega), up2_off (by omega), up2_same, O.csh] at h8
  rw [h8]
  have O3 := RX.csh (v := x 0 10 + priceI (costsF x a2 w Γ.1) / 5) (RX.wd (v := priceI (costsF x a2 w Γ.1) / 5) (RX.wd (v := priceI (costsF x a2 w Γ.1)) O2 hw (by decide) (show 9 < 12 by decide)) hw (by decide) (show 11 < 12 by decide))
  exact h _ O3 (((((kq.rf.up (by omega)).up (by omega)).up (by omega)).up (by omega)).up (by omega))
theorem lsF_at {y : MS} {w : Nat} : ∀ n k j, lsF y w n k j = if 73 ≤ k ∧ k < 73 + n ∧ j = 7 ∧ y k 7 = 0 ∧ y k 0 = y (73 + w) 0 ∧ y k 1 = y (73 + w) 1 then 3 else y k j
  | 0, k, j => by rw [if_neg (by omega)]; rfl
  | n + 1, k, j => by
    have ih := fun k j => lsF_at (y := y) (w := w) n k j
    have e7 : lsF y w n (73 + n) 7 = y (73 + n) 7 := by rw [ih, if_neg (by omega)]
    have e0 : lsF y w n (73 + n) 0 = y (73 + n) 0 := by rw [ih, if_neg (by omega)]
    have e1 : lsF y w n (73 + n) 1 = y (73 + n) 1 := by rw [ih, if_neg (by omega)]
    have f0 : lsF y w n (73 + w) 0 = y (73 + w) 0 := by rw [ih, if_neg (by omega)]
    have f1 : lsF y w n (73 + w) 1 = y (73 + w) 1 := by rw [ih, if_neg (by omega)]
    unfold lsF
    rw [e7, e0, e1, f0, f1]
    by_cases c : y (73 + n) 7 = 0 ∧ y (73 + n) 0 = y (73 + w) 0 ∧ y (73 + n) 1 = y (73 + w) 1
    · rw [if_pos c]
      by_cases z : k = 73 + n ∧ j = 7
      · obtain ⟨rfl, rfl⟩ := z
        rw [up2_same, if_pos ⟨by omega, by omega, rfl, c⟩]
      · rw [up2_off z, ih]
        by_cases g : 73 ≤ k ∧ k < 73 + n ∧ j = 7 ∧ y k 7 = 0 ∧ y k 0 = y (73 + w) 0 ∧ y k 1 = y (73 + w) 1
        · rw [if_pos g, if_pos ⟨g.1, by omega, g.2.2⟩]
        · rw [if_neg g, if_neg (fun q => g ⟨q.1, by omega, q.2.2⟩)]
    · rw [if_neg c, ih]
      by_cases g : 73 ≤ k ∧ k < 73 + n ∧ j = 7 ∧ y k 7 = 0 ∧ y k 0 = y (73 + w) 0 ∧ y k 1 = y (73 + w) 1
      · rw [if_pos g, if_pos ⟨g.1, by omega, g.2.2⟩]
      · rw [if_neg g, if_neg (fun q => by
          by_cases z : k = 73 + n
          · subst z; exact c q.2.2.2
          · exact g ⟨q.1, by omega, q.2.2⟩)]
theorem sy_fix77 {post : Int32 → MS → Prop} (O : rOk (tR y) Γ τ) (hw : w < Γ.2.2.1) (hz : τ 0 0 = 0) (h : ∀ τ', rOk (tR (lsF y w Γ.2.2.1)) Γ τ' → τ' 0 0 = 0 → post (y (73 + w) 9) τ') : ∃ k, u_X11_fix_77 Γ post a1 k (rw0 τ 64 (itR (τ 3 0))) w := by
  have hW := O.hW
  refine inv_loop (fun k (q : MS) => u_X11_fix_77 Γ post a1 k q w) (fun j q => itI (tR (lsF y w j)) Γ j q ∧ q 0 0 = 0) Γ.2.2.1 (fun τ I => ?_) (fun j k τ hj I ih => ?_) 0 (by omega) _ ⟨itI.start O, by rw [rw0_ne (by decide)]; exact hz⟩
  · show u_X11_fix_77 Γ post a1 1 τ w
    unfold u_X11_fix_77
    refine ⟨fun _ => ?_, fun c => absurd I.1.fin c⟩
    rw [I.1.1.wd (j := 9) hw (by decide), lsF_at, if_neg (by omega)]
    exact h _ I.1.1 I.2
  · have In := I.1.next
    have z0 : up2 (up2 τ 64 0 (nI (j + 1))) 64 1 (nI j) 0 0 = 0 := by rw [up2_off (by omega), up2_off (by omega)]; exact I.2
    have nx : ∀ {τ'}, itI (tR (lsF y w (j + 1))) Γ (j + 1) τ' → τ' 0 0 = 0 → u_X11_fix_77 Γ post a1 k τ' w := fun I' z => ih _ ⟨I', z⟩
    have keep : ¬ (lsF y w j (73 + j) 7 = 0 ∧ lsF y w j (73 + j) 0 = lsF y w j (73 + w) 0 ∧ lsF y w j (73 + j) 1 = lsF y w j (73 + w) 1) → u_X11_fix_77 Γ post a1 k (up2 (up2 τ 64 0 (nI (j + 1))) 64 1 (nI j)) w := fun c => nx (by
      have : lsF y w (j + 1) = lsF y w j := if_neg c
      rw [this]
      exact In) z0
    show u_X11_fix_77 Γ post a1 (k + 1) τ w
    unfold u_X11_fix_77
    refine ⟨fun c => absurd c (I.1.go hj), fun _ => ⟨j, ⟨I.1.2.1, hj⟩, I.1.2.2, I.1.1.w, ?_⟩⟩
    rw [In.1.wd (j := 7) hj (by decide), In.1.wd (j := 0) hj (by decide), In.1.wd (j := 1) hj (by decide), In.1.wd (j := 0) hw (by decide), In.1.wd (j := 1) hw (by decide)]
    refine ⟨fun c1 => ⟨fun c2 => ⟨fun c3 => nx ?_ ((up2_off (by omega)).trans z0), fun c3 => keep (fun q => c3 q.2.2)⟩, fun c2 => keep (fun q => c2 q.2.1)⟩, fun c1 => keep (fun q => c1 q.1)⟩
    have : lsF y w (j + 1) = up2 (lsF y w j) (73 + j) 7 3 := if_pos ⟨c1, c2, c3⟩
    rw [this]
    exact ⟨RX.wd In.1 hj (by decide) (by decide), (up2_off (by omega)).trans In.2.1, (up2_off (by omega)).trans (In.2.2.trans (up2_off (by omega)).symm)⟩
theorem pq_0 (hw : w < 14) : pq x w = 0 ↔ isFst x w = true := by
  have hle := ahead_le x w
  unfold pq isFst
  rw [decide_eq_true_iff]
  by_cases c1 : x (73 + w) 7 = 0
  · rw [if_pos c1]
    constructor
    · intro h
      refine ⟨c1, ?_⟩
      exact (nI_eq (by omega) (by decide)).mp (h.trans nI_0.symm)
    · rintro ⟨_, h⟩
      rw [h]
      exact nI_0
  · rw [if_neg c1]
    exact ⟨fun h => absurd h (by decide), fun h => absurd h.1 c1⟩
/-- the survey's finds in a wedding as things are -/
theorem sn_9 {P W : Nat} (hP : P ≤ 10) : svOk x w P (freeF (stg x W) w W P) 0 (2 ^ P - 1) (survF x w P (freeF (stg x W) w W P) 0, (svAll x w P (freeF (stg x W) w W P) 0).2) ∧ ∀ j, j < 6 → snF x w P W 9 j = survF x w P (freeF (stg x W) w W P) 0 9 j :=
  ⟨surv_is hP, fun j hj => by unfold snF; exact survF_sc (Scr.stg x W) hP j hj⟩
theorem sn_0 {P W : Nat} (hP : P ≤ 10) : snF x w P W 9 0 = bR x w P (freeF (stg x W) w W P) 0 (2 ^ P - 1) := by
  obtain ⟨h, e⟩ := sn_9 (x := x) (w := w) (W := W) hP
  rw [e 0 (by decide)]
  exact h.1
theorem sn_3 {P W : Nat} (hP : P ≤ 10) : snF x w P W 9 3 = nI (cR x w P (freeF (stg x W) w W P) (2 ^ P - 1)) := by
  obtain ⟨h, e⟩ := sn_9 (x := x) (w := w) (W := W) hP
  rw [e 3 (by decide)]
  exact h.2.1
theorem sn_no {P W : Nat} (hP : P ≤ 10) : snF x w P W 9 3 = 0 ↔ bR x w P (freeF (stg x W) w W P) 0 (2 ^ P - 1) = -1 := by
  obtain ⟨p1, p2⟩ := pw1024 hP
  rw [sn_3 hP, bR_none _ (by omega), ← cR_none]
  have := cR_le (x := x) (w := w) (P := P) (free := freeF (stg x W) w W P) (2 ^ P - 1)
  constructor
  · intro h; exact (nI_eq (by omega) (by decide)).mp (h.trans nI_0.symm)
  · intro h; rw [h]; exact nI_0
theorem sn_1 {P W : Nat} (hP : P ≤ 10) : snF x w P W 9 1 = if bR x w P (freeF (stg x W) w W P) 0 (2 ^ P - 1) = -1 then -1 else costsF x (bR x w P (freeF (stg x W) w W P) 0 (2 ^ P - 1)) w P := by
  obtain ⟨h, e⟩ := sn_9 (x := x) (w := w) (W := W) hP
  rw [e 1 (by decide)]
  split
  · rename_i c; exact h.2.2.2.1 c
  · rename_i c; exact (h.2.2.1 c).1
theorem fix_one {P W : Nat} (hP : P ≤ 10) (hW : W ≤ 14) (hw : w < W) (h7 : x (73 + w) 7 = 0) (h11 : x (73 + w) 11 = 0) (hb : ¬ bR x w P (freeF (stg x W) w W P) 0 (2 ^ P - 1) = -1) : ∀ a b, seen a b → fixS x w P W a b = lsF (fxN x w P (bR x w P (freeF (stg x W) w W P) 0 (2 ^ P - 1))) w W a b := by
  have e0 := sn_0 (x := x) (w := w) (W := W) hP
  have e1 := sn_1 (x := x) (w := w) (W := W) hP
  rw [if_neg hb] at e1
  have hsc := Scr.sn x w P W
  unfold fixS
  (try dsimp only)
  rw [show loseQ (snF x w P W) w W 9 = snF x w P W 9 from loseQ_k (by decide), e0, e1]
  generalize bR x w P (freeF (stg x W) w W P) 0 (2 ^ P - 1) = bb
  have hz : ∀ a b, seen a b → loseQ (snF x w P W) w W a b = if 73 ≤ a ∧ a < 73 + W ∧ a ≠ 73 + w ∧ (x a 7 = 0 ∧ x a 0 = x (73 + w) 0 ∧ x a 1 = x (73 + w) 1) ∧ b = 7 then 3 else x a b := fun a b hs => by
    have hc : snF x w P W a b = x a b := by rw [hsc a (by unfold seen at hs; omega)]
    unfold loseQ
    rw [hc]
    by_cases g : 73 ≤ a
    · obtain ⟨v, rfl⟩ : ∃ v, a = 73 + v := ⟨a - 73, by omega⟩
      rw [show 73 + v - 73 = v by omega, inQ_sc hsc]
      have hq : inQ x v w = true ↔ (x (73 + v) 7 = 0 ∧ x (73 + v) 0 = x (73 + w) 0 ∧ x (73 + v) 1 = x (73 + w) 1) := by
        unfold inQ
        rw [decide_eq_true_iff]
        exact ⟨fun q => ⟨q.1, q.2.2.1, q.2.2.2⟩, fun q => ⟨q.1, h7, q.2.1, q.2.2⟩⟩
      by_cases c : 73 ≤ 73 + v ∧ 73 + v < 73 + W ∧ 73 + v ≠ 73 + w ∧ inQ x v w = true ∧ b = 7
      · rw [if_pos c, if_pos ⟨c.1, c.2.1, c.2.2.1, hq.mp c.2.2.2.1, c.2.2.2.2⟩]
      · rw [if_neg c, if_neg (fun q => c ⟨q.1, q.2.1, q.2.2.1, hq.mpr q.2.2.2.1, q.2.2.2.2⟩)]
    · rw [if_neg (fun q => g q.1), if_neg (fun q => g q.1)]
  intro a b hs
  have hy : ∀ k j, fxN x w P bb k j = if k = 0 ∧ j = 10 then x 0 10 + priceI (costsF x bb w P) / 5 else if k = 73 + w ∧ j = 11 then priceI (costsF x bb w P) / 5 else if k = 73 + w ∧ j = 9 then priceI (costsF x bb w P) else if k = 73 + w ∧ j = 8 then bb else if k = 73 + w ∧ j = 7 then 1 else x k j := fun k j => by
    unfold fxN
    by_cases q1 : k = 0 ∧ j = 10
    · obtain ⟨rfl, rfl⟩ := q1; rw [up2_same, if_pos ⟨rfl, rfl⟩]
    rw [up2_off q1, if_neg q1]
    by_cases q2 : k = 73 + w ∧ j = 11
    · obtain ⟨rfl, rfl⟩ := q2; rw [up2_same, if_pos ⟨rfl, rfl⟩]
    rw [up2_off q2, if_neg q2]
    by_cases q3 : k = 73 + w ∧ j = 9
    · obtain ⟨rfl, rfl⟩ := q3; rw [up2_same, if_pos ⟨rfl, rfl⟩]
    rw [up2_off q3, if_neg q3]
    by_cases q4 : k = 73 + w ∧ j = 8
    · obtain ⟨rfl, rfl⟩ := q4; rw [up2_same, if_pos ⟨rfl, rfl⟩]
    rw [up2_off q4, if_neg q4]
    by_cases q5 : k = 73 + w ∧ j = 7
    · obtain ⟨rfl, rfl⟩ := q5; rw [up2_same, if_pos ⟨rfl, rfl⟩]
    rw [up2_off q5, if_neg q5]
  rw [lsF_at]
  have y7 : ∀ v, v ≠ w → fxN x w P bb (73 + v) 7 = x (73 + v) 7 := fun v hv => by rw [hy, if_neg (by omega), if_neg (by omega), if_neg (by omega), if_neg (by omega), if_neg (by omega)]
  have y01 : ∀ v j, j < 7 → fxN x w P bb (73 + v) j = x (73 + v) j := fun v j hj => by rw [hy, if_neg (by omega), if_neg (by omega), if_neg (by omega), if_neg (by omega), if_neg (by omega)]
  have yw : fxN x w P bb (73 + w) 7 = 1 := by rw [hy, if_neg (by omega), if_neg (by omega), if_neg (by omega), if_neg (by omega), if_pos ⟨rfl, rfl⟩]
  have hcond : (73 ≤ a ∧ a < 73 + W ∧ b = 7 ∧ fxN x w P bb a 7 = 0 ∧ fxN x w P bb a 0 = fxN x w P bb (73 + w) 0 ∧ fxN x w P bb a 1 = fxN x w P bb (73 + w) 1) ↔ (73 ≤ a ∧ a < 73 + W ∧ a ≠ 73 + w ∧ (x a 7 = 0 ∧ x a 0 = x (73 + w) 0 ∧ x a 1 = x (73 + w) 1) ∧ b = 7) := by
    by_cases g : 73 ≤ a
    · obtain ⟨v, rfl⟩ : ∃ v, a = 73 + v := ⟨a - 73, by omega⟩
      rw [y01 v 0 (by decide), y01 v 1 (by decide), y01 w 0 (by decide), y01 w 1 (by decide)]
      by_cases e : v = w
      · subst e
        rw [yw]
        exact ⟨fun q => absurd q.2.2.2.1 (by decide), fun q => absurd rfl q.2.2.1⟩
      · rw [y7 v e]
        exact ⟨fun q => ⟨q.1, q.2.1, by omega, q.2.2.2, q.2.2.1⟩, fun q => ⟨q.1, q.2.1, q.2.2.2.2, q.2.2.2.1⟩⟩
    · exact ⟨fun q => absurd q.1 g, fun q => absurd q.1 g⟩
  have k10 : loseQ (snF x w P W) w W 0 10 = x 0 10 := by rw [hz 0 10 (by unfold seen; omega), if_neg (by omega)]
  have k11 : loseQ (snF x w P W) w W (73 + w) 11 = x (73 + w) 11 := by rw [hz (73 + w) 11 (by unfold seen; omega), if_neg (by omega)]
  have hab := hz a b hs
  generalize loseQ (snF x w P W) w W = z at k10 k11 hab
  unfold paidF
  rw [up2_off (σ := up2 (up2 z (73 + w) 7 1) (73 + w) 8 bb) (k' := 73 + w) (j' := 11) (by omega), up2_off (σ := up2 z (73 + w) 7 1) (k' := 73 + w) (j' := 11) (by omega), up2_off (σ := z) (k' := 73 + w) (j' := 11) (by omega), k11, h11, up2_off (σ := up2 (up2 z (73 + w) 7 1) (73 + w) 8 bb) (k' := 0) (j' := 10) (by omega), up2_off (σ := up2 z (73 + w) 7 1) (k' := 0) (j' := 10) (by omega), up2_off (σ := z) (k' := 0) (j' := 10) (by omega), k10, Int32.zero_add]
  by_cases q1 : a = 0 ∧ b = 10
  · obtain ⟨rfl, rfl⟩ := q1
    rw [up2_same, if_neg (by omega), hy, if_pos ⟨rfl, rfl⟩]
  rw [up2_off q1]
  by_cases q2 : a = 73 + w ∧ b = 11
  · obtain ⟨rfl, rfl⟩ := q2
    rw [up2_same, if_neg (by omega), hy, if_neg (by omega), if_pos ⟨rfl, rfl⟩]
  rw [up2_off q2]
  by_cases q3 : a = 73 + w ∧ b = 9
  · obtain ⟨rfl, rfl⟩ := q3
    rw [up2_same, if_neg (by omega), hy, if_neg (by omega), if_neg (by omega), if_pos ⟨rfl, rfl⟩]
  rw [up2_off q3]
  by_cases q4 : a = 73 + w ∧ b = 8
  · obtain ⟨rfl, rfl⟩ := q4
    rw [up2_same, if_neg (by omega), hy, if_neg (by omega), if_neg (by omega), if_neg (by omega), if_pos ⟨rfl, rfl⟩]
  rw [up2_off q4]
  by_cases q5 : a = 73 + w ∧ b = 7
  · obtain ⟨rfl, rfl⟩ := q5
    rw [up2_same, if_neg (fun q => (hcond.mp q).2.2.1 rfl), yw]
  have hfin : fxN x w P bb a b = x a b := by rw [hy, if_neg q1, if_neg q2, if_neg q3, if_neg q4, if_neg q5]
  rw [up2_off q5, hab]
  by_cases g : 73 ≤ a ∧ a < 73 + W ∧ a ≠ 73 + w ∧ (x a 7 = 0 ∧ x a 0 = x (73 + w) 0 ∧ x a 1 = x (73 + w) 1) ∧ b = 7
  · rw [if_pos g, if_pos (hcond.mpr g)]
  · rw [if_neg g, if_neg (fun q => g (hcond.mp q)), hfin]
theorem sy_fix {post : Int32 → MS → Prop} (O : rOk (tR x) Γ σ) (Y : Sy x) (S : Sh x Γ) (G : Gs x) (PA : ∀ w, w < 14 → x (73 + w) 7 = 0 → x (73 + w) 11 = 0)
    (h1 : (∀ w, w < Γ.2.2.1 → a1 ≠ nI w) → ∀ τ, rOk (tR x) Γ τ → τ 0 0 = 1 → post 0 τ)
    (h2 : ∀ w, w < Γ.2.2.1 → a1 = nI w → (isFst x w = false ∨ snF x w Γ.1 Γ.2.2.1 9 3 = 0) → ∀ τ, rOk (tR x) Γ τ → τ 0 0 = 2 → post 0 τ)
    (h3 : ∀ w, w < Γ.2.2.1 → a1 = nI w → isFst x w = true → ¬ snF x w Γ.1 Γ.2.2.1 9 3 = 0 → ∀ τ, rOk (tR (fixS x w Γ.1 Γ.2.2.1)) Γ τ → τ 0 0 = 0 → post (fixS x w Γ.1 Γ.2.2.1 (73 + w) 9) τ) : w_X11_fix Γ post σ a1 := by
  have hW := O.hW
  have hP := O.hP
  have O0 := O.up (k := 0) (j := 0) (v := 0) (by unfold rPr; omega)
  unfold w_X11_fix
  refine sx_isWedding O0 (fun no => ⟨fun _ => sx_refuse O0 (h1 no), fun c => absurd rfl c⟩) (fun w r hw e hr => ⟨fun c => absurd c hr, fun _ => ?_⟩)
  have h2 := h2 w hw e
  have h3 := h3 w hw e
  have hno := sn_no (x := x) (w := w) (W := Γ.2.2.1) hP
  refine sy_place O0 hw e ⟨fun c => sy_best O0 Y S G hw e ?_, fun c => ?_⟩
  · rw [and_all]
    have hf := (pq_0 (by omega)).mp c
    have f0 := (of_decide_eq_true hf).1
    unfold u_X11_fix_38
    refine ⟨fun d => sx_refuse O0 (h2 (Or.inr (hno.mpr d))), fun d => sy_fixNow O0 Y hw e (fun τ O1 k1 => sf_wget O1 hw e ⟨⟨by omega, hw⟩, sy_fix77 O1 hw (k1.1.trans up2_same) (fun τ' O2 z => ?_)⟩)⟩
    have hc := fix_one hP hW hw f0 (PA w (by omega) f0) d
    have e9 := hc (73 + w) 9 (by unfold seen; omega)
    rw [lsF_at, if_neg (by omega)] at e9
    have := h3 hf (fun z => d (hno.mp z)) τ' (RX.cg O2 hc) z
    rw [e9] at this
    exact this
  · have hf : isFst x w = false := Bool.eq_false_iff.mpr (fun z => c ((pq_0 (by omega)).mpr z))
    unfold u_X11_fix_38
    exact ⟨fun _ => sx_refuse O0 (h2 (Or.inl hf)), fun d => absurd rfl d⟩
theorem sy_cancel {post : Int32 → MS → Prop} (O : rOk (tR x) Γ σ) (PA : ∀ w, w < 14 → x (73 + w) 7 = 0 → x (73 + w) 11 = 0) (St : ∀ w, w < Γ.2.2.1 → ∃ n, n ≤ 3 ∧ x (73 + w) 7 = nI n)
    (h1 : (∀ w, w < Γ.2.2.1 → a1 ≠ nI w) → ∀ τ, rOk (tR x) Γ τ → τ 0 0 = 1 → post 0 τ)
    (h2 : ∀ w, w < Γ.2.2.1 → a1 = nI w → ¬ (x (73 + w) 7 = 0 ∨ x (73 + w) 7 = 1) → ∀ τ, rOk (tR x) Γ τ → τ 0 0 = 2 → post 0 τ)
    (h3 : ∀ w, w < Γ.2.2.1 → a1 = nI w → (x (73 + w) 7 = 0 ∨ x (73 + w) 7 = 1) → ∀ τ, rOk (tR (canS x w)) Γ τ → τ 0 0 = 0 → post (if x (73 + w) 7 = 1 then owedF x w else 0) τ) : w_X11_cancel Γ post σ a1 := by
  have hW := O.hW
  have O0 := O.up (k := 0) (j := 0) (v := 0) (by unfold rPr; omega)
  unfold w_X11_cancel
  refine sx_isWedding O0 (fun no => ⟨fun _ => sx_refuse O0 (h1 no), fun c => absurd rfl c⟩) (fun w r hw e hr => ⟨fun c => absurd c hr, fun _ => sf_wget O0 hw e ⟨⟨by omega, hw⟩, ?_⟩⟩)
  have h2 := h2 w hw e
  have h3 := h3 w hw e
  obtain ⟨n, hn, en⟩ := St w hw
  rw [O0.wd (j := 7) hw (by decide)]
  have hle : x (73 + w) 7 ≤ 1 ↔ (x (73 + w) 7 = 0 ∨ x (73 + w) 7 = 1) := by
    rw [en]
    have : ∀ n, n < 4 → (nI n ≤ 1 ↔ (nI n = 0 ∨ nI n = 1)) := by decide
    exact this n (by omega)
  refine ⟨fun c => ⟨fun c1 => sy_owed O0 hw ?_, fun c1 => ?_⟩, fun c => sx_refuse O0 (h2 (fun z => c (hle.mpr z)))⟩
  · have h3 := h3 (Or.inr c1)
    rw [if_pos c1] at h3
    unfold u_X11_cancel_62
    intro y9 h9
    rw [up2_off (by omega)] at h9
    rw [h9]
    refine h3 _ ?_ (by rw [up2_off (by omega), up2_off (by omega), up2_off (by omega), up2_same])
    rw [O0.wd (j := 11) hw (by decide), O0.csh]
    unfold canS paidF
    rw [if_pos c1]
    exact RX.wd (RX.csh (RX.wd O0 hw (by decide) (by decide))) hw (by decide) (by decide)
  · have c0 := ((hle.mp c).resolve_right c1)
    have h3 := h3 (Or.inl c0)
    rw [if_neg c1] at h3
    unfold u_X11_cancel_62
    intro y9 h9
    rw [up2_off (by omega)] at h9
    rw [h9]
    refine h3 _ ?_ (by rw [up2_off (by omega), up2_off (by omega), up2_off (by omega), up2_same])
    have p0 := PA w (by omega) c0
    rw [O0.wd (j := 11) hw (by decide), O0.csh, p0, show (if (0 : Int32) < 0 - 0 then (0 - 0 : Int32) else 0) = 0 by decide, Int32.add_zero, Int32.add_zero]
    refine RX.cg (RX.wd (v := 3) (RX.csh (v := x 0 10) (RX.wd (v := 0) O0 hw (by decide) (show 11 < 12 by decide))) hw (by decide) (show 7 < 12 by decide)) (fun a b hs => ?_)
    unfold canS
    rw [if_neg c1]
    by_cases q : a = 73 + w ∧ b = 7
    · obtain ⟨rfl, rfl⟩ := q; rw [up2_same, up2_same]
    rw [up2_off q, up2_off q]
    by_cases q1 : a = 0 ∧ b = 10
    · obtain ⟨rfl, rfl⟩ := q1; rw [up2_same]
    rw [up2_off q1]
    by_cases q2 : a = 73 + w ∧ b = 11
    · obtain ⟨rfl, rfl⟩ := q2; rw [up2_same, p0]
    rw [up2_off q2]
theorem sy_late {post : Int32 → MS → Prop} (O : rOk (tR x) Γ σ)
    (h1 : (∀ w, w < Γ.2.2.1 → a1 ≠ nI w) → ∀ τ, rOk (tR x) Γ τ → τ 0 0 = 1 → post 0 τ)
    (h2 : ∀ w, w < Γ.2.2.1 → a1 = nI w → ¬ (¬ a2 < 0 ∧ a2 ≤ 240) → ∀ τ, rOk (tR x) Γ τ → τ 0 0 = 2 → post 0 τ)
    (h4 : ∀ w, w < Γ.2.2.1 → a1 = nI w → (¬ a2 < 0 ∧ a2 ≤ 240) → ¬ x (73 + w) 7 = 1 → ∀ τ, rOk (tR x) Γ τ → τ 0 0 = 3 → post 0 τ)
    (h3 : ∀ w, w < Γ.2.2.1 → a1 = nI w → (¬ a2 < 0 ∧ a2 ≤ 240) → x (73 + w) 7 = 1 → ∀ τ, rOk (tR (up2 x (73 + w) 10 a2)) Γ τ → τ 0 0 = 0 → post (quF (up2 x (73 + w) 10 a2) w) τ) : w_X11_late Γ post σ a1 a2 := by
  have hW := O.hW
  have O0 := O.up (k := 0) (j := 0) (v := 0) (by unfold rPr; omega)
  unfold w_X11_late
  refine sx_isWedding O0 (fun no => ⟨fun _ => sx_refuse O0 (h1 no), fun c => absurd rfl c⟩) (fun w r hw e hr => ⟨fun c => absurd c hr, fun _ => law_X11_is ⟨fun c => sx_refuse O0 (h2 w hw e (fun z => ?_)), fun c => ?_⟩⟩)
  · rcases rIsF_0.mp c with q | q
    · exact z.1 q
    · exact absurd z.2 (Int32.not_le.mpr q)
  · have ok : ¬ a2 < 0 ∧ a2 ≤ 240 := ⟨fun q => c (rIsF_0.mpr (Or.inl q)), Int32.not_lt.mp (fun q => c (rIsF_0.mpr (Or.inr q)))⟩
    refine sf_wget O0 hw e ⟨⟨by omega, hw⟩, ?_⟩
    rw [O0.wd (j := 7) hw (by decide)]
    refine ⟨fun c1 => ?_, fun c1 => sx_refuse O0 (h4 w hw e ok c1)⟩
    have O1 := RX.wd (v := a2) O0 hw (by decide) (show 10 < 12 by decide)
    exact sy_quarters O1 hw (h3 w hw e ok c1 _ O1 (by rw [up2_off (by omega), up2_same]))
theorem sy_wouldCancel {post : Int32 → MS → Prop} (O : rOk (tR x) Γ σ) (Y : Sy x)
    (h1 : (∀ w, w < Γ.2.2.1 → a1 ≠ nI w) → ∀ τ, rOk (tR x) Γ τ → τ 0 0 = 1 → post 0 τ)
    (h2 : ∀ w, w < Γ.2.2.1 → a1 = nI w → ¬ x (73 + w) 7 = 1 → ∀ τ, rOk (tR x) Γ τ → τ 0 0 = 2 → post 0 τ)
    (h3 : ∀ w, w < Γ.2.2.1 → a1 = nI w → x (73 + w) 7 = 1 → ∀ τ, rOk (tR x) Γ τ → τ 0 0 = 0 → post (wcF x w Γ.1) τ) : w_X11_wouldCancel Γ post σ a1 := by
  have hW := O.hW
  have O0 := O.up (k := 0) (j := 0) (v := 0) (by unfold rPr; omega)
  unfold w_X11_wouldCancel
  refine sx_isWedding O0 (fun no => ⟨fun _ => sx_refuse O0 (h1 no), fun c => absurd rfl c⟩) (fun w r hw e hr => ⟨fun c => absurd c hr, fun _ => sf_wget O0 hw e ⟨⟨by omega, hw⟩, ?_⟩⟩)
  rw [O0.wd (j := 7) hw (by decide)]
  refine ⟨fun c1 => sy_owed O0 hw (sy_gain O0 Y hw ?_), fun c1 => sx_refuse O0 (h2 w hw e c1)⟩
  rw [O0.wd (j := 11) hw (by decide)]
  exact h3 w hw e c1 _ O0 up2_same
end FIXB
end
