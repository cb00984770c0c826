/-! SEATS: the reference search, one depth more -/
section SEATS3
variable {Tm : MS} {Γ : RG} {σ : MS} {a1 a2 a3 a4 : Int32}
theorem sx_cp1_in {post : Int32 → MS → Prop} {K35 : MS → Int32 → Int32 → Prop} {v5 v6 : Int32} {p : Nat} (O : rOk Tm Γ σ) (hs : shp a2) (e : a3 = nI 1) (e5 : v5 = 2) (hp : p < Γ.1) (hS : fS a1 a4 p) (hI : iR σ p 1) (h : (∃ q, p < q ∧ q < Γ.1 ∧ gd2 σ Γ.1 1 (rpl a2 4) (fS a1 a4) p q) → post 1 σ) (hK : (¬ ∃ q, p < q ∧ q < Γ.1 ∧ gd2 σ Γ.1 1 (rpl a2 4) (fS a1 a4) p q) → K35 σ v5 (v6 + 1)) : ∃ k, u_K1_X11_canPlay_123 Γ post a1 a2 a3 a4 K35 k σ v5 v6 (a4 ||| one p) (nI (p + 1)) := by
  have hP := O.hP
  subst e
  refine inv_loop (fun k (v : Int32) => u_K1_X11_canPlay_123 Γ post a1 a2 (nI 1) a4 K35 k σ v5 v6 (a4 ||| one p) v) (fun j v => v = nI j ∧ p < j ∧ ∀ q, p < q → q < j → ¬ gd2 σ Γ.1 1 (rpl a2 4) (fS a1 a4) p q) Γ.1 ?_ ?_ (p + 1) hp (nI (p + 1)) ⟨rfl, by omega, fun q h1 h2 => by omega⟩
  · rintro _ ⟨rfl, -, hno⟩
    show u_K1_X11_canPlay_123 Γ post a1 a2 (nI 1) a4 K35 1 σ v5 v6 (a4 ||| one p) (nI Γ.1)
    unfold u_K1_X11_canPlay_123 w_lp_Jx4a65c_size_8abf5
    rw [O.p]
    exact ⟨fun _ => hK (fun ⟨q, h1, h2, h3⟩ => hno q h1 h2 h3), fun c => absurd (le_self _) c⟩
  · rintro j k _ hj ⟨rfl, lt, hno⟩ ih
    have hgo : ¬ gd2 σ Γ.1 1 (rpl a2 4) (fS a1 a4) p j ∨ ¬ p < j → u_K1_X11_canPlay_123 Γ post a1 a2 (nI 1) a4 K35 k σ v5 v6 (a4 ||| one p) (nI j + 1) := fun g => ih _ ⟨nI_1 j, by omega, fun q h1 h2 => by
      rcases Nat.eq_or_lt_of_le (Nat.le_of_lt_succ h2) with z | z
      · subst z
        rcases g with g | g
        · exact g
        · exact absurd h1 g
      · exact hno q h1 z⟩
    show u_K1_X11_canPlay_123 Γ post a1 a2 (nI 1) a4 K35 (k + 1) σ v5 v6 (a4 ||| one p) (nI j)
    unfold u_K1_X11_canPlay_123 w_lp_Jx4a65c_size_8abf5
    rw [O.p]
    have w1 : bt (a1 &&& ((a4 ||| one p) ^^^ (-1))) j = true ↔ fS a1 a4 j ∧ j ≠ p := fS_with (by omega) (by omega)
    refine ⟨fun c => absurd c (nI_ge hj (by omega)), fun _ => ⟨fun _ => sx_isIn (by omega) ⟨fun c => hgo (Or.inl (fun g => ?_)), fun c => sf_pget O hj rfl ⟨⟨by omega, hj⟩, ?_⟩⟩, fun c => absurd e5 c⟩⟩
    · have := w1.mpr g.2.2.1
      rw [b01_0.mp c] at this
      cases this
    · have hSj := w1.mp (b01_1.mp c)
      refine sx_isIn (by omega) ⟨fun d => hgo (Or.inl (fun g => ?_)), fun d => ?_⟩
      · have := g.2.2.2.1
        unfold iR at this
        rw [b01_0.mp d] at this
        cases this
      · have hIj : iR σ j 1 := b01_1.mp d
        have cg : can (iR σ) Γ.1 (rpl a2 4) (fS a1 (a4 ||| one p ||| (1 <<< (nI j &&& 31)))) ↔ can (iR σ) Γ.1 (rpl a2 4) (fun r => (fS a1 a4 r ∧ r ≠ p) ∧ r ≠ j) := can_cg _ (fun r hr => by
          rw [show (a4 ||| one p ||| (1 <<< (nI j &&& 31)) : Int32) = (a4 ||| one p) ||| one j from rfl, fS_with (by omega) (by omega), fS_with (by omega) (by omega)])
        exact sx_cp2 O hs (by decide) (fun g => ⟨fun z => absurd z (by decide), fun _ => h ⟨j, lt, hj, hS, hI, hSj, hIj, cg.mp g⟩⟩) (fun g => ⟨fun _ => hgo (Or.inl (fun y => g (cg.mpr y.2.2.2.2))), fun z => absurd rfl z⟩)
theorem sx_cp1 {post : Int32 → MS → Prop} (O : rOk Tm Γ σ) (hs : shp a2) (e : a3 = nI 1) (h1 : can (iR σ) Γ.1 (rpl a2 5) (fS a1 a4) → post 1 σ) (h0 : ¬ can (iR σ) Γ.1 (rpl a2 5) (fS a1 a4) → post 0 σ) : w_K1_X11_canPlay Γ post σ a1 a2 a3 a4 := by
  have hP := O.hP
  have ep : rpl a2 5 = seatsOf (rNeed a2 1) 1 ++ rpl a2 4 := rpl_s a2 4
  unfold w_K1_X11_canPlay
  subst e
  refine ⟨fun c => absurd c (by decide), fun _ => ?_⟩
  refine law_X11_needed (j := 1) (by decide) ⟨fun r0 => ?_, fun r0 => ?_⟩
  · rw [ep, r0, seatsOf_0, List.nil_append] at h1 h0
    exact sx_cp2 O hs (by decide) (fun g => ⟨rfl, h1 g⟩) (fun g => ⟨rfl, h0 g⟩)
  · have hr : rNeed a2 1 = 1 ∨ rNeed a2 1 = 2 := (hs 1 (by decide)).resolve_left r0
    -- none of the first i can begin
    have := inv_loop (fun k (v : Int32) => u_K1_X11_canPlay_35 Γ post a1 a2 (nI 1) a4 k σ (rNeed a2 1) v) (fun i v => v = nI i ∧ ∀ p, p < i → (rNeed a2 1 = 1 → ¬ gd1 σ Γ.1 1 (rpl a2 4) (fS a1 a4) p) ∧ (rNeed a2 1 = 2 → ¬ ∃ q, p < q ∧ q < Γ.1 ∧ gd2 σ Γ.1 1 (rpl a2 4) (fS a1 a4) p q)) Γ.1 (by
      rintro _ ⟨rfl, hno⟩
      show u_K1_X11_canPlay_35 Γ post a1 a2 (nI 1) a4 1 σ (rNeed a2 1) (nI Γ.1)
      unfold u_K1_X11_canPlay_35 w_lp_Jx4a65c_size_8abf5
      rw [O.p]
      refine ⟨fun _ => h0 (fun g => ?_), fun c => absurd (le_self _) c⟩
      rw [ep] at g
      rcases hr with r | r
      · rw [r, seatsOf_1] at g
        obtain ⟨p, hp, hg⟩ := can_one.mp g
        exact (hno p hp).1 r hg
      · rw [r, seatsOf_2] at g
        obtain ⟨p, q, hpq, hq, hg⟩ := can_two.mp g
        exact (hno p (by omega)).2 r ⟨q, hpq, hq, hg⟩) (by
      rintro i k _ hi ⟨rfl, hno⟩ ih
      have nx : ((rNeed a2 1 = 1 → ¬ gd1 σ Γ.1 1 (rpl a2 4) (fS a1 a4) i) ∧ (rNeed a2 1 = 2 → ¬ ∃ q, i < q ∧ q < Γ.1 ∧ gd2 σ Γ.1 1 (rpl a2 4) (fS a1 a4) i q)) → u_K1_X11_canPlay_35 Γ post a1 a2 (nI 1) a4 k σ (rNeed a2 1) (nI i + 1) := fun g => ih _ ⟨nI_1 i, fun p hp => by
        rcases Nat.eq_or_lt_of_le (Nat.le_of_lt_succ hp) with z | z
        · rw [z]; exact g
        · exact hno p z⟩
      show u_K1_X11_canPlay_35 Γ post a1 a2 (nI 1) a4 (k + 1) σ (rNeed a2 1) (nI i)
      unfold u_K1_X11_canPlay_35 w_lp_Jx4a65c_size_8abf5
      rw [O.p]
      refine ⟨fun c => absurd c (nI_ge hi (by omega)), fun _ => sx_isIn (by omega) ⟨fun c => nx ?_, fun c => sf_pget O hi rfl ⟨⟨by omega, hi⟩, sx_isIn (by omega) ⟨fun d => nx ?_, fun d => ?_⟩⟩⟩⟩
      · have no : ¬ fS a1 a4 i := fun z => by
          unfold fS at z
          rw [b01_0.mp c] at z
          cases z
        exact ⟨fun _ g => no g.1, fun _ ⟨q, _, _, g⟩ => no g.1⟩
      · have no : ¬ iR σ i 1 := fun z => by
          unfold iR at z
          rw [b01_0.mp d] at z
          cases z
        exact ⟨fun _ g => no g.2.1, fun _ ⟨q, _, _, g⟩ => no g.2.1⟩
      · have hS : fS a1 a4 i := b01_1.mp c
        have hI : iR σ i 1 := b01_1.mp d
        have cg : can (iR σ) Γ.1 (rpl a2 4) (fS a1 (a4 ||| (1 <<< (nI i &&& 31)))) ↔ can (iR σ) Γ.1 (rpl a2 4) (fun r => fS a1 a4 r ∧ r ≠ i) := can_cg _ (fun r hr => by
          rw [show (a4 ||| (1 <<< (nI i &&& 31)) : Int32) = a4 ||| one i from rfl, fS_with (by omega) (by omega)])
        refine ⟨fun r1 => ?_, fun r1 => ?_⟩
        · -- one place: this one takes it, or none with it; the inner loop finds none
          have r2 : ¬ rNeed a2 1 = 2 := fun z => by rw [r1] at z; exact absurd z (by decide)
          have skip : (¬ gd1 σ Γ.1 1 (rpl a2 4) (fS a1 a4) i) → ∃ n, u_K1_X11_canPlay_123 Γ post a1 a2 (nI 1) a4 (fun σ w0 w1 => u_K1_X11_canPlay_35 Γ post a1 a2 (nI 1) a4 k σ w0 w1) n σ (rNeed a2 1) (nI i) (a4 ||| (1 <<< (nI i &&& 31))) (nI i + 1) := fun g => by
            refine ⟨1, ?_⟩
            unfold u_K1_X11_canPlay_123 w_lp_Jx4a65c_size_8abf5
            have n1 := nx ⟨fun _ => g, fun z => absurd z r2⟩
            exact ⟨fun _ => n1, fun _ => ⟨fun z => absurd z r2, fun _ => n1⟩⟩
          exact sx_cp2 O hs (by decide) (fun g => ⟨fun z => absurd z (by decide), fun _ => h1 (by rw [ep, r1, seatsOf_1]; exact can_one.mpr ⟨i, hi, hS, hI, cg.mp g⟩)⟩) (fun g => ⟨fun _ => skip (fun y => g (cg.mpr y.2.2)), fun z => absurd rfl z⟩)
        · have r2 := hr.resolve_left r1
          have inn := sx_cp1_in (post := post) (K35 := fun σ w0 w1 => u_K1_X11_canPlay_35 Γ post a1 a2 (nI 1) a4 k σ w0 w1) (v6 := nI i) O hs (a3 := nI 1) rfl r2 hi hS hI (fun g => h1 (by
            rw [ep, r2, seatsOf_2]
            obtain ⟨q, g1, g2, g3⟩ := g
            exact can_two.mpr ⟨i, q, g1, g2, g3⟩)) (fun g => nx ⟨fun z => absurd z r1, fun _ => g⟩)
          rw [nI_1]
          exact inn) 0 (by omega) 0 ⟨nI_0.symm, fun p hp => absurd hp (Nat.not_lt_zero _)⟩
    exact this
end SEATS3
