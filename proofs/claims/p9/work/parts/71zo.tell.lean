/-! BANDS TOLD, A NEW ONE, ON BOTH SIDES -/
/-- the places of the first n instruments of a shape -/
def frS (a : Int32) : Nat → List Nat
  | 0 => []
  | n + 1 => frS a n ++ seatsOf (rNeed a n) n
/-- how many players the first n instruments want -/
def smN (m : Nat) : Nat → Nat
  | 0 => 0
  | n + 1 => smN m n + m / 3 ^ n % 3
section TELLC
variable {x y z : MS} {Tm : MS} {Γ : RG} {σ τ ρ : MS} {lay : Nat → Nat} {a a0 a1 a2 a3 a4 a5 a6 b c : Int32} {w P B W T : Nat}
theorem plcs_s {b m : Nat} : plcs y b (m + 1) = plcs y b m ++ [pl y b m] := by
  unfold plcs
  rw [List.range_succ, List.map_append]
  rfl
theorem plcs_cg {b m : Nat} (h : ∀ j, j < m → pl z b j = pl y b j) : plcs z b m = plcs y b m := by
  unfold plcs
  exact List.map_congr_left (fun j hj => h j (List.mem_range.mp hj))
theorem tkI_add {b k s : Nat} (hb : b < 6) (hk : k < 6) (h : y (55 + b) 2 = nI s) : ∀ n, s + n ≤ 5 → tkI y b k n (55 + b) 2 = nI (s + n) ∧ plcs (tkI y b k n) b (s + n) = plcs y b s ++ List.replicate n k
  | 0, _ => ⟨h, (List.append_nil _).symm⟩
  | n + 1, hn => by
    obtain ⟨i1, i2⟩ := tkI_add (k := k) hb hk h n (by omega)
    have e : tkI y b k (n + 1) = if 5 ≤ tkI y b k n (55 + b) 2 then tkI y b k n else up2 (up2 (tkI y b k n) (67 + b) (tkI y b k n (55 + b) 2).toNatClampNeg (nI k)) (55 + b) 2 (tkI y b k n (55 + b) 2 + 1) := rfl
    have g5 : ¬ (5 : Int32) ≤ nI (s + n) := fun c => nI_ge (show s + n < 5 by omega) (by decide) (show nI 5 ≤ nI (s + n) from c)
    rw [e, i1, if_neg g5, nI_clamp (by omega), nI_1, ← Nat.add_assoc]
    refine ⟨up2_same, ?_⟩
    rw [plcs_s, plcs_cg (y := tkI y b k n) (fun j hj => ?_), i2, List.replicate_succ', List.append_assoc]
    · congr 2
      unfold pl
      rw [up2_off (by omega), up2_same, nI_clamp (by omega)]
    · unfold pl
      rw [up2_off (by omega), up2_off (by omega)]
theorem rD3_n {m : Nat} (hm : m ≤ 728) : ∀ n, rD3 (nI m) n = nI (m / 3 ^ n)
  | 0 => by rw [Nat.pow_zero, Nat.div_one]; rfl
  | n + 1 => by
    show rD3 (nI m) n / 3 = _
    rw [rD3_n hm n, (dv3 _ (Nat.le_trans (Nat.div_le_self _ _) hm)).1, Nat.pow_succ, Nat.div_div_eq_div_mul]
theorem rNeed_n {m : Nat} (hm : m ≤ 728) (n : Nat) : rNeed (nI m) n = nI (m / 3 ^ n % 3) := by
  unfold rNeed
  rw [rD3_n hm n]
  exact (dv3 _ (Nat.le_trans (Nat.div_le_self _ _) hm)).2
theorem rNeeds_n {m : Nat} (hm : m ≤ 728) : ∀ n, rNeeds (nI m) n = nI (smN m n)
  | 0 => nI_0.symm
  | n + 1 => by
    show rNeeds (nI m) n + rNeed (nI m) n = nI (smN m n + m / 3 ^ n % 3)
    rw [rNeeds_n hm n, rNeed_n hm n, nI_add]
theorem smN_up {m : Nat} : ∀ {n k : Nat}, n ≤ k → smN m n ≤ smN m k := by
  intro n k h
  induction k with
  | zero => obtain rfl : n = 0 := by omega
            exact Nat.le_refl _
  | succ k ih =>
    rcases Nat.eq_or_lt_of_le h with e | e
    · rw [e]; exact Nat.le_refl _
    · exact Nat.le_trans (ih (by omega)) (Nat.le_add_right _ _)
theorem smN_12 {m : Nat} : ∀ n, smN m n ≤ 2 * n
  | 0 => Nat.le_refl _
  | n + 1 => by
    have := smN_12 (m := m) n
    have : m / 3 ^ n % 3 < 3 := Nat.mod_lt _ (by decide)
    show smN m n + m / 3 ^ n % 3 ≤ _
    omega
theorem seatsOf_r {q k : Nat} (h : q < 3) : seatsOf (nI q) k = List.replicate q k := by
  rcases (by omega : q = 0 ∨ q = 1 ∨ q = 2) with e | e | e
  · subst e; exact seatsOf_0 k
  · subst e; exact seatsOf_1 k
  · subst e; exact seatsOf_2 k
theorem tkO_fr {b m : Nat} (hb : b < 6) (hm : m ≤ 728) (h5 : smN m 6 ≤ 5) (h0 : x (55 + b) 2 = nI 0) : ∀ n, n ≤ 6 → (tkO x b (nI m) n).1 (55 + b) 2 = nI (smN m n) ∧ plcs (tkO x b (nI m) n).1 b (smN m n) = frS (nI m) n ∧ ∀ k, k < n → (tkO x b (nI m) n).1 (61 + b) k = rNeed (nI m) k
  | 0, _ => ⟨h0, rfl, fun k hk => absurd hk (by omega)⟩
  | n + 1, hn => by
    obtain ⟨i1, i2, i3⟩ := tkO_fr hb hm h5 h0 n (by omega)
    have e2 := tkO_2 (x := x) (b := b) hm n
    have hle : m / 3 ^ n ≤ 728 := Nat.le_trans (Nat.div_le_self _ _) hm
    have d := (dv3 _ hle).2
    have q3 : m / 3 ^ n % 3 < 3 := Nat.mod_lt _ (by decide)
    have su := smN_up (m := m) (n := n + 1) (k := 6) hn
    have es : smN m (n + 1) = smN m n + m / 3 ^ n % 3 := rfl
    have ef : frS (nI m) (n + 1) = frS (nI m) n ++ seatsOf (rNeed (nI m) n) n := rfl
    show tkI (up2 (tkO x b (nI m) n).1 (61 + b) n ((tkO x b (nI m) n).2 - (tkO x b (nI m) n).2 / 3 * 3)) b n ((tkO x b (nI m) n).2 - (tkO x b (nI m) n).2 / 3 * 3).toNatClampNeg (55 + b) 2 = _ ∧ plcs (tkI (up2 (tkO x b (nI m) n).1 (61 + b) n ((tkO x b (nI m) n).2 - (tkO x b (nI m) n).2 / 3 * 3)) b n ((tkO x b (nI m) n).2 - (tkO x b (nI m) n).2 / 3 * 3).toNatClampNeg) b _ = _ ∧ ∀ k, k < n + 1 → tkI (up2 (tkO x b (nI m) n).1 (61 + b) n ((tkO x b (nI m) n).2 - (tkO x b (nI m) n).2 / 3 * 3)) b n ((tkO x b (nI m) n).2 - (tkO x b (nI m) n).2 / 3 * 3).toNatClampNeg (61 + b) k = _
    rw [e2, d, nI_clamp (show m / 3 ^ n % 3 < 2 ^ 31 by omega)]
    generalize (tkO x b (nI m) n).1 = y at i1 i2 i3 ⊢
    obtain ⟨j1, j2⟩ := tkI_add (y := up2 y (61 + b) n (nI (m / 3 ^ n % 3))) (b := b) (k := n) (s := smN m n) hb (by omega) (by rw [up2_off (by omega)]; exact i1) (m / 3 ^ n % 3) (by omega)
    refine ⟨j1, ?_, fun k hk => ?_⟩
    · rw [es, j2, ef, rNeed_n hm, seatsOf_r q3, ← i2, plcs_cg (y := y) (fun j hj => by unfold pl; rw [up2_off (by omega)])]
    · rw [congrFun (tkI_n hb (m / 3 ^ n % 3)) k]
      by_cases e : k = n
      · subst e
        rw [up2_same, rNeed_n hm]
      · rw [up2_off (by omega)]
        exact i3 k (by omega)
theorem fr_rpl (a : Int32) : frS a 6 = rpl a 6 := by
  show ((((([] ++ seatsOf (rNeed a 0) 0) ++ seatsOf (rNeed a 1) 1) ++ seatsOf (rNeed a 2) 2) ++ seatsOf (rNeed a 3) 3) ++ seatsOf (rNeed a 4) 4) ++ seatsOf (rNeed a 5) 5 = seatsOf (rNeed a 0) 0 ++ (seatsOf (rNeed a 1) 1 ++ (seatsOf (rNeed a 2) 2 ++ (seatsOf (rNeed a 3) 3 ++ (seatsOf (rNeed a 4) 4 ++ (seatsOf (rNeed a 5) 5 ++ [])))))
  simp only [List.append_assoc, List.nil_append, List.append_nil]
/-- the shapes of the bands, with a new one -/
theorem Sh.band {m y : Nat} (S : Sh x Γ) (hB : Γ.2.1 < 6) (h1 : 1 ≤ m) (hm : m ≤ 728) (h5 : rNeeds (nI m) 6 ≤ 5) (h0 : x (55 + Γ.2.1) 2 = 0) : Sh (bandS x Γ.2.1 m) (Γ.1, Γ.2.1 + 1, Γ.2.2.1, Γ.2.2.2.1, va_up Γ.2.2.2.2.1 Γ.2.1 y, va_up Γ.2.2.2.2.2 Γ.2.1 (nI m)) := fun b hb => by
  have hb : b < Γ.2.1 + 1 := hb
  have s12 := smN_12 (m := m) 6
  have h5' : smN m 6 ≤ 5 := by
    rw [rNeeds_n hm] at h5
    rcases Nat.lt_or_ge 5 (smN m 6) with d | d
    · exact absurd (show nI (smN m 6) ≤ nI 5 from h5) (nI_ge d (by omega))
    · exact d
  rcases Nat.eq_or_lt_of_le (Nat.le_of_lt_succ hb) with e | e
  · subst e
    obtain ⟨f1, f2, f3⟩ := tkO_fr (x := x) (m := m) hB hm h5' (h0.trans nI_0.symm) 6 (Nat.le_refl _)
    have ne : ∀ k j, k ≠ 0 → bandS x Γ.2.1 m k j = (tkO x Γ.2.1 (nI m) 6).1 k j := fun k j hk => by
      unfold bandS
      rw [up2_off (by omega)]
    refine ⟨m, smN m 6, h1, hm, if_pos rfl, h5', rNeeds_n hm 6, (ne _ _ (by omega)).trans f1, ?_, fun k hk => (ne _ _ (by omega)).trans (f3 k hk)⟩
    rw [← fr_rpl, ← f2]
    exact plcs_cg (fun j _ => by unfold pl; rw [ne _ _ (by omega)])
  · obtain ⟨m', sz, q1, q2, q3, q4, q5, q6, q7, q8⟩ := S b e
    have ne : ∀ k j, ¬ bdPl Γ.2.1 k j → k ≠ 0 → bandS x Γ.2.1 m k j = x k j := fun k j h hk => bandS_k h (by omega)
    refine ⟨m', sz, q1, q2, (if_neg (by omega)).trans q3, q4, q5, (ne _ _ (by unfold bdPl; omega) (by omega)).trans q6, ?_, fun k hk => (ne _ _ (by unfold bdPl; omega) (by omega)).trans (q8 k hk)⟩
    rw [← q7]
    exact plcs_cg (fun j _ => by unfold pl; rw [ne _ _ (by unfold bdPl; omega) (by omega)])
theorem rOk.bnd {y m : Nat} {v : Int32} (h : rOk (tR x) Γ σ) (hB : Γ.2.1 < 6) : rOk (tR (bandS x Γ.2.1 m)) (Γ.1, Γ.2.1 + 1, Γ.2.2.1, Γ.2.2.2.1, va_up Γ.2.2.2.2.1 Γ.2.1 y, va_up Γ.2.2.2.2.2 Γ.2.1 v) (rbS σ Γ.2.1) := by
  have h := RX.cg (y := bandS x Γ.2.1 m) h (fun a b hs => bandS_k (by unfold bdPl; unfold seen at hs; omega) (by unfold seen at hs; omega))
  have lo : ∀ k j, k ≠ 2 → rbS σ Γ.2.1 k j = σ k j := fun k j h1 => by
    unfold rbS
    rw [if_neg h1]
  obtain ⟨⟨h1, h2, h3, h4, h5, h6, h7, h0, h8, h9⟩, htd⟩ := h
  refine ⟨⟨h1, by show Γ.2.1 + 1 ≤ 6; omega, h3, (lo _ _ (by decide)).trans h4, rfl, (lo _ _ (by decide)).trans h6, by rw [lo _ _ (by decide)]; exact h7, fun s hs => by rw [lo _ _ (by decide)]; exact h0 s hs, fun p hp => ?_, fun w hw => ?_⟩, fun k j hk => (lo k j (by unfold rTd at hk; dsimp only at hk; omega)).trans (htd k j hk)⟩
  · have hp : p < Γ.1 := hp
    rw [lo _ _ (by omega)]; exact h8 p hp
  · have hw : w < Γ.2.2.1 := hw
    rw [lo _ _ (by omega), lo _ _ (by omega), lo _ _ (by omega)]
    obtain ⟨⟨b, hb, eb⟩, hd, ht⟩ := h9 w hw
    exact ⟨⟨b, Nat.lt_succ_of_lt hb, eb⟩, hd, ht⟩
theorem sy_band {post : Int32 → RY → Prop} (O : rOk (tR x) Γ σ)
    (h1 : (rIsF a1 1 728 = 0 ∨ ¬ rNeeds a1 6 ≤ 5) → ∀ τ, rOk (tR x) Γ τ → τ 0 0 = 1 → post 0 (lay, Γ, τ))
    (h2 : ¬ rIsF a1 1 728 = 0 → rNeeds a1 6 ≤ 5 → Γ.2.1 = 6 → ∀ τ, rOk (tR x) Γ τ → τ 0 0 = 2 → post 0 (lay, Γ, τ))
    (h4 : ∀ m, 1 ≤ m → m ≤ 728 → a1 = nI m → rNeeds a1 6 ≤ 5 → Γ.2.1 < 6 → ∀ (lay' : Nat → Nat) (y : Nat) (τ : MS), rOk (tR (bandS x Γ.2.1 m)) (Γ.1, Γ.2.1 + 1, Γ.2.2.1, Γ.2.2.2.1, va_up Γ.2.2.2.2.1 Γ.2.1 y, va_up Γ.2.2.2.2.2 Γ.2.1 a1) τ → τ 0 0 = 0 → post (nI Γ.2.1) (lay', (Γ.1, Γ.2.1 + 1, Γ.2.2.1, Γ.2.2.2.1, va_up Γ.2.2.2.2.1 Γ.2.1 y, va_up Γ.2.2.2.2.2 Γ.2.1 a1), τ)) : w_X11_band lay Γ post σ a1 := by
  have O0 := O.up (k := 0) (j := 0) (v := 0) (by unfold rPr; omega)
  have hB := O.hB
  unfold w_X11_band
  refine law_X11_is ⟨fun c => sx_refuse O0 (h1 (Or.inl c)), fun n1 => law_X11_needed_ ⟨fun c => sx_refuse O0 (h1 (Or.inr c)), fun n2 => ?_⟩⟩
  have n2 : rNeeds a1 6 ≤ 5 := Decidable.byContradiction fun z => by first | exact n2 z | exact z n2 | exact absurd n2 (by simpa using z)
  obtain ⟨m, hm1, hm2, em⟩ := rIs_rg (lo := 1) (hi := 728) (by decide) n1 (by decide)
  unfold w_lb_Jx4a65c_size_8abf5
  rw [O0.b]
  refine ⟨fun c => sx_refuse O0 (h2 n1 n2 ?_), fun z => ?_⟩
  · exact (nI_eq (show Γ.2.1 < 2 ^ 31 by omega) (by decide)).mp (show nI Γ.2.1 = nI 6 from c)
  have hlt : Γ.2.1 < 6 := by
    rcases Nat.lt_or_ge Γ.2.1 6 with d | d
    · exact d
    · exact absurd (show nI Γ.2.1 = nI 6 by rw [show Γ.2.1 = 6 by omega]) z
  refine ⟨hlt, O0.b, fun lay' y => h4 m hm1 hm2 em n2 hlt lay' y _ (O0.bnd hlt) ?_⟩
  unfold rbS
  rw [if_neg (by decide), up2_same]
/-- what a new one has been told -/
def nwT : MS := fun k j => if k = 7 then nI j - nI j / 12 * 12 else if k = 8 then 5 else if k = 9 then 3 else if k = 12 then (if j / 6 = j % 6 then 0 else -1) else 0
theorem sf_init {ea : Nat} {post : MS → Prop} (h : ∀ τ, rOk nwT (rG0 ea) τ → post τ) : ∃ k, u_X11_init_87 (rG0 ea) post k (fun _ _ => 0) 0 := by
  have := inv_loop (fun k (q : MS × Int32) => u_X11_init_87 (rG0 ea) post k q.1 q.2) (fun j q => ((∀ k i, k ≠ 7 → k ≠ 8 → k ≠ 9 → q.1 k i = 0) ∧ ∀ s, s < j → q.1 9 s = 3 ∧ q.1 8 s = 5 ∧ q.1 7 s = nI s - nI s / 12 * 12) ∧ q.2 = nI j) 16 (by
    rintro ⟨τ, v⟩ ⟨⟨h0, h3⟩, rfl⟩
    have h0 : ∀ k i, k ≠ 7 → k ≠ 8 → k ≠ 9 → τ k i = 0 := h0
    have h3 : ∀ s, s < 16 → τ 9 s = 3 ∧ τ 8 s = 5 ∧ τ 7 s = nI s - nI s / 12 * 12 := h3
    show u_X11_init_87 (rG0 ea) post 1 τ (nI 16)
    unfold u_X11_init_87
    refine ⟨fun _ => ?_, fun c => absurd (le_self (nI 16)) c⟩
    have O : rOk τ (rG0 ea) τ := ⟨⟨Nat.zero_le _, Nat.zero_le _, Nat.zero_le _, h0 _ _ (by decide) (by decide) (by decide), h0 _ _ (by decide) (by decide) (by decide), h0 _ _ (by decide) (by decide) (by decide), ⟨0, by decide, h0 _ _ (by decide) (by decide) (by decide)⟩, fun s hs => ⟨3, by decide, by decide, (h3 s hs).1⟩, fun p hp => absurd hp (Nat.not_lt_zero _), fun w hw => absurd hw (Nat.not_lt_zero _)⟩, fun _ _ _ => rfl⟩
    -- the roads of a class without any, its ways as they are
    have O2 : rO12 τ 0 (rG0 ea) τ := rO12.of O (h0 _ _ (by decide) (by decide) (by decide))
    have e12 : ∀ v : MS, rO12 τ 0 (rG0 ea) v → (∀ a b, a < 6 → b < 6 → v 12 (a * 6 + b) = if a = b then 0 else -1) → post v := fun v hv e => h v (hv.1.reT (fun k j hk => by
      unfold w12 nwT
      have hk : (k = 0 ∧ (j = 1 ∨ j = 2)) ∨ ((k = 7 ∨ k = 8 ∨ k = 9 ∨ k = 10) ∧ j < 16) ∨ ((k = 11 ∨ k = 12) ∧ j < 36) ∨ (13 ≤ k ∧ k < 13 + 0 ∧ j < 6) ∨ (23 ≤ k ∧ k < 23 + 0 ∧ j < 366) ∨ (33 ≤ k ∧ k < 33 + 0 ∧ k < 47 ∧ j < 12) := hk
      by_cases q7 : k = 7
      · subst q7; rw [if_pos rfl, if_neg (by decide)]; exact (h3 j (by omega)).2.2.symm
      · by_cases q8 : k = 8
        · subst q8; rw [if_neg (by decide), if_pos rfl, if_neg (by decide)]; exact (h3 j (by omega)).2.1.symm
        · by_cases q9 : k = 9
          · subst q9; rw [if_neg (by decide), if_neg (by decide), if_pos rfl, if_neg (by decide)]; exact (h3 j (by omega)).1.symm
          · rw [if_neg q7, if_neg q8, if_neg q9]
            by_cases q12 : k = 12
            · subst q12
              rw [if_pos rfl, if_pos rfl]
              have := e (j / 6) (j % 6) (by omega) (by omega)
              rw [show j / 6 * 6 + j % 6 = j by omega] at this
              exact this.symm
            · rw [if_neg q12, if_neg q12]; exact (h0 _ _ q7 q8 q9).symm))
    exact sf_drive (x := fun _ _ => 0) O2 (fun a b _ _ => ⟨h0 _ _ (by decide) (by decide) (by decide), h0 _ _ (by decide) (by decide) (by decide)⟩) (fun v hv hw => e12 v hv (fun a b ha hb => (hw a b ha hb).1.trans (dg_ov (dg_lyA (fun _ _ _ _ => rfl)) 6 (Nat.le_refl _) a b ha hb)))) (by
    rintro j k ⟨τ, v⟩ hj ⟨⟨h0, h3⟩, rfl⟩ ih
    have h0 : ∀ k i, k ≠ 7 → k ≠ 8 → k ≠ 9 → τ k i = 0 := h0
    have h3 : ∀ s, s < j → τ 9 s = 3 ∧ τ 8 s = 5 ∧ τ 7 s = nI s - nI s / 12 * 12 := h3
    have cj : (nI j).toNatClampNeg = j := nI_clamp (by omega)
    show u_X11_init_87 (rG0 ea) post (k + 1) τ (nI j)
    unfold u_X11_init_87
    refine ⟨fun c => absurd (show nI 16 ≤ nI j from c) (nI_ge hj (by decide)), fun _ => ⟨vp_in_nI hj (by decide), ?_⟩⟩
    rw [cj, nI_1 j]
    refine ih (up2 (up2 (up2 τ 7 j (nI j - nI j / 12 * 12)) 8 j 5) 9 j 3, nI (j + 1)) ⟨⟨fun k i h7 h8 h9 => ?_, fun s hs => ?_⟩, rfl⟩
    · show up2 (up2 (up2 τ 7 j (nI j - nI j / 12 * 12)) 8 j 5) 9 j 3 k i = 0
      rw [up2_at (Or.inl h9), up2_at (Or.inl h8), up2_at (Or.inl h7)]; exact h0 k i h7 h8 h9
    · rcases Nat.eq_or_lt_of_le (Nat.le_of_lt_succ hs) with e | e
      · show up2 (up2 (up2 τ 7 j (nI j - nI j / 12 * 12)) 8 j 5) 9 j 3 9 s = 3 ∧ up2 (up2 (up2 τ 7 j (nI j - nI j / 12 * 12)) 8 j 5) 9 j 3 8 s = 5 ∧ up2 (up2 (up2 τ 7 j (nI j - nI j / 12 * 12)) 8 j 5) 9 j 3 7 s = nI s - nI s / 12 * 12
        rw [e]
        exact ⟨up2_same, by rw [up2_off (by omega), up2_same], by rw [up2_off (by omega), up2_off (by omega), up2_same]⟩
      · show up2 (up2 (up2 τ 7 j (nI j - nI j / 12 * 12)) 8 j 5) 9 j 3 9 s = 3 ∧ up2 (up2 (up2 τ 7 j (nI j - nI j / 12 * 12)) 8 j 5) 9 j 3 8 s = 5 ∧ up2 (up2 (up2 τ 7 j (nI j - nI j / 12 * 12)) 8 j 5) 9 j 3 7 s = nI s - nI s / 12 * 12
        refine ⟨?_, ?_, ?_⟩
        · rw [up2_off (by omega), up2_off (by omega), up2_off (by omega)]; exact (h3 s e).1
        · rw [up2_off (by omega), up2_off (by omega), up2_off (by omega)]; exact (h3 s e).2.1
        · rw [up2_off (by omega), up2_off (by omega), up2_off (by omega)]; exact (h3 s e).2.2) 0 (by omega) (_, 0) ⟨⟨fun _ _ _ _ _ => rfl, fun s hs => absurd hs (Nat.not_lt_zero _)⟩, nI_0.symm⟩
  exact this
end TELLC
