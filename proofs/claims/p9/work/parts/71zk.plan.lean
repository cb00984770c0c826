/-! THE PLAN OF A DAY, ON BOTH SIDES: the reference's walks -/
section PLANC
variable {x y z : MS} {Γ : RG} {σ τ ρ : MS} {a a0 a1 a2 a3 a4 b : Int32} {w P B W T : Nat}
theorem trR_no {f : Nat → Nat} {m : Int32} {n : Nat} (h : ¬ bt m n = true) : trR x P W f m (n + 1) = trR x P W f m n := if_neg h
theorem trR_none {f : Nat → Nat} {m : Int32} {n : Nat} (h : bt m n = true) (hb : bR (trR x P W f m n).1 (f n) P (freeF (stg (trR x P W f m n).1 W) (f n) W P) 0 (2 ^ P - 1) = -1) : trR x P W f m (n + 1) = ((trR x P W f m n).1, -999999, (trR x P W f m n).2.2) := (if_pos h).trans (if_pos hb)
theorem trR_fix {f : Nat → Nat} {m : Int32} {n : Nat} (h : bt m n = true) (hb : ¬ bR (trR x P W f m n).1 (f n) P (freeF (stg (trR x P W f m n).1 W) (f n) W P) 0 (2 ^ P - 1) = -1) : trR x P W f m (n + 1) = (fxN (trR x P W f m n).1 (f n) P (bR (trR x P W f m n).1 (f n) P (freeF (stg (trR x P W f m n).1 W) (f n) W P) 0 (2 ^ P - 1)), (trR x P W f m n).2.1 + priceI (costsF (trR x P W f m n).1 (bR (trR x P W f m n).1 (f n) P (freeF (stg (trR x P W f m n).1 W) (f n) W P) 0 (2 ^ P - 1)) (f n) P), (trR x P W f m n).2.2 ||| one n) := (if_pos h).trans (if_neg hb)
theorem fxN_9 {s : Int32} : fxN x w P s (73 + w) 9 = priceI (costsF x s w P) := by
  unfold fxN
  rw [up2_off (by omega), up2_off (by omega), up2_same]
theorem sy_tried {post : Int32 → MS → Prop} {af : Nat → Int32} {c : Nat} {f : Nat → Nat} (O : rOk (tR x) Γ σ) (Y : Sy x) (S : Sh x Γ) (G : Gs x) (hc : c ≤ 3) (e : a3 = nI c) (hf : ∀ i, i < c → f i < Γ.2.2.1 ∧ af i = nI (f i)) (h0 : ∀ i, i < c → x (73 + f i) 7 = 0 ∧ x (73 + f i) 8 = 0 ∧ x (73 + f i) 9 = 0 ∧ x (73 + f i) 11 = 0) (hz : σ 0 0 = 0) (h : ∀ τ, rOk (tR x) Γ τ → τ 0 0 = 0 → post (trR x Γ.1 Γ.2.2.1 f a2 c).2.1 τ) : w_X11_tried Γ post σ af a2 a3 := by
  have hW := O.hW
  have hP := O.hP
  have hB := O.hB
  have d115 : ∀ τ, rOk (tR (trR x Γ.1 Γ.2.2.1 f a2 c).1) Γ τ → τ 0 0 = 0 → ∃ k, u_X11_tried_115 Γ post af a2 a3 k τ (trR x Γ.1 Γ.2.2.1 f a2 c).2.1 (trR x Γ.1 Γ.2.2.1 f a2 c).2.2 (x 0 10) 0 := by
    intro τ I0 z0
    have bk := tr_back (x := x) (P := Γ.1) (W := Γ.2.2.1) (f := f) (m := a2) (n := c) (by omega) (fun i hi => by have := (hf i hi).1; omega) h0
    generalize trR x Γ.1 Γ.2.2.1 f a2 c = Z at I0 bk h ⊢
    have := inv_loop (fun k (q : MS × Int32) => u_X11_tried_115 Γ post af a2 a3 k q.1 Z.2.1 Z.2.2 (x 0 10) q.2) (fun j q => (rOk (tR (bkR Z.1 f Z.2.2 j)) Γ q.1 ∧ q.1 0 0 = 0) ∧ q.2 = nI j) c (by
      rintro ⟨τ, v⟩ ⟨⟨I, z⟩, rfl⟩
      have I : rOk (tR (bkR Z.1 f Z.2.2 c)) Γ τ := I
      have z : τ 0 0 = 0 := z
      show u_X11_tried_115 Γ post af a2 a3 1 τ Z.2.1 Z.2.2 (x 0 10) (nI c)
      unfold u_X11_tried_115
      rw [e]
      exact ⟨fun _ => h _ (RX.cg (RX.csh (v := x 0 10) I) bk) (by rw [up2_off (by omega)]; exact z), fun q => absurd (le_self _) q⟩) (by
      rintro j k ⟨τ, v⟩ hj ⟨⟨I, z⟩, rfl⟩ ih
      have I : rOk (tR (bkR Z.1 f Z.2.2 j)) Γ τ := I
      have z : τ 0 0 = 0 := z
      have nx : ∀ τ', rOk (tR (bkR Z.1 f Z.2.2 (j + 1))) Γ τ' → τ' 0 0 = 0 → u_X11_tried_115 Γ post af a2 a3 k τ' Z.2.1 Z.2.2 (x 0 10) (nI j + 1) := fun τ' O' z' => by rw [nI_1]; exact ih (τ', nI (j + 1)) ⟨⟨O', z'⟩, rfl⟩
      obtain ⟨hw, ew⟩ := hf j hj
      have cj : (nI j).toNatClampNeg = j := nI_clamp (by omega)
      have es : bkR Z.1 f Z.2.2 (j + 1) = if bt Z.2.2 j = true then up2 (up2 (up2 (up2 (bkR Z.1 f Z.2.2 j) (73 + f j) 7 0) (73 + f j) 8 0) (73 + f j) 9 0) (73 + f j) 11 0 else bkR Z.1 f Z.2.2 j := rfl
      rw [es] at nx
      show u_X11_tried_115 Γ post af a2 a3 (k + 1) τ Z.2.1 Z.2.2 (x 0 10) (nI j)
      unfold u_X11_tried_115
      refine ⟨fun q => absurd (e ▸ q) (nI_ge hj (by omega)), fun _ => sx_isIn (by omega) ⟨fun q => nx _ ?_ z, fun q => ⟨vp_in_nI (by omega) (by decide), sf_wget I hw (by rw [cj]; exact ew) ⟨⟨by omega, hw⟩, nx _ ?_ ?_⟩⟩⟩⟩
      · rw [if_neg (by rw [b01_0.mp q]; exact Bool.false_ne_true)]
        exact I
      · rw [if_pos (b01_1.mp q)]
        exact RX.wd (RX.wd (RX.wd (RX.wd I hw (by decide) (by decide)) hw (by decide) (by decide)) hw (by decide) (by decide)) hw (by decide) (by decide)
      · rw [up2_off (by omega), up2_off (by omega), up2_off (by omega), up2_off (by omega)]
        exact z) 0 (by omega) (τ, 0) ⟨⟨I0, z0⟩, nI_0.symm⟩
    exact this
  unfold w_X11_tried
  rw [O.csh]
  have := inv_loop (fun k (q : MS × Int32 × Int32 × Int32) => u_X11_tried_15 Γ post af a2 a3 k q.1 q.2.1 q.2.2.1 (x 0 10) q.2.2.2) (fun j q => (rOk (tR (trR x Γ.1 Γ.2.2.1 f a2 j).1) Γ q.1 ∧ q.1 0 0 = 0 ∧ q.2.1 = (trR x Γ.1 Γ.2.2.1 f a2 j).2.1 ∧ q.2.2.1 = (trR x Γ.1 Γ.2.2.1 f a2 j).2.2) ∧ q.2.2.2 = nI j) c (by
    rintro ⟨τ, u, mk, v⟩ ⟨⟨I, z, rfl, rfl⟩, rfl⟩
    have I : rOk (tR (trR x Γ.1 Γ.2.2.1 f a2 c).1) Γ τ := I
    have z : τ 0 0 = 0 := z
    show u_X11_tried_15 Γ post af a2 a3 1 τ _ _ (x 0 10) (nI c)
    unfold u_X11_tried_15
    exact ⟨fun _ => d115 τ I z, fun q => absurd (by rw [e]; exact le_self _) q⟩) (by
    rintro j k ⟨τ, u, mk, v⟩ hj ⟨⟨I, z, rfl, rfl⟩, rfl⟩ ih
    have I : rOk (tR (trR x Γ.1 Γ.2.2.1 f a2 j).1) Γ τ := I
    have z : τ 0 0 = 0 := z
    have nx : ∀ τ' u mk, rOk (tR (trR x Γ.1 Γ.2.2.1 f a2 (j + 1)).1) Γ τ' → τ' 0 0 = 0 → u = (trR x Γ.1 Γ.2.2.1 f a2 (j + 1)).2.1 → mk = (trR x Γ.1 Γ.2.2.1 f a2 (j + 1)).2.2 → u_X11_tried_15 Γ post af a2 a3 k τ' u mk (x 0 10) (nI j + 1) := fun τ' u mk O' z' e1 e2 => by rw [nI_1]; exact ih (τ', u, mk, nI (j + 1)) ⟨⟨O', z', e1, e2⟩, rfl⟩
    obtain ⟨hw, ew⟩ := hf j hj
    have cj : (nI j).toNatClampNeg = j := nI_clamp (by omega)
    have ew' : af (Int32.toNatClampNeg (nI j)) = nI (f j) := by rw [cj]; exact ew
    have hv : vp_in (nI j) 3 := vp_in_nI (by omega) (by decide)
    have fl := trR_fl (x := x) (P := Γ.1) (W := Γ.2.2.1) (f := f) (m := a2) j
    show u_X11_tried_15 Γ post af a2 a3 (k + 1) τ (trR x Γ.1 Γ.2.2.1 f a2 j).2.1 (trR x Γ.1 Γ.2.2.1 f a2 j).2.2 (x 0 10) (nI j)
    unfold u_X11_tried_15
    refine ⟨fun q => absurd (e ▸ q) (nI_ge hj (by omega)), fun _ => sx_isIn (by omega) ⟨fun q => ?_, fun q => ⟨hv, sy_best I (Y.fl fl) (S.fl fl hB) (G.fl fl) hw ew' ?_⟩⟩⟩
    · have en := trR_no (x := x) (P := Γ.1) (W := Γ.2.2.1) (f := f) (m := a2) (n := j) (by rw [b01_0.mp q]; exact Bool.false_ne_true)
      exact nx _ _ _ (by rw [en]; exact I) z (by rw [en]) (by rw [en])
    · rw [and_all]
      unfold frR
      refine ⟨fun d => ?_, fun d => ?_⟩
      · have en := trR_none (x := x) (P := Γ.1) (W := Γ.2.2.1) (f := f) (m := a2) (n := j) (b01_1.mp q) d
        unfold u_X11_tried_56
        refine ⟨fun _ => nx _ _ _ (by rw [en]; exact I) z (by rw [en]) (by rw [en]), fun d2 => absurd d d2⟩
      · have en := trR_fix (x := x) (P := Γ.1) (W := Γ.2.2.1) (f := f) (m := a2) (n := j) (b01_1.mp q) d
        unfold u_X11_tried_56
        refine ⟨fun d2 => absurd d2 d, fun _ => ⟨hv, sy_fixNow I (Y.fl fl) hw ew' (fun τ' O' K' => ⟨hv, sf_wget O' hw ew' ⟨⟨by omega, hw⟩, nx _ _ _ (by rw [en]; exact O') (K'.1.trans z) ?_ (by rw [en])⟩⟩)⟩⟩
        rw [O'.wd (j := 9) hw (by decide), en, fxN_9]) 0 (by omega) (σ, 0, 0, 0) ⟨⟨O, hz, rfl, rfl⟩, nI_0.symm⟩
  exact this
theorem fst_is {day : Int32} : ∀ n, n ≤ 31 → ∀ w, bt (fstF x day n) w = true → isFst x w = true
  | 0, _, w, h => by
    have h : bt 0 w = true := h
    rw [b_0] at h
    exact absurd h Bool.false_ne_true
  | n + 1, hn, w, h => by
    have h : bt (if x (73 + n) 1 = day ∧ isFst x n = true ∧ ¬ 3 ≤ bcI (fstF x day n) then fstF x day n ||| one n else fstF x day n) w = true := h
    by_cases c : x (73 + n) 1 = day ∧ isFst x n = true ∧ ¬ 3 ≤ bcI (fstF x day n)
    · rw [if_pos c] at h
      rcases Nat.lt_or_ge w 32 with hw | hw
      · rw [b_or, b_one (by omega) hw, Bool.or_eq_true, decide_eq_true_iff] at h
        rcases h with h | h
        · exact fst_is n (by omega) w h
        · rw [h]; exact c.2.1
      · rw [b_big hw] at h
        exact absurd h Bool.false_ne_true
    · rw [if_neg c] at h
      exact fst_is n (by omega) w h
theorem neg_acc {t u : Nat} (ht : t ≤ 228894) (hu : u ≤ 228894) : ¬ nI t < -999999 + nI u := by
  intro h
  have e1 : (nI t).toInt = t := nI_toInt (by omega)
  have e2 : (nI u).toInt = u := nI_toInt (by omega)
  have e3 : (-999999 : Int32).toInt = -999999 := by decide
  rw [Int32.lt_iff_toInt_lt, Int32.toInt_add, e1, e2, e3, Int.bmod_eq_of_le (by omega) (by omega)] at h
  omega
theorem m1_le {t : Nat} (ht : t ≤ 228894) : (-1 : Int32) ≤ nI t := by
  have e1 : (nI t).toInt = t := nI_toInt (by omega)
  have e3 : (-1 : Int32).toInt = -1 := by decide
  rw [Int32.le_iff_toInt_le, e1, e3]
  omega
theorem saR_some {q : Option (MS × Int32) × MS} {Z : MS} {s : Int32} (h : q.1 = some (Z, s)) : (saR q).1 = s := by
  unfold saR
  rw [h]
theorem saR_none {q : Option (MS × Int32) × MS} (h : q.1 = none) : (saR q).1 = -1 := by
  unfold saR
  rw [h]
theorem plS_s {cand : Int32} (n : Nat) : plS x P W cand (n + 1) = if (saR (saS (plS x P W cand n).1 P W (memS cand (nI (n + 1)) 14).1 W)).1 ≤ (plS x P W cand n).2.2 then ((saR (saS (plS x P W cand n).1 P W (memS cand (nI (n + 1)) 14).1 W)).2, (plS x P W cand n).2.1, (plS x P W cand n).2.2) else ((saR (saS (plS x P W cand n).1 P W (memS cand (nI (n + 1)) 14).1 W)).2, (memS cand (nI (n + 1)) 14).1, (saR (saS (plS x P W cand n).1 P W (memS cand (nI (n + 1)) 14).1 W)).1) := rfl
theorem sy_plan {post : Int32 → MS → Prop} (Oc : Ok x Γ.1 B Γ.2.2.1 T) (O : rOk (tR x) Γ σ) (Y : Sy x) (S : Sh x Γ) (G : Gs x) (HS : SI x Γ.1 B Γ.2.2.1) (AZ : ∀ w, w < 14 → x (73 + w) 7 = 0 → x (73 + w) 8 = 0 ∧ x (73 + w) 9 = 0 ∧ x (73 + w) 11 = 0)
    (h1 : (∀ d, d ≤ 365 → a1 ≠ nI d) → ∀ τ, rOk (tR x) Γ τ → τ 0 0 = 1 → post 0 τ)
    (h3 : ∀ d, d ≤ 365 → a1 = nI d → ∀ τ, rOk (tR x) Γ τ → τ 0 0 = 0 → post (if a2 = 0 then (plF x Γ.1 Γ.2.2.1 a1).2.2 else (plF x Γ.1 Γ.2.2.1 a1).2.1) τ) : w_X11_plan Γ post σ a1 a2 := by
  have hW := O.hW
  have hP := O.hP
  unfold w_X11_plan
  have O0 := O.up (k := 0) (j := 0) (v := 0) (by unfold rPr; omega)
  refine sx_isr (lo := 0) (hi := 365) rfl rfl (by decide) (by decide) (fun no => ⟨fun _ => sx_refuse O0 (h1 (fun d hd => no d (by omega) hd)), fun c => absurd rfl c⟩) (fun d r _ hd e hr => ⟨fun c => absurd c hr, fun _ => ?_⟩)
  have h3 := h3 d hd e
  -- who is chosen, as a set
  have d155 : ∀ (c : Nat) (f : Nat → Nat) (m x6 : Int32) (τ : MS), fewF Γ.2.2.1 (fstF x a1 Γ.2.2.1) c f → rOk (tR x) Γ τ → τ 0 0 = 0 → (∀ i, i < c → τ 64 i = nI (f i)) → (∀ τ', rOk (tR x) Γ τ' → τ' 0 0 = 0 → post (if a2 = 0 then x6 else (memS (fstF x a1 Γ.2.2.1) m 14).1) τ') → ∃ k, u_X11_plan_155 Γ post a1 a2 k τ (nI c) m x6 0 0 := by
    intro c f m x6 τ F I0 z0 hf hp
    have mem := memS_few (m := m) hW F
    obtain ⟨c3, hm, hfW, _, _⟩ := F
    have := inv_loop (fun k (q : MS × Int32 × Int32) => u_X11_plan_155 Γ post a1 a2 k q.1 (nI c) m x6 q.2.1 q.2.2) (fun j q => (rOk (tR x) Γ q.1 ∧ q.1 0 0 = 0 ∧ (∀ i, i < c → q.1 64 i = nI (f i)) ∧ ∀ w, bt q.2.1 w = true ↔ ∃ i, i < j ∧ f i = w ∧ bt m i = true) ∧ q.2.2 = nI j) c (by
      rintro ⟨τ, u, v⟩ ⟨⟨I, z, hf, hb⟩, rfl⟩
      have I : rOk (tR x) Γ τ := I
      have z : τ 0 0 = 0 := z
      have hb : ∀ w, bt u w = true ↔ ∃ i, i < c ∧ f i = w ∧ bt m i = true := hb
      have eu : u = (memS (fstF x a1 Γ.2.2.1) m 14).1 := b_ext fun i hi => by rw [Bool.eq_iff_iff, hb, mem]
      have hp := hp τ I z
      show u_X11_plan_155 Γ post a1 a2 1 τ (nI c) m x6 u (nI c)
      unfold u_X11_plan_155
      refine ⟨fun _ => ⟨fun q => ?_, fun q => ?_⟩, fun q => absurd (le_self _) q⟩
      · rw [if_pos q] at hp; exact hp
      · rw [if_neg q, ← eu] at hp; exact hp) (by
      rintro j k ⟨τ, u, v⟩ hj ⟨⟨I, z, hf, hb⟩, rfl⟩ ih
      have I : rOk (tR x) Γ τ := I
      have z : τ 0 0 = 0 := z
      have hf : ∀ i, i < c → τ 64 i = nI (f i) := hf
      have hb : ∀ w, bt u w = true ↔ ∃ i, i < j ∧ f i = w ∧ bt m i = true := hb
      have nx : ∀ u', (∀ w, bt u' w = true ↔ ∃ i, i < j + 1 ∧ f i = w ∧ bt m i = true) → u_X11_plan_155 Γ post a1 a2 k τ (nI c) m x6 u' (nI j + 1) := fun u' h' => by rw [nI_1]; exact ih (τ, u', nI (j + 1)) ⟨⟨I, z, hf, h'⟩, rfl⟩
      have cj : (nI j).toNatClampNeg = j := nI_clamp (by omega)
      have hfj := hfW j hj
      show u_X11_plan_155 Γ post a1 a2 (k + 1) τ (nI c) m x6 u (nI j)
      unfold u_X11_plan_155
      refine ⟨fun q => absurd q (nI_ge hj (by omega)), fun _ => sx_isIn (by omega) ⟨fun q => ?_, fun q => ⟨vp_in_nI (by omega) (by decide), ?_⟩⟩⟩
      · rw [mrg_self, Int32.or_zero]
        refine nx _ (fun w => ?_)
        rw [hb w]
        have nb : ¬ bt m j = true := by rw [b01_0.mp q]; exact Bool.false_ne_true
        constructor
        · rintro ⟨i, hi, e, e2⟩; exact ⟨i, by omega, e, e2⟩
        · rintro ⟨i, hi, e, e2⟩
          by_cases g : i = j
          · subst g; exact absurd e2 nb
          · exact ⟨i, by omega, e, e2⟩
      · rw [mrg_self, cj, hf j hj]
        have e1 : ((1 : Int32) <<< (nI (f j) &&& 31)) = one (f j) := rfl
        rw [e1]
        refine nx _ (fun w => ?_)
        rcases Nat.lt_or_ge w 32 with hw | hw
        · rw [b_or, b_one (by omega) hw, Bool.or_eq_true, decide_eq_true_iff, hb w]
          constructor
          · rintro (⟨i, hi, e, e2⟩ | e)
            · exact ⟨i, by omega, e, e2⟩
            · exact ⟨j, by omega, e.symm, b01_1.mp q⟩
          · rintro ⟨i, hi, e, e2⟩
            by_cases g : i = j
            · subst g; exact Or.inr e.symm
            · exact Or.inl ⟨i, by omega, e, e2⟩
        · rw [b_big hw]
          refine ⟨fun g => absurd g Bool.false_ne_true, fun ⟨i, hi, e, _⟩ => ?_⟩
          have := hfW i (by omega)
          omega) 0 (by omega) (τ, 0, 0) ⟨⟨I0, z0, hf, fun w => by
        show bt 0 w = true ↔ _
        rw [b_0]
        exact ⟨fun z => absurd z Bool.false_ne_true, fun ⟨i, hi, _⟩ => absurd hi (by omega)⟩⟩, nI_0.symm⟩
    exact this
  -- the choices, one after the other
  have d105 : ∀ (c : Nat) (f : Nat → Nat) (τ : MS), fewF Γ.2.2.1 (fstF x a1 Γ.2.2.1) c f → rOk (tR x) Γ τ → τ 0 0 = 0 → (∀ i, i < c → τ 64 i = nI (f i)) → ∃ k, u_X11_plan_105 Γ post a1 a2 k τ (nI c) 0 0 1 := by
    intro c f τ F I0 z0 hf0
    have hp0 := h3
    unfold plF at hp0
    have F0 := F
    obtain ⟨c3, hm, hfW, hbc, hbt⟩ := F0
    rw [hbc, nI_clamp (by omega)] at hp0
    have hzero : ∀ i, i < c → x (73 + f i) 7 = 0 ∧ x (73 + f i) 8 = 0 ∧ x (73 + f i) 9 = 0 ∧ x (73 + f i) 11 = 0 := fun i hi => by
      have hi2 := hfW i hi
      have := fst_is (x := x) (day := a1) Γ.2.2.1 (by omega) (f i) ((hbt (f i)).mpr ⟨i, hi, rfl⟩)
      unfold isFst at this
      have h7 := (of_decide_eq_true this).1
      exact ⟨h7, AZ (f i) (by omega) h7⟩
    obtain ⟨p1, p2⟩ := pw1024 (P := c) (by omega)
    have em0 : (memS (fstF x a1 Γ.2.2.1) 0 14).1 = 0 := b_ext fun i hi => by
      rw [b_0]
      refine Bool.eq_false_iff.mpr (fun q => ?_)
      obtain ⟨k, _, _, q2⟩ := (memS_few hW F i).mp q
      rw [b_0] at q2
      exact absurd q2 Bool.false_ne_true
    have := inv_loop (fun k (q : MS × Int32 × Int32 × Int32) => u_X11_plan_105 Γ post a1 a2 k q.1 (nI c) q.2.1 q.2.2.1 q.2.2.2) (fun j q => (rOk (tR x) Γ q.1 ∧ q.1 0 0 = 0 ∧ (∀ i, i < c → q.1 64 i = nI (f i)) ∧ (memS (fstF x a1 Γ.2.2.1) q.2.1 14).1 = (plS x Γ.1 Γ.2.2.1 (fstF x a1 Γ.2.2.1) j).2.1 ∧ q.2.2.1 = (plS x Γ.1 Γ.2.2.1 (fstF x a1 Γ.2.2.1) j).2.2 ∧ ∃ t, t ≤ 228894 ∧ q.2.2.1 = nI t) ∧ q.2.2.2 = nI (j + 1)) (2 ^ c - 1) (by
      rintro ⟨τ, m, x6, v⟩ ⟨⟨I, z, hf, e1, e2, _⟩, rfl⟩
      have I : rOk (tR x) Γ τ := I
      have z : τ 0 0 = 0 := z
      have hf : ∀ i, i < c → τ 64 i = nI (f i) := hf
      have e1 : (memS (fstF x a1 Γ.2.2.1) m 14).1 = (plS x Γ.1 Γ.2.2.1 (fstF x a1 Γ.2.2.1) (2 ^ c - 1)).2.1 := e1
      have e2 : x6 = (plS x Γ.1 Γ.2.2.1 (fstF x a1 Γ.2.2.1) (2 ^ c - 1)).2.2 := e2
      rw [← e1, ← e2] at hp0
      show u_X11_plan_105 Γ post a1 a2 1 τ (nI c) m x6 (nI (2 ^ c - 1 + 1))
      unfold u_X11_plan_105
      rw [shl1 c (by omega), Nat.sub_add_cancel p1]
      exact ⟨fun _ => d155 c f m x6 τ F I z hf hp0, fun q => absurd (le_self _) q⟩) (by
      rintro j k ⟨τ, m, x6, v⟩ hj ⟨⟨I, z, hf, e1, e2, t, ht, e3⟩, rfl⟩ ih
      have I : rOk (tR x) Γ τ := I
      have z : τ 0 0 = 0 := z
      have hf : ∀ i, i < c → τ 64 i = nI (f i) := hf
      have e1 : (memS (fstF x a1 Γ.2.2.1) m 14).1 = (plS x Γ.1 Γ.2.2.1 (fstF x a1 Γ.2.2.1) j).2.1 := e1
      have e2 : x6 = (plS x Γ.1 Γ.2.2.1 (fstF x a1 Γ.2.2.1) j).2.2 := e2
      have e3 : x6 = nI t := e3
      have nx : ∀ τ' m' x', rOk (tR x) Γ τ' → τ' 0 0 = 0 → (memS (fstF x a1 Γ.2.2.1) m' 14).1 = (plS x Γ.1 Γ.2.2.1 (fstF x a1 Γ.2.2.1) (j + 1)).2.1 → x' = (plS x Γ.1 Γ.2.2.1 (fstF x a1 Γ.2.2.1) (j + 1)).2.2 → (∃ t, t ≤ 228894 ∧ x' = nI t) → u_X11_plan_105 Γ post a1 a2 k (mrg τ' τ) (nI c) m' x' (nI (j + 1) + 1) := fun τ' m' x' O' z' g1 g2 g3 => by
        rw [nI_1]
        refine ih (mrg τ' τ, m', x', nI (j + 1 + 1)) ⟨⟨O'.mrg, ?_, fun i hi => ?_, g1, g2, g3⟩, rfl⟩
        · show mrg τ' τ 0 0 = 0
          rw [mrg_lo (by decide)]; exact z'
        · show mrg τ' τ 64 i = _
          rw [mrg_hi (by decide)]; exact hf i hi
      have sync := tr_sync (x := x) (y := (plS x Γ.1 Γ.2.2.1 (fstF x a1 Γ.2.2.1) j).1) (m := nI (j + 1)) (ch := (memS (fstF x a1 Γ.2.2.1) (nI (j + 1)) 14).1) Oc Y HS (Scr.pl x Γ.1 Γ.2.2.1 _ j) c3 hm hfW (memS_few hW F)
      have es := plS_s (x := x) (P := Γ.1) (W := Γ.2.2.1) (cand := fstF x a1 Γ.2.2.1) j
      rw [es] at nx
      show u_X11_plan_105 Γ post a1 a2 (k + 1) τ (nI c) m x6 (nI (j + 1))
      unfold u_X11_plan_105
      rw [shl1 c (by omega)]
      refine ⟨fun q => absurd q (nI_ge (by omega) (by omega)), fun _ => sy_tried I Y S G c3 rfl (fun i hi => ⟨hfW i hi, hf i hi⟩) hzero z (fun τ' O' z' => ?_)⟩
      have nx := fun m' x' => nx τ' m' x' O' z'
      generalize plS x Γ.1 Γ.2.2.1 (fstF x a1 Γ.2.2.1) j = u at e1 e2 sync nx
      generalize saS u.1 Γ.1 Γ.2.2.1 (memS (fstF x a1 Γ.2.2.1) (nI (j + 1)) 14).1 Γ.2.2.1 = Q at sync nx
      rcases sync with ⟨Z, s, q1, q2, t', ht', q3⟩ | ⟨q1, t', ht', q2⟩
      · rw [saR_some q1] at nx
        rw [q2]
        refine ⟨fun c => ?_, fun c => ?_⟩
        · rw [if_neg (fun q => by rw [← e2] at q; exact Int32.not_lt.mpr q c)] at nx
          exact nx _ _ rfl rfl ⟨t', ht', q3⟩
        · rw [if_pos (by rw [← e2]; exact Int32.not_lt.mp c)] at nx
          exact nx _ _ e1 e2 ⟨t, ht, e3⟩
      · rw [saR_none q1, if_pos (by rw [← e2, e3]; exact m1_le ht)] at nx
        rw [q2]
        refine ⟨fun c => ?_, fun c => nx _ _ e1 e2 ⟨t, ht, e3⟩⟩
        rw [e3] at c
        exact absurd c (neg_acc ht ht')) 0 (by omega) (τ, 0, 0, 1) ⟨⟨I0, z0, hf0, em0, rfl, 0, by omega, nI_0.symm⟩, rfl⟩
    exact this
  have := inv_loop (fun k (q : MS × Int32 × Int32) => u_X11_plan_32 Γ post a1 a2 k q.1 q.2.1 q.2.2) (fun j q => (rOk (tR x) Γ q.1 ∧ q.1 0 0 = 0 ∧ ∃ c f, fewF j (fstF x a1 j) c f ∧ q.2.1 = nI c ∧ ∀ i, i < c → q.1 64 i = nI (f i)) ∧ q.2.2 = nI j) Γ.2.2.1 (by
    rintro ⟨τ, u, v⟩ ⟨⟨I, z, c, f, F, rfl, hf⟩, rfl⟩
    have I : rOk (tR x) Γ τ := I
    have z : τ 0 0 = 0 := z
    have hf : ∀ i, i < c → τ 64 i = nI (f i) := hf
    show u_X11_plan_32 Γ post a1 a2 1 τ (nI c) (nI Γ.2.2.1)
    unfold u_X11_plan_32 w_lw_Jx4a65c_size_8abf5
    rw [I.w]
    dsimp only
    rw [mrg_self]
    exact ⟨fun _ => d105 c f τ F I z hf, fun q => absurd (le_self _) q⟩) (by
    rintro j k ⟨τ, u, v⟩ hj ⟨⟨I, z, c, f, F, rfl, hf⟩, rfl⟩ ih
    have I : rOk (tR x) Γ τ := I
    have z : τ 0 0 = 0 := z
    have hf : ∀ i, i < c → τ 64 i = nI (f i) := hf
    have nx : ∀ τ' c' f', rOk (tR x) Γ τ' → τ' 0 0 = 0 → fewF (j + 1) (fstF x a1 (j + 1)) c' f' → (∀ i, i < c' → τ' 64 i = nI (f' i)) → u_X11_plan_32 Γ post a1 a2 k τ' (nI c') (nI j + 1) := fun τ' c' f' O' z' F' h' => by rw [nI_1]; exact ih (τ', nI c', nI (j + 1)) ⟨⟨O', z', c', f', F', rfl, h'⟩, rfl⟩
    have c3 := F.1
    have es : fstF x a1 (j + 1) = if x (73 + j) 1 = a1 ∧ isFst x j = true ∧ ¬ 3 ≤ bcI (fstF x a1 j) then fstF x a1 j ||| one j else fstF x a1 j := rfl
    rw [es] at nx
    have bc3 : 3 ≤ bcI (fstF x a1 j) ↔ c = 3 := by
      rw [F.2.2.2.1]
      constructor
      · intro q
        rcases Nat.lt_or_ge c 3 with g | g
        · exact absurd (show nI 3 ≤ nI c from q) (nI_ge g (by decide))
        · omega
      · intro q; rw [q]; exact le_self (nI 3)
    show u_X11_plan_32 Γ post a1 a2 (k + 1) τ (nI c) (nI j)
    unfold u_X11_plan_32 w_lw_Jx4a65c_size_8abf5
    rw [I.w]
    dsimp only
    rw [mrg_self]
    refine ⟨fun q => absurd q (nI_ge hj (by omega)), fun _ => ⟨fun q => ?_, fun q => sf_wget I hj rfl ⟨⟨by omega, hj⟩, ?_⟩⟩⟩
    · have hc3 : c = 3 := bc3.mp (by rw [F.2.2.2.1]; exact q)
      refine d105 c f τ ⟨c3, F.2.1, fun i hi => by have := F.2.2.1 i hi; omega, ?_⟩ I z hf
      rw [fst_more (bc3.mpr hc3) Γ.2.2.1 (by omega)]
      exact F.2.2.2
    · have nc3 : ¬ 3 ≤ bcI (fstF x a1 j) := by rw [F.2.2.2.1]; exact q
      have hc2 : c < 3 := by
        have : c ≠ 3 := fun g => nc3 (bc3.mpr g)
        omega
      rw [mrg_self, I.wd (j := 1) hj (by decide)]
      refine ⟨fun d1 => sy_place I hj rfl ⟨fun d2 => ⟨vp_in_nI (by omega) (by decide), ?_⟩, fun d2 => ?_⟩, fun d1 => ?_⟩
      · rw [mrg_self, nI_clamp (by omega), nI_1 c]
        rw [if_pos ⟨d1, (pq_0 (by omega)).mp d2, nc3⟩] at nx
        refine nx _ _ _ (I.up (by unfold rPr; omega)) (by rw [up2_off (by omega)]; exact z) (F.add (by omega) hc2) (fun i hi => ?_)
        by_cases g : i = c
        · subst g
          rw [if_pos rfl, up2_same]
        · rw [if_neg g, up2_off (by omega)]
          exact hf i (by omega)
      · rw [mrg_self]
        rw [if_neg (fun g => d2 ((pq_0 (by omega)).mpr g.2.1))] at nx
        exact nx _ _ _ I z F.suc hf
      · rw [if_neg (fun g => d1 g.1)] at nx
        exact nx _ _ _ I z F.suc hf) 0 (by omega) (rw0 (up2 σ 0 0 0) 64 (fun _ => 0), 0, 0) ⟨⟨O0.rw0 (by decide), by show rw0 (up2 σ 0 0 0) 64 (fun _ => 0) 0 0 = 0; rw [rw0_ne (by decide), up2_same], 0, fun _ => 0, fewF.zero, nI_0.symm, fun i hi => absurd hi (by omega)⟩, nI_0.symm⟩
  exact this
end PLANC
