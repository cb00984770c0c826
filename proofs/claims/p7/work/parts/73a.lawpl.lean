/-! THE LAW, CALL BY CALL: what holds between the calls; what each call that tells something answers on both sides -/
/-- where the class keeps what the reference keeps in place j of cell k -/
def cm (k j : Nat) : Nat × Nat := if k = 7 then (39 + j, 0) else if k = 8 then (39 + j, 1) else if k = 9 then (39 + j, 2) else if k = 11 then (17 + j / 6, j % 6) else if k = 12 then (23 + j / 6, j % 6) else (29 + (k - 13), j)
/-- what was told, by the class's books; today T -/
def trS (σ : MS) (T : Nat) : MS := fun k j => if k = 0 then nI T else σ (cm k j).1 (cm k j).2
theorem trS_pl {σ : MS} {T p j : Nat} : trS σ T (13 + p) j = σ (29 + p) j := by
  unfold trS cm
  rw [if_neg (by omega), if_neg (by omega), if_neg (by omega), if_neg (by omega), if_neg (by omega), if_neg (by omega), show 13 + p - 13 = p by omega]
theorem trS_12 {σ : MS} {T j : Nat} : trS σ T 12 j = σ (23 + j / 6) (j % 6) := rfl
theorem trS_11 {σ : MS} {T j : Nat} : trS σ T 11 j = σ (17 + j / 6) (j % 6) := rfl
theorem cm_td {Γ : RG} {k j : Nat} (hP : Γ.1 ≤ 10) (h : rTd Γ k j) (h0 : k ≠ 0) : tdC (cm k j).1 (cm k j).2 := by
  unfold rTd at h
  unfold cm tdC
  rcases h with h | ⟨h | h | h, hj⟩ | ⟨h | h, hj⟩ | ⟨h, h2, h3⟩
  · omega
  · subst h; rw [if_pos rfl]; dsimp only; omega
  · subst h; rw [if_neg (by decide), if_pos rfl]; dsimp only; omega
  · subst h; rw [if_neg (by decide), if_neg (by decide), if_pos rfl]; dsimp only; omega
  · subst h; rw [if_neg (by decide), if_neg (by decide), if_neg (by decide), if_pos rfl]; dsimp only; omega
  · subst h; rw [if_neg (by decide), if_neg (by decide), if_neg (by decide), if_neg (by decide), if_pos rfl]; dsimp only; omega
  · rw [if_neg (by omega), if_neg (by omega), if_neg (by omega), if_neg (by omega), if_neg (by omega)]; dsimp only; omega
theorem trS_tk {σ τ : MS} {T : Nat} {Γ : RG} (hP : Γ.1 ≤ 10) (h : Tk σ τ) : ∀ k j, rTd Γ k j → trS τ T k j = trS σ T k j := fun k j hk => by
  unfold trS
  by_cases z : k = 0
  · rw [if_pos z, if_pos z]
  · rw [if_neg z, if_neg z]
    exact h _ _ (cm_td hP hk z)
theorem trS_day {σ τ : MS} {T S : Nat} {Γ : RG} (hP : Γ.1 ≤ 10) (h : Tk σ τ) : ∀ k j, rTd Γ k j → trS τ S k j = dyT (trS σ T) S k j := fun k j hk => by
  unfold dyT
  by_cases z : k = 0
  · subst z
    unfold rTd at hk
    obtain rfl : j = 1 := by omega
    rw [up2_same]
    rfl
  · rw [up2_off (by omega)]
    unfold trS
    rw [if_neg z, if_neg z]
    exact h _ _ (cm_td hP hk z)
theorem cm_ne {Γ : RG} {k j a b : Nat} (hP : Γ.1 ≤ 10) (h : rTd Γ k j) (h0 : k ≠ 0) (hab : rTd Γ a b) (a0 : a ≠ 0) (hne : ¬ (k = a ∧ j = b)) : ¬ ((cm k j).1 = (cm a b).1 ∧ (cm k j).2 = (cm a b).2) := by
  unfold rTd at h hab
  have v : ∀ {k j : Nat}, ((k = 0 ∧ j = 1) ∨ (k = 7 ∨ k = 8 ∨ k = 9) ∧ j < 16 ∨ (k = 11 ∨ k = 12) ∧ j < 36 ∨ 13 ≤ k ∧ k < 13 + Γ.1 ∧ (j = 1 ∨ j = 4)) → k ≠ 0 → ((k = 7 ∧ j < 16 ∧ cm k j = (39 + j, 0)) ∨ (k = 8 ∧ j < 16 ∧ cm k j = (39 + j, 1)) ∨ (k = 9 ∧ j < 16 ∧ cm k j = (39 + j, 2)) ∨ (k = 11 ∧ j < 36 ∧ cm k j = (17 + j / 6, j % 6)) ∨ (k = 12 ∧ j < 36 ∧ cm k j = (23 + j / 6, j % 6)) ∨ (13 ≤ k ∧ k < 23 ∧ cm k j = (29 + (k - 13), j))) := by
    intro k j h h0
    rcases h with h | ⟨h | h | h, hj⟩ | ⟨h | h, hj⟩ | ⟨h, h2, h3⟩
    · omega
    · subst h; exact Or.inl ⟨rfl, hj, rfl⟩
    · subst h; exact Or.inr (Or.inl ⟨rfl, hj, rfl⟩)
    · subst h; exact Or.inr (Or.inr (Or.inl ⟨rfl, hj, rfl⟩))
    · subst h; exact Or.inr (Or.inr (Or.inr (Or.inl ⟨rfl, hj, rfl⟩)))
    · subst h; exact Or.inr (Or.inr (Or.inr (Or.inr (Or.inl ⟨rfl, hj, rfl⟩))))
    · refine Or.inr (Or.inr (Or.inr (Or.inr (Or.inr ⟨h, by omega, ?_⟩))))
      unfold cm
      rw [if_neg (by omega), if_neg (by omega), if_neg (by omega), if_neg (by omega), if_neg (by omega)]
  rcases v h h0 with ⟨e1, e2, e3⟩ | ⟨e1, e2, e3⟩ | ⟨e1, e2, e3⟩ | ⟨e1, e2, e3⟩ | ⟨e1, e2, e3⟩ | ⟨e1, e2, e3⟩ <;> rcases v hab a0 with ⟨f1, f2, f3⟩ | ⟨f1, f2, f3⟩ | ⟨f1, f2, f3⟩ | ⟨f1, f2, f3⟩ | ⟨f1, f2, f3⟩ | ⟨f1, f2, f3⟩ <;> rw [e3, f3] <;> dsimp only <;> omega
theorem trS_set {σ : MS} {T a b : Nat} {v : Int32} {Γ : RG} (hP : Γ.1 ≤ 10) (hab : rTd Γ a b) (a0 : a ≠ 0) : ∀ k j, rTd Γ k j → trS (up2 σ (cm a b).1 (cm a b).2 v) T k j = up2 (trS σ T) a b v k j := fun k j hk => by
  by_cases z : k = a ∧ j = b
  · obtain ⟨rfl, rfl⟩ := z
    rw [up2_same]
    unfold trS
    rw [if_neg a0, up2_same]
  · rw [up2_off z]
    unfold trS
    by_cases y : k = 0
    · rw [if_pos y, if_pos y]
    · rw [if_neg y, if_neg y, up2_off (cm_ne hP hk y hab a0 z)]
theorem up2_cg {x y : MS} {a b k j : Nat} {v : Int32} (h : x k j = y k j) : up2 x a b v k j = up2 y a b v k j := by
  by_cases z : k = a ∧ j = b
  · obtain ⟨rfl, rfl⟩ := z; rw [up2_same, up2_same]
  · rw [up2_off z, up2_off z]; exact h
theorem cm_pl {p j : Nat} : cm (13 + p) j = (29 + p, j) := by
  unfold cm
  rw [if_neg (by omega), if_neg (by omega), if_neg (by omega), if_neg (by omega), if_neg (by omega), show 13 + p - 13 = p by omega]
theorem trS_setp {σ : MS} {T p b : Nat} {v : Int32} {Γ : RG} (hP : Γ.1 ≤ 10) (hp : p < Γ.1) (hb : b = 1 ∨ b = 4) : ∀ k j, rTd Γ k j → trS (up2 σ (29 + p) b v) T k j = up2 (trS σ T) (13 + p) b v k j := by
  have := trS_set (σ := σ) (T := T) (a := 13 + p) (b := b) (v := v) hP (by unfold rTd; omega) (by omega)
  rw [cm_pl] at this
  exact this
/-- what holds between the calls: each side's own; what was told is one -/
def LI (ea : Nat) (u : OU) (Y : RY) : Prop := ∃ T, CI u.1 Y.2.1.1 Y.2.1.2.1 T ∧ rOk (trS u.1 T) Y.2.1 Y.2.2 ∧ Y.2.1.2.2.2.1 = ea
/-- .. with today named -/
def LIT (ea T : Nat) (u : OU) (Y : RY) : Prop := CI u.1 Y.2.1.1 Y.2.1.2.1 T ∧ rOk (trS u.1 T) Y.2.1 Y.2.2 ∧ Y.2.1.2.2.2.1 = ea
theorem LIT.same {ea T : Nat} {u u' : OU} {Y Y' : RY} (hC : CI u'.1 Y.2.1.1 Y.2.1.2.1 T) (hk : Tk u.1 u'.1) (hO : rOk (trS u.1 T) Y'.2.1 Y'.2.2) (h1 : Y'.2.1.1 = Y.2.1.1) (h2 : Y'.2.1.2.1 = Y.2.1.2.1) (he : Y'.2.1.2.2.2.1 = ea) : LI ea u' Y' :=
  ⟨T, by rw [h1, h2]; exact hC, hO.reT (trS_tk (by rw [h1]; exact hC.hP) hk), he⟩
/-- what the class leaves of a call with outcome K (0: the answer V; else what is thrown) -/
def cQ (K V : Int32) (TT : MS) (P B T : Nat) (r : Int32) (u : OU) : Prop := r = K ∧ (K = 0 → u.2.1 = Int32.toInt64 V) ∧ CI u.1 P B T ∧ ∀ (Γ : RG), Γ.1 = P → ∀ k j, rTd Γ k j → trS u.1 T k j = TT k j
/-- .. and the reference -/
def rfQ (K V : Int32) (TT : MS) (P B ea : Nat) (r : Int32) (Y : RY) : Prop := Y.2.2 0 0 = K ∧ (K = 0 → r = V) ∧ rOk TT Y.2.1 Y.2.2 ∧ Y.2.1.1 = P ∧ Y.2.1.2.1 = B ∧ Y.2.1.2.2.2.1 = ea
theorem qq {K V : Int32} {TT : MS} {P B T ea : Nat} {r1 r2 : Int32} {u : OU} {Y : RY} (h1 : cQ K V TT P B T r1 u) (h2 : rfQ K V TT P B ea r2 Y) : Y.2.2 0 0 = r1 ∧ (r1 = 0 → u.2.1 = Int32.toInt64 r2) ∧ LI ea u Y := by
  obtain ⟨rfl, v1, c1, t1⟩ := h1
  obtain ⟨e2, v2, o2, p2, b2, a2⟩ := h2
  refine ⟨e2, fun z => by rw [v2 z]; exact v1 z, T, by rw [p2, b2]; exact c1, o2.reT (t1 _ p2), a2⟩
theorem sx {i L j : Nat} {v : Int32} (h : 7 * i + 7 ≤ L) (hL : L ≤ 3584) (hj : j < 7) (e : v = nI j) : vp_in (nI (7 * i) + v) L := by
  rw [e, nI_add]
  exact vp_in_nI (by omega) (by omega)
section SPEC
variable {ea T : Nat} {u : OU} {Y : RY} {a b c d : Int32}
theorem LIT.ci (I : LIT ea T u Y) : CI u.1 Y.2.1.1 Y.2.1.2.1 T := I.1
theorem LIT.ro (I : LIT ea T u Y) : rOk (trS u.1 T) Y.2.1 Y.2.2 := I.2.1
theorem keepT {σ : MS} {T : Nat} : ∀ (Γ : RG), Γ.1 = Y.2.1.1 → ∀ k j, rTd Γ k j → trS σ T k j = trS σ T k j := fun _ _ _ _ _ => rfl
theorem sp_learn (I : LIT ea T u Y) (a b : Int32) : ∃ (K V : Int32) (TT : MS) (P B T : Nat),
    w_T_X7_learn (fun v τ => cQ K V TT P B T 0 (τ, Int32.toInt64 v, u.2.2)) (fun E τ => (E = xIO ∧ cQ K V TT P B T 1 (τ, u.2)) ∨ (E = xIA ∧ cQ K V TT P B T 2 (τ, u.2))) u.1 a b ∧
    w_X11_learn Y.2.1 (fun r τ => rfQ K V TT P B ea r (Y.1, Y.2.1, τ)) Y.2.2 a b := by
  have C := I.ci
  have O := I.ro
  have he := I.2.2
  by_cases h1 : ∃ p, p < Y.2.1.1 ∧ a = nI p
  · obtain ⟨p, hp, rfl⟩ := h1
    have hP := O.hP
    have same : ∀ {q}, q < Y.2.1.1 → nI p = nI q → q = p := fun hq e => ((nI_eq (by omega) (by omega)).mp e).symm
    by_cases h2 : 0 ≤ b ∧ b < 65536
    · refine ⟨0, bcI (u.1 (29 + p) 1 ||| b), up2 (trS u.1 T) (13 + p) 1 (trS u.1 T (13 + p) 1 ||| b), Y.2.1.1, Y.2.1.2.1, T, cs_learn C (fun no => absurd rfl (no p hp)) (fun q hq e no => absurd h2 no) (fun q hq e _ τ hτ C' => ?_), sf_learn O (fun no => absurd rfl (no p hp)) (fun q hq e no => absurd h2 no) (fun q hq e _ τ O' z => ?_)⟩
      · obtain rfl := same hq e
        subst hτ
        exact ⟨rfl, fun _ => rfl, C', fun Γ hΓ k j hk => (trS_setp (by omega) (by omega) (Or.inl rfl) k j hk).trans (by rw [trS_pl])⟩
      · obtain rfl := same hq e
        exact ⟨z, fun _ => by rw [trS_pl], O', rfl, rfl, he⟩
    · exact ⟨2, 0, trS u.1 T, Y.2.1.1, Y.2.1.2.1, T, cs_learn C (fun no => absurd rfl (no p hp)) (fun q hq e no => Or.inr ⟨rfl, rfl, fun z => absurd z (by decide), C, fun _ _ _ _ _ => rfl⟩) (fun q hq e ok => absurd ok h2), sf_learn O (fun no => absurd rfl (no p hp)) (fun q hq e no τ O' z => ⟨z, fun z => absurd z (by decide), O', rfl, rfl, he⟩) (fun q hq e ok => absurd ok h2)⟩
  · have no : ∀ p, p < Y.2.1.1 → a ≠ nI p := fun p hp e => h1 ⟨p, hp, e⟩
    exact ⟨1, 0, trS u.1 T, Y.2.1.1, Y.2.1.2.1, T, cs_learn C (fun _ => Or.inl ⟨rfl, rfl, fun z => absurd z (by decide), C, fun _ _ _ _ _ => rfl⟩) (fun q hq e => absurd e (no q hq)) (fun q hq e => absurd e (no q hq)), sf_learn O (fun _ τ O' z => ⟨z, fun z => absurd z (by decide), O', rfl, rfl, he⟩) (fun q hq e => absurd e (no q hq)) (fun q hq e => absurd e (no q hq))⟩
theorem sg_ok {k e m : Int32} : sgOk k e m ↔ sgOkR k e m := by
  unfold sgOk sgOkR
  rw [rIsF_0, rIsF_0, rIsF_0]
  simp only [Int32.lt_iff_toInt_lt, Int32.le_iff_toInt_le]
  have e0 : (0 : Int32).toInt = 0 := by decide
  have e2 : (2 : Int32).toInt = 2 := by decide
  have e9 : (9 : Int32).toInt = 9 := by decide
  have e10 : (10 : Int32).toInt = 10 := by decide
  have e11 : (11 : Int32).toInt = 11 := by decide
  have e12 : (12 : Int32).toInt = 12 := by decide
  omega
theorem sp_song (I : LIT ea T u Y) (a b c d : Int32) : ∃ (K V : Int32) (TT : MS) (P B T : Nat),
    w_T_X7_song (fun v τ => cQ K V TT P B T 0 (τ, Int32.toInt64 v, u.2.2)) (fun E τ => (E = xIO ∧ cQ K V TT P B T 1 (τ, u.2)) ∨ (E = xIA ∧ cQ K V TT P B T 2 (τ, u.2))) u.1 a b c d ∧
    w_X11_song Y.2.1 (fun r τ => rfQ K V TT P B ea r (Y.1, Y.2.1, τ)) Y.2.2 a b c d := by
  have C := I.ci
  have O := I.ro
  have he := I.2.2
  by_cases h1 : ∃ s, s < 16 ∧ a = nI s
  · obtain ⟨p, hp, rfl⟩ := h1
    have hP := O.hP
    have same : ∀ {q}, q < 16 → nI p = nI q → q = p := fun hq e => ((nI_eq (by omega) (by omega)).mp e).symm
    by_cases h2 : sgOk b c d
    · refine ⟨0, u.1 (39 + p) 2, sgT (trS u.1 T) p b c d, Y.2.1.1, Y.2.1.2.1, T, cs_song C (fun no => absurd rfl (no p hp)) (fun q hq e no => absurd h2 no) (fun q hq e _ τ hτ C' => ?_), sf_song O (fun no => absurd rfl (no p hp)) (fun q hq e no => absurd (sg_ok.mp h2) no) (fun q hq e _ τ O' z => ?_)⟩
      · obtain rfl := same hq e
        subst hτ
        refine ⟨rfl, fun _ => rfl, C', fun Γ hΓ k j hk => ?_⟩
        unfold songS sgT
        have s1 := trS_set (σ := up2 (up2 u.1 (39 + q) 0 b) (39 + q) 1 c) (T := T) (a := 9) (b := q) (v := d) (Γ := Γ) (by omega) (by unfold rTd; omega) (by decide) k j hk
        have s2 := trS_set (σ := up2 u.1 (39 + q) 0 b) (T := T) (a := 8) (b := q) (v := c) (Γ := Γ) (by omega) (by unfold rTd; omega) (by decide) k j hk
        have s3 := trS_set (σ := u.1) (T := T) (a := 7) (b := q) (v := b) (Γ := Γ) (by omega) (by unfold rTd; omega) (by decide) k j hk
        exact s1.trans (up2_cg (s2.trans (up2_cg s3)))
      · obtain rfl := same hq e
        exact ⟨z, fun _ => rfl, O', rfl, rfl, he⟩
    · exact ⟨2, 0, trS u.1 T, Y.2.1.1, Y.2.1.2.1, T, cs_song C (fun no => absurd rfl (no p hp)) (fun q hq e no => Or.inr ⟨rfl, rfl, fun z => absurd z (by decide), C, fun _ _ _ _ _ => rfl⟩) (fun q hq e ok => absurd ok h2), sf_song O (fun no => absurd rfl (no p hp)) (fun q hq e no τ O' z => ⟨z, fun z => absurd z (by decide), O', rfl, rfl, he⟩) (fun q hq e ok => absurd (sg_ok.mpr ok) h2)⟩
  · have no : ∀ p, p < 16 → a ≠ nI p := fun p hp e => h1 ⟨p, hp, e⟩
    exact ⟨1, 0, trS u.1 T, Y.2.1.1, Y.2.1.2.1, T, cs_song C (fun _ => Or.inl ⟨rfl, rfl, fun z => absurd z (by decide), C, fun _ _ _ _ _ => rfl⟩) (fun q hq e => absurd e (no q hq)) (fun q hq e => absurd e (no q hq)), sf_song O (fun _ τ O' z => ⟨z, fun z => absurd z (by decide), O', rfl, rfl, he⟩) (fun q hq e => absurd e (no q hq)) (fun q hq e => absurd e (no q hq))⟩
theorem sp_feud (I : LIT ea T u Y) (a b c : Int32) (hc : c = 0 ∨ c = 1) : ∃ (K V : Int32) (TT : MS) (P B T : Nat),
    w_T_X7_feud (fun v τ => cQ K V TT P B T 0 (τ, (if v = 0 then 0 else 1), u.2.2)) (fun E τ => (E = xIO ∧ cQ K V TT P B T 1 (τ, u.2)) ∨ (E = xIA ∧ cQ K V TT P B T 2 (τ, u.2))) u.1 a b c ∧
    w_X11_feud Y.2.1 (fun r τ => rfQ K V TT P B ea r (Y.1, Y.2.1, τ) ∧ (r = 0 ∨ r = 1)) Y.2.2 a b c := by
  have C := I.ci
  have O := I.ro
  have he := I.2.2
  have hP := O.hP
  by_cases h1 : ∃ p, p < Y.2.1.1 ∧ a = nI p
  · obtain ⟨p, hp, rfl⟩ := h1
    have same : ∀ {q}, q < Y.2.1.1 → nI p = nI q → q = p := fun hq e => ((nI_eq (by omega) (by omega)).mp e).symm
    by_cases h2 : ∃ p, p < Y.2.1.1 ∧ b = nI p
    · obtain ⟨p2, hp2, rfl⟩ := h2
      have same2 : ∀ {q}, q < Y.2.1.1 → nI p2 = nI q → q = p2 := fun hq e => ((nI_eq (by omega) (by omega)).mp e).symm
      have n12 : ¬ ((∀ q, q < Y.2.1.1 → nI p ≠ nI q) ∨ ∀ q, q < Y.2.1.1 → nI p2 ≠ nI q) := fun z => z.elim (fun z => z p hp rfl) (fun z => z p2 hp2 rfl)
      by_cases h3 : p = p2
      · subst h3
        exact ⟨2, 0, trS u.1 T, Y.2.1.1, Y.2.1.2.1, T, cs_feud C hc (fun z => absurd z n12) (fun _ _ _ _ => Or.inr ⟨rfl, rfl, fun z => absurd z (by decide), C, fun _ _ _ _ _ => rfl⟩) (fun q q2 hq hq2 e e2 hne => absurd ((same hq e).trans (same hq2 e2).symm) hne), sf_feud O (fun z => absurd z n12) (fun _ _ _ _ τ O' z => ⟨⟨z, fun z => absurd z (by decide), O', rfl, rfl, he⟩, Or.inl rfl⟩) (fun q q2 hq hq2 e e2 hne => absurd ((same hq e).trans (same hq2 e2).symm) hne)⟩
      · refine ⟨0, b01 (bt (u.1 (29 + p) 4) p2), fedT (trS u.1 T) p p2 c, Y.2.1.1, Y.2.1.2.1, T, cs_feud C hc (fun z => absurd z n12) (fun q hq e e2 => absurd ((same hq e).symm.trans (same2 hq e2)) h3) (fun q q2 hq hq2 e e2 hne τ hτ C' => ?_), sf_feud O (fun z => absurd z n12) (fun q hq e e2 => absurd ((same hq e).symm.trans (same2 hq e2)) h3) (fun q q2 hq hq2 e e2 hne τ O' z => ?_)⟩
        · obtain rfl := same hq e
          obtain rfl := same2 hq2 e2
          subst hτ
          refine ⟨rfl, fun _ => ?_, C', fun Γ hΓ k j hk => ?_⟩
          · show (if b01 (bt (u.1 (29 + q) 4) q2) = 0 then (0 : Int64) else 1) = _
            cases bt (u.1 (29 + q) 4) q2 <;> rfl
          · unfold fedT
            rw [trS_pl, trS_pl]
            exact (trS_setp (by omega) (by omega) (Or.inr rfl) k j hk).trans (up2_cg (trS_setp (by omega) (by omega) (Or.inr rfl) k j hk))
        · obtain rfl := same hq e
          obtain rfl := same2 hq2 e2
          refine ⟨⟨z, fun _ => by rw [trS_pl], O', rfl, rfl, he⟩, ?_⟩
          cases bt (trS u.1 T (13 + q) 4) q2
          · exact Or.inl rfl
          · exact Or.inr rfl
    · have no : ∀ p, p < Y.2.1.1 → b ≠ nI p := fun p hp e => h2 ⟨p, hp, e⟩
      exact ⟨1, 0, trS u.1 T, Y.2.1.1, Y.2.1.2.1, T, cs_feud C hc (fun _ => Or.inl ⟨rfl, rfl, fun z => absurd z (by decide), C, fun _ _ _ _ _ => rfl⟩) (fun q hq _ e => absurd e (no q hq)) (fun q q2 hq hq2 _ e => absurd e (no q2 hq2)), sf_feud O (fun _ τ O' z => ⟨⟨z, fun z => absurd z (by decide), O', rfl, rfl, he⟩, Or.inl rfl⟩) (fun q hq _ e => absurd e (no q hq)) (fun q q2 hq hq2 _ e => absurd e (no q2 hq2))⟩
  · have no : ∀ p, p < Y.2.1.1 → a ≠ nI p := fun p hp e => h1 ⟨p, hp, e⟩
    exact ⟨1, 0, trS u.1 T, Y.2.1.1, Y.2.1.2.1, T, cs_feud C hc (fun _ => Or.inl ⟨rfl, rfl, fun z => absurd z (by decide), C, fun _ _ _ _ _ => rfl⟩) (fun q hq e => absurd e (no q hq)) (fun q q2 hq _ e => absurd e (no q hq)), sf_feud O (fun _ τ O' z => ⟨⟨z, fun z => absurd z (by decide), O', rfl, rfl, he⟩, Or.inl rfl⟩) (fun q hq e => absurd e (no q hq)) (fun q q2 hq _ e => absurd e (no q hq))⟩
theorem rd_ok {i j : Nat} {h : Int32} (hi : i < 6) (hj : j < 6) : rdOk (nI i) (nI j) h ↔ ¬ (i = j ∨ rIsF h 0 9 = 0) := by
  unfold rdOk
  rw [nI_eq (by omega) (by omega), rIsF_0]
  simp only [Int32.lt_iff_toInt_lt, Int32.le_iff_toInt_le]
  omega
theorem wy_tr {σ ρ : MS} {Γ : RG} (O : rOk (trS σ T) Γ ρ) : Wy σ ρ := fun a b ha hb => by
  have e1 := O.tld (k := 12) (j := a * 6 + b) (by unfold rTd; omega)
  have e2 := O.tld (k := 11) (j := a * 6 + b) (by unfold rTd; omega)
  rw [e1, e2, trS_12, trS_11]
  rw [show (a * 6 + b) / 6 = a by omega, show (a * 6 + b) % 6 = b by omega]
  exact ⟨rfl, rfl⟩
theorem sp_road (I : LIT ea T u Y) (a b c : Int32) : ∃ (K V : Int32) (TT : MS) (P B T : Nat),
    w_T_X7_road (fun v τ => cQ K V TT P B T 0 (τ, Int32.toInt64 v, u.2.2)) (fun E τ => (E = xIO ∧ cQ K V TT P B T 1 (τ, u.2)) ∨ (E = xIA ∧ cQ K V TT P B T 2 (τ, u.2))) u.1 a b c ∧
    w_X11_road Y.2.1 (fun r τ => rfQ K V TT P B ea r (Y.1, Y.2.1, τ)) Y.2.2 a b c := by
  have C := I.ci
  have O := I.ro
  have he := I.2.2
  have hP := O.hP
  have hw := wy_tr O
  by_cases h1 : ∃ p, p < 6 ∧ a = nI p
  · obtain ⟨i, hi, rfl⟩ := h1
    have same : ∀ {q}, q < 6 → nI i = nI q → q = i := fun hq e => ((nI_eq (by omega) (by omega)).mp e).symm
    by_cases h2 : ∃ p, p < 6 ∧ b = nI p
    · obtain ⟨j, hj, rfl⟩ := h2
      have same2 : ∀ {q}, q < 6 → nI j = nI q → q = j := fun hq e => ((nI_eq (by omega) (by omega)).mp e).symm
      have hjj := hj
      have n12 : ¬ ((∀ q, q < 6 → nI i ≠ nI q) ∨ ∀ q, q < 6 → nI j ≠ nI q) := fun z => z.elim (fun z => z i hi rfl) (fun z => z j hj rfl)
      by_cases h3 : rdOk (nI i) (nI j) c
      · have h4 := (rd_ok hi hj).mp h3
        refine ⟨0, layS u.1 i j c (23 + i) j, trS (layS u.1 i j c) T, Y.2.1.1, Y.2.1.2.1, T, cs_road C (fun z => absurd z n12) (fun _ _ _ _ _ _ no => absurd h3 no) (fun p q hp hq e e2 _ τ hτ C' => ?_), sf_road O hw (fun z => absurd z n12) (fun p q hp hq e e2 z => ?_) (fun p q hp hq e e2 _ _ τ O' W => ?_)⟩
        · obtain rfl := same hp e
          obtain rfl := same2 hq e2
          refine ⟨rfl, fun _ => rfl, C', fun Γ _ k j _ => ?_⟩
          show trS τ T k j = _
          rw [hτ]
        · obtain rfl := same hp e
          obtain rfl := same2 hq e2
          exact absurd z h4
        · obtain rfl := same hp e
          obtain rfl := same2 hq e2
          refine ⟨O'.2, fun _ => rfl, O'.1.reT (fun k n hk => ?_), rfl, rfl, he⟩
          by_cases q12 : k = 12
          · subst q12
            have hn : n < 36 := by unfold rTd at hk; omega
            have := (W (n / 6) (n % 6) (by omega) (by omega)).1
            rw [show n / 6 * 6 + n % 6 = n by omega] at this
            unfold w12
            rw [if_pos rfl]
            exact trS_12.trans this.symm
          · by_cases q11 : k = 11
            · subst q11
              have hn : n < 36 := by unfold rTd at hk; omega
              have := (W (n / 6) (n % 6) (by omega) (by omega)).2
              rw [show n / 6 * 6 + n % 6 = n by omega, O'.1.tld hk] at this
              exact trS_11.trans this.symm
            · unfold w12 rdT
              rw [if_neg q12, up2_off (by omega), up2_off (by omega)]
              unfold trS
              by_cases q0 : k = 0
              · rw [if_pos q0, if_pos q0]
              · rw [if_neg q0, if_neg q0]
                unfold rTd at hk
                unfold cm
                rcases hk with h | ⟨h | h | h, hj⟩ | ⟨h | h, hj⟩ | ⟨h, h2, h3⟩
                · omega
                · subst h; rw [if_pos rfl]; exact tl_lay u.1 hi hjj n 0
                · subst h; rw [if_neg (by decide), if_pos rfl]; exact tl_lay u.1 hi hjj n 1
                · subst h; rw [if_neg (by decide), if_neg (by decide), if_pos rfl]; exact tl_lay u.1 hi hjj n 2
                · omega
                · omega
                · rw [if_neg (by omega), if_neg (by omega), if_neg (by omega), if_neg (by omega), if_neg (by omega)]
                  exact tk_lay u.1 hi hjj (k - 13) n (by omega)
      · have h4 : i = j ∨ rIsF c 0 9 = 0 := Decidable.byContradiction fun z => h3 ((rd_ok hi hj).mpr z)
        refine ⟨2, 0, trS u.1 T, Y.2.1.1, Y.2.1.2.1, T, cs_road C (fun z => absurd z n12) (fun _ _ _ _ _ _ _ => Or.inr ⟨rfl, rfl, fun z => absurd z (by decide), C, fun _ _ _ _ _ => rfl⟩) (fun p q hp hq e e2 ok => absurd ok h3), sf_road O hw (fun z => absurd z n12) (fun p q hp hq e e2 _ τ O' z => ⟨z, fun z => absurd z (by decide), O', rfl, rfl, he⟩) (fun p q hp hq e e2 ne no => ?_)⟩
        obtain rfl := same hp e
        obtain rfl := same2 hq e2
        exact (h4.elim (fun z => absurd z ne) (fun z => absurd z no))
    · have no : ∀ p, p < 6 → b ≠ nI p := fun p hp e => h2 ⟨p, hp, e⟩
      exact ⟨1, 0, trS u.1 T, Y.2.1.1, Y.2.1.2.1, T, cs_road C (fun _ => Or.inl ⟨rfl, rfl, fun z => absurd z (by decide), C, fun _ _ _ _ _ => rfl⟩) (fun _ q _ hq _ e => absurd e (no q hq)) (fun _ q _ hq _ e => absurd e (no q hq)), sf_road O hw (fun _ τ O' z => ⟨z, fun z => absurd z (by decide), O', rfl, rfl, he⟩) (fun _ q _ hq _ e => absurd e (no q hq)) (fun _ q _ hq _ e => absurd e (no q hq))⟩
  · have no : ∀ p, p < 6 → a ≠ nI p := fun p hp e => h1 ⟨p, hp, e⟩
    exact ⟨1, 0, trS u.1 T, Y.2.1.1, Y.2.1.2.1, T, cs_road C (fun _ => Or.inl ⟨rfl, rfl, fun z => absurd z (by decide), C, fun _ _ _ _ _ => rfl⟩) (fun q _ hq _ e => absurd e (no q hq)) (fun q _ hq _ e => absurd e (no q hq)), sf_road O hw (fun _ τ O' z => ⟨z, fun z => absurd z (by decide), O', rfl, rfl, he⟩) (fun q _ hq _ e => absurd e (no q hq)) (fun q _ hq _ e => absurd e (no q hq))⟩
theorem sp_drive (I : LIT ea T u Y) (a b : Int32) : ∃ (K V : Int32) (TT : MS) (P B T : Nat),
    w_T_X7_drive (fun v τ => cQ K V TT P B T 0 (τ, Int32.toInt64 v, u.2.2)) (fun E τ => (E = xIO ∧ cQ K V TT P B T 1 (τ, u.2))) u.1 a b ∧
    w_X11_drive_ Y.2.1 (fun r τ => rfQ K V TT P B ea r (Y.1, Y.2.1, τ)) Y.2.2 a b := by
  have C := I.ci
  have O := I.ro
  have he := I.2.2
  have hw := wy_tr O
  have O0 := O.up (k := 0) (j := 0) (v := 0) (by unfold rPr; omega)
  by_cases h1 : ∃ p, p < 6 ∧ a = nI p
  · obtain ⟨i, hi, rfl⟩ := h1
    have same : ∀ {q}, q < 6 → nI i = nI q → q = i := fun hq e => ((nI_eq (by omega) (by omega)).mp e).symm
    by_cases h2 : ∃ p, p < 6 ∧ b = nI p
    · obtain ⟨j, hj, rfl⟩ := h2
      have same2 : ∀ {q}, q < 6 → nI j = nI q → q = j := fun hq e => ((nI_eq (by omega) (by omega)).mp e).symm
      have n12 : ¬ ((∀ q, q < 6 → nI i ≠ nI q) ∨ ∀ q, q < 6 → nI j ≠ nI q) := fun z => z.elim (fun z => z i hi rfl) (fun z => z j hj rfl)
      refine ⟨0, u.1 (23 + i) j, trS u.1 T, Y.2.1.1, Y.2.1.2.1, T, cs_drive C (fun z => absurd z n12) (fun p q hp hq e e2 => ?_), ?_⟩
      · obtain rfl := same hp e
        obtain rfl := same2 hq e2
        exact ⟨rfl, fun _ => rfl, C, fun _ _ _ _ _ => rfl⟩
      · unfold w_X11_drive_ u_X11_drive__28
        refine sx_isTown (fun no => absurd rfl (no i hi)) (fun _ r _ _ hr => ⟨fun z => absurd z hr, fun _ => sx_isTown (fun no => absurd rfl (no j hj)) (fun _ r _ _ hr => ⟨fun z => absurd z hr, fun _ => ⟨ix36 hi hj, ?_⟩⟩)⟩)
        rw [x6 hi hj]
        have e00 : up2 Y.2.2 0 0 0 0 0 = 0 := up2_same
        exact ⟨e00, fun _ => (up2_off (by omega)).trans (hw i j hi hj).1, O0, rfl, rfl, he⟩
    · have no : ∀ p, p < 6 → b ≠ nI p := fun p hp e => h2 ⟨p, hp, e⟩
      refine ⟨1, 0, trS u.1 T, Y.2.1.1, Y.2.1.2.1, T, cs_drive C (fun _ => ⟨rfl, rfl, fun z => absurd z (by decide), C, fun _ _ _ _ _ => rfl⟩) (fun _ q _ hq _ e => absurd e (no q hq)), ?_⟩
      unfold w_X11_drive_ u_X11_drive__28
      exact sx_isTown (fun n => absurd rfl (n i hi)) (fun _ r _ _ hr => ⟨fun z => absurd z hr, fun _ => sx_isTown (fun _ => ⟨fun _ => sx_refuse O0 (fun τ O' z => ⟨z, fun z => absurd z (by decide), O', rfl, rfl, he⟩), fun z => absurd rfl z⟩) (fun q _ hq e _ => absurd e (no q hq))⟩)
  · have no : ∀ p, p < 6 → a ≠ nI p := fun p hp e => h1 ⟨p, hp, e⟩
    refine ⟨1, 0, trS u.1 T, Y.2.1.1, Y.2.1.2.1, T, cs_drive C (fun _ => ⟨rfl, rfl, fun z => absurd z (by decide), C, fun _ _ _ _ _ => rfl⟩) (fun q _ hq _ e => absurd e (no q hq)), ?_⟩
    unfold w_X11_drive_ u_X11_drive__28
    exact sx_isTown (fun _ => ⟨fun _ => sx_refuse O0 (fun τ O' z => ⟨z, fun z => absurd z (by decide), O', rfl, rfl, he⟩), fun z => absurd rfl z⟩) (fun q _ hq e _ => absurd e (no q hq))
theorem sp_band (I : LIT ea T u Y) (a : Int32) : ∃ (K V : Int32) (TT : MS) (P B T : Nat),
    w_T_X7_band (fun v τ => cQ K V TT P B T 0 (τ, Int32.toInt64 v, u.2.2)) (fun E τ => (E = xIA ∧ cQ K V TT P B T 1 (τ, u.2)) ∨ (E = xIS ∧ cQ K V TT P B T 2 (τ, u.2))) u.1 a ∧
    w_X11_band Y.1 Y.2.1 (fun r Y' => rfQ K V TT P B ea r Y' ∧ Y'.2.1.2.2.2.1 = Y.2.1.2.2.2.1) Y.2.2 a := by
  have C := I.ci
  have O := I.ro
  have he := I.2.2
  have hB := O.hB
  by_cases h1 : ¬ rIsF a 1 728 = 0 ∧ rNeeds a 6 ≤ 5
  · obtain ⟨n1, n2⟩ := h1
    obtain ⟨m, hm1, hm2, rfl⟩ := rIs_rg (lo := 1) (hi := 728) (by decide) n1 (by decide)
    have n12 : ¬ (rIsF (nI m) 1 728 = 0 ∨ ¬ rNeeds (nI m) 6 ≤ 5) := fun z => z.elim n1 (fun z => z n2)
    have n3 : ¬ ∀ q, 1 ≤ q → q ≤ 728 → nI m = nI q → ¬ (szI (nI q) 6).1 ≤ 5 := fun z => z m hm1 hm2 rfl (by rw [sz_need]; exact n2)
    by_cases h2 : Y.2.1.2.1 = 6
    · exact ⟨2, 0, trS u.1 T, Y.2.1.1, Y.2.1.2.1, T, cs_band C (fun z => absurd z n3) (fun _ _ _ _ _ _ => Or.inr ⟨rfl, rfl, fun z => absurd z (by decide), C, fun _ _ _ _ _ => rfl⟩) (fun _ _ _ _ _ h => absurd h (by omega)), sf_band O (fun z => absurd z n12) (fun _ _ _ τ O' z => ⟨⟨z, fun z => absurd z (by decide), O', rfl, rfl, he⟩, rfl⟩) (fun _ _ h => absurd h (by omega))⟩
    · refine ⟨0, nI Y.2.1.2.1, trS u.1 T, Y.2.1.1, Y.2.1.2.1 + 1, T, cs_band C (fun z => absurd z n3) (fun _ _ _ _ _ h => absurd h (by omega)) (fun q _ _ e _ _ τ C' hk => ⟨rfl, fun _ => rfl, C', fun Γ hΓ => trS_tk (by rw [hΓ]; exact C.hP) hk⟩), sf_band O (fun z => absurd z n12) (fun _ _ h => absurd h h2) (fun _ _ _ lay' Γ' τ g1 g2 g3 O' z => ⟨⟨z, fun _ => rfl, O', g1, g2, g3.trans he⟩, g3⟩)⟩
  · have no : ∀ m, 1 ≤ m → m ≤ 728 → a = nI m → ¬ (szI (nI m) 6).1 ≤ 5 := fun m hm1 hm2 e z => h1 ⟨fun y => rIs_nor (lo := 1) (hi := 728) (by decide) y m hm1 hm2 e, by rw [sz_need] at z; rw [e]; exact z⟩
    exact ⟨1, 0, trS u.1 T, Y.2.1.1, Y.2.1.2.1, T, cs_band C (fun _ => Or.inl ⟨rfl, rfl, fun z => absurd z (by decide), C, fun _ _ _ _ _ => rfl⟩) (fun q q1 q2 e z => absurd z (no q q1 q2 e)) (fun q q1 q2 e z => absurd z (no q q1 q2 e)), sf_band O (fun _ τ O' z => ⟨⟨z, fun z => absurd z (by decide), O', rfl, rfl, he⟩, rfl⟩) (fun y1 y2 => absurd ⟨y1, y2⟩ h1) (fun y1 y2 => absurd ⟨y1, y2⟩ h1)⟩
theorem sp_pass (I : LIT ea T u Y) (a : Int32) : ∃ (K V : Int32) (TT : MS) (P B T : Nat),
    w_T_X7_pass (fun v τ => cQ K V TT P B T 0 (τ, Int32.toInt64 v, u.2.2)) (fun E τ => (E = xIA ∧ cQ K V TT P B T 1 (τ, u.2)) ∨ (E = xIS ∧ cQ K V TT P B T 2 (τ, u.2))) u.1 a ∧
    w_X11_pass Y.2.1 (fun r τ => rfQ K V TT P B ea r (Y.1, Y.2.1, τ)) Y.2.2 a := by
  have C := I.ci
  have O := I.ro
  have he := I.2.2
  have hT := C.hT
  have eT : trS u.1 T 0 1 = nI T := if_pos rfl
  by_cases h1 : ∃ d, 1 ≤ d ∧ d ≤ 60 ∧ a = nI d
  · obtain ⟨d, hd1, hd2, rfl⟩ := h1
    have same : ∀ {q}, q ≤ 60 → nI d = nI q → q = d := fun hq e => ((nI_eq (by omega) (by omega)).mp e).symm
    by_cases h2 : T + d ≤ 365
    · refine ⟨0, nI (T + d), dyT (trS u.1 T) (T + d), Y.2.1.1, Y.2.1.2.1, T + d, cs_pass C (fun no => absurd rfl (no d hd1 hd2)) (fun q _ hq e z => ?_) (fun q _ hq e _ τ C' hk => ?_), sf_pass O eT hT (fun no => absurd rfl (no d hd1 hd2)) (fun q _ hq e z => ?_) (fun q _ hq e _ τ O' z => ?_)⟩
      · obtain rfl := same hq e
        omega
      · obtain rfl := same hq e
        exact ⟨rfl, fun _ => rfl, C', fun Γ hΓ => trS_day (by rw [hΓ]; exact C.hP) hk⟩
      · obtain rfl := same hq e
        omega
      · obtain rfl := same hq e
        exact ⟨z, fun _ => rfl, O', rfl, rfl, he⟩
    · refine ⟨2, 0, trS u.1 T, Y.2.1.1, Y.2.1.2.1, T, cs_pass C (fun no => absurd rfl (no d hd1 hd2)) (fun q _ hq e z => Or.inr ⟨rfl, rfl, fun z => absurd z (by decide), C, fun _ _ _ _ _ => rfl⟩) (fun q _ hq e z => ?_), sf_pass O eT hT (fun no => absurd rfl (no d hd1 hd2)) (fun q _ hq e _ τ O' z => ⟨z, fun z => absurd z (by decide), O', rfl, rfl, he⟩) (fun q _ hq e z => ?_)⟩
      · obtain rfl := same hq e
        exact absurd z h2
      · obtain rfl := same hq e
        exact absurd z h2
  · have no : ∀ d, 1 ≤ d → d ≤ 60 → a ≠ nI d := fun d h2 h3 e => h1 ⟨d, h2, h3, e⟩
    exact ⟨1, 0, trS u.1 T, Y.2.1.1, Y.2.1.2.1, T, cs_pass C (fun _ => Or.inl ⟨rfl, rfl, fun z => absurd z (by decide), C, fun _ _ _ _ _ => rfl⟩) (fun q q1 q2 e => absurd e (no q q1 q2)) (fun q q1 q2 e => absurd e (no q q1 q2)), sf_pass O eT hT (fun _ τ O' z => ⟨z, fun z => absurd z (by decide), O', rfl, rfl, he⟩) (fun q q1 q2 e => absurd e (no q q1 q2)) (fun q q1 q2 e => absurd e (no q q1 q2))⟩
theorem sp_set (I : LIT ea T u Y) (a b : Int32) : ∃ (K V : Int32) (TT : MS) (P B T : Nat),
    w_T_X7_set (fun v τ => cQ K V TT P B T 0 (τ, Int32.toInt64 v, u.2.2)) (fun E τ => (E = xIA ∧ cQ K V TT P B T 1 (τ, u.2))) u.1 a b ∧
    w_X11_set Y.2.1 (fun r τ => rfQ K V TT P B ea r (Y.1, Y.2.1, τ)) Y.2.2 a b := by
  have C := I.ci
  have O := I.ro
  have he := I.2.2
  have hP := O.hP
  obtain ⟨W, Oc, Kc, F⟩ := id C
  have hp : ∀ s, s < 16 → (bt (playF u.1 a Y.2.1.1) s = true ↔ knP (fun q => Y.2.2 (13 + q) 1) a Y.2.1.1 s) := fun s hs => by
    rw [playF_bt]
    unfold knP
    rw [knC_cg (K := fun p => u.1 (29 + p) 1) (L := fun q => Y.2.2 (13 + q) 1) _ (fun p hp => (trS_pl (T := T)).symm.trans (O.tld (by unfold rTd; omega)).symm)]
  by_cases h1 : 0 ≤ a ∧ a < nI (2 ^ Y.2.1.1)
  · obtain ⟨y, hy⟩ : ∃ y, y = setS u.1 a Y.2.1.1 := ⟨_, rfl⟩
    have hsc : Scr u.1 y := by rw [hy]; exact Scr.set _ _ _
    refine ⟨0, setR y b, trS u.1 T, Y.2.1.1, Y.2.1.2.1, T, law_T_set Oc (fun z => absurd h1 z) (fun _ _ => ?_), sx_set O hp (fun z => absurd h1 z) (fun _ len R G hl hG hrw τ O' z => ⟨z, fun _ => ?_, O', rfl, rfl, he⟩)⟩
    · rw [← hy]
      exact ⟨rfl, fun _ => rfl, C.scr hsc, fun Γ hΓ => trS_tk (by rw [hΓ]; exact hP) (Tk.scr hsc)⟩
    have hs : sgV u.1 (up2 Y.2.2 0 0 0) := fun s hs => by
      refine ⟨?_, ?_, ?_⟩
      · rw [up2_off (by omega), O.tld (k := 7) (j := s) (by unfold rTd; omega)]; rfl
      · rw [up2_off (by omega), O.tld (k := 8) (j := s) (by unfold rTd; omega)]; rfl
      · rw [up2_off (by omega), O.tld (k := 9) (j := s) (by unfold rTd; omega)]; rfl
    obtain ⟨R2, n2, e0, e1, e2, e3, e4⟩ := cho_best (pb := playF u.1 a Y.2.1.1) hs F.2.2 hG
    obtain ⟨q1, q2⟩ := hrw.eq e1
    have es : rwSum (fun s => up2 Y.2.2 0 0 0 9 s) R len = rwSum (fun s => up2 Y.2.2 0 0 0 9 s) R2 n2 := by
      rw [← q1]
      exact rwSum_R len q2
    unfold setS at hy
    rw [← hy] at e3 e4
    unfold setR
    by_cases c : b = 0
    · rw [if_pos c, if_pos c, e3, q1]
    · rw [if_neg c, if_neg c, e4, es]
  · exact ⟨1, 0, trS u.1 T, Y.2.1.1, Y.2.1.2.1, T, law_T_set Oc (fun _ => ⟨rfl, rfl, fun z => absurd z (by decide), C, fun _ _ _ _ _ => rfl⟩) (fun g1 g2 => absurd ⟨g1, g2⟩ h1), sx_set O hp (fun _ τ O' z => ⟨z, fun z => absurd z (by decide), O', rfl, rfl, he⟩) (fun z => absurd z h1)⟩
theorem pl_c {c : Int32} : (c < 0 ∨ 5 < c) ↔ ¬ (0 ≤ c ∧ c < 6) := by
  rw [Int32.lt_iff_toInt_lt, Int32.lt_iff_toInt_lt, Int32.lt_iff_toInt_lt, Int32.le_iff_toInt_le]
  have e0 : (0 : Int32).toInt = 0 := by decide
  have e5 : (5 : Int32).toInt = 5 := by decide
  have e6 : (6 : Int32).toInt = 6 := by decide
  omega
theorem pl_o {a b d : Int32} : ((a < 1 ∨ 63 < a) ∨ (b < 0 ∨ 65535 < b) ∨ (d < 1 ∨ 99 < d)) ↔ ¬ plOk a b d := by
  unfold plOk
  simp only [Int32.lt_iff_toInt_lt, Int32.le_iff_toInt_le]
  have e0 : (0 : Int32).toInt = 0 := by decide
  have e1 : (1 : Int32).toInt = 1 := by decide
  have e2 : (63 : Int32).toInt = 63 := by decide
  have e3 : (64 : Int32).toInt = 64 := by decide
  have e4 : (65535 : Int32).toInt = 65535 := by decide
  have e5 : (65536 : Int32).toInt = 65536 := by decide
  have e6 : (99 : Int32).toInt = 99 := by decide
  omega
theorem sp_player (I : LIT ea T u Y) (a b c d : Int32) : ∃ (K V : Int32) (TT : MS) (P B T : Nat),
    w_T_X7_player (fun v τ => cQ K V TT P B T 0 (τ, Int32.toInt64 v, u.2.2)) (fun E τ => (E = xIO ∧ cQ K V TT P B T 1 (τ, u.2)) ∨ (E = xIA ∧ cQ K V TT P B T 2 (τ, u.2)) ∨ (E = xIS ∧ cQ K V TT P B T 3 (τ, u.2))) u.1 a b c d ∧
    w_X11_player Y.1 Y.2.1 (fun r Y' => rfQ K V TT P B ea r Y' ∧ Y'.2.1.2.1 = Y.2.1.2.1 ∧ Y'.2.1.2.2.2 = Y.2.1.2.2.2) Y.2.2 a b c d := by
  have C := I.ci
  have O := I.ro
  have he := I.2.2
  have hP := O.hP
  have e1 : ∀ v : Int32, up2 (up2 Y.2.2 0 0 0) 0 0 v 0 0 = v := fun v => up2_same
  by_cases h1 : 0 ≤ c ∧ c < 6
  · have m1 : ¬ (c < 0 ∨ 5 < c) := fun z => pl_c.mp z h1
    by_cases h2 : plOk a b d
    · have m2 : ¬ ((a < 1 ∨ 63 < a) ∨ (b < 0 ∨ 65535 < b) ∨ (d < 1 ∨ 99 < d)) := fun z => pl_o.mp z h2
      by_cases h3 : Y.2.1.1 = 10
      · exact ⟨3, 0, trS u.1 T, Y.2.1.1, Y.2.1.2.1, T, cs_player C (fun z => absurd h1 z) (fun _ z => absurd h2 z) (fun _ _ _ => Or.inr (Or.inr ⟨rfl, rfl, fun z => absurd z (by decide), C, fun _ _ _ _ _ => rfl⟩)) (fun _ _ _ z => absurd z (by omega)), sf_player O (fun z => absurd z m1) (fun _ z => absurd z m2) (fun _ _ _ O' => ⟨⟨e1 3, fun z => absurd z (by decide), O', rfl, rfl, he⟩, rfl, rfl⟩) (fun _ _ z => absurd z (by omega))⟩
      · refine ⟨0, nI Y.2.1.1, pyT (trS u.1 T) Y.2.1.1 b, Y.2.1.1 + 1, Y.2.1.2.1, T, cs_player C (fun z => absurd h1 z) (fun _ z => absurd h2 z) (fun _ _ z => absurd z h3) (fun τ _ _ _ hτ C' => ⟨rfl, fun _ => rfl, C', fun Γ hΓ k j hk => ?_⟩), sf_player O (fun z => absurd z m1) (fun _ z => absurd z m2) (fun _ _ z => absurd z h3) (fun _ _ _ lay' O' => ⟨⟨?_, fun _ => rfl, O', rfl, rfl, he⟩, rfl, rfl⟩)⟩
        · subst hτ
          have hΓ10 : Γ.1 ≤ 10 := by omega
          have q1 : rTd Γ (13 + Y.2.1.1) 1 := by unfold rTd; omega
          have q4 : rTd Γ (13 + Y.2.1.1) 4 := by unfold rTd; omega
          unfold pyT
          by_cases z4 : k = 13 + Y.2.1.1 ∧ j = 4
          · obtain ⟨rfl, rfl⟩ := z4
            rw [up2_same, trS_pl]
            show telP u.1 Y.2.1.1 a b c d (29 + Y.2.1.1) 4 = 0
            unfold telP
            rw [up2_off (by omega), up2_off (by omega), up2_off (by omega), up2_off (by omega), up2_off (by omega)]
            exact C.fe.2.1 _ (Nat.le_refl _) (by omega)
          · rw [up2_off z4]
            by_cases z1 : k = 13 + Y.2.1.1 ∧ j = 1
            · obtain ⟨rfl, rfl⟩ := z1
              rw [up2_same, trS_pl]
              show telP u.1 Y.2.1.1 a b c d (29 + Y.2.1.1) 1 = b
              unfold telP
              rw [up2_off (by omega), up2_off (by omega), up2_off (by omega), up2_same]
            · rw [up2_off z1]
              show trS (telP u.1 Y.2.1.1 a b c d) T k j = trS u.1 T k j
              unfold trS
              by_cases z0 : k = 0
              · rw [if_pos z0, if_pos z0]
              · rw [if_neg z0, if_neg z0]
                have hc := cm_td hΓ10 hk z0
                have n1 := cm_ne hΓ10 hk z0 q1 (by omega) z1
                have n4 := cm_ne hΓ10 hk z0 q4 (by omega) z4
                rw [cm_pl] at n1 n4
                dsimp only at n1 n4
                have nj : ¬ ((cm k j).1 = 29 + Y.2.1.1 ∧ ((cm k j).2 = 0 ∨ (cm k j).2 = 2 ∨ (cm k j).2 = 3)) := by
                  unfold tdC at hc
                  omega
                have n0 : (cm k j).1 ≠ 0 := by unfold tdC at hc; omega
                unfold telP
                rw [up2_off (by omega), up2_off (by omega), up2_off (by omega), up2_off (by omega), up2_off (by omega)]
        · show rpS (up2 Y.2.2 0 0 0) Y.2.1.1 a b c d 0 0 = 0
          unfold rpS
          rw [if_neg (by decide), if_neg (by omega), if_neg (by omega), up2_same]
    · have m2 : (a < 1 ∨ 63 < a) ∨ (b < 0 ∨ 65535 < b) ∨ (d < 1 ∨ 99 < d) := pl_o.mpr h2
      exact ⟨2, 0, trS u.1 T, Y.2.1.1, Y.2.1.2.1, T, cs_player C (fun z => absurd h1 z) (fun _ _ => Or.inr (Or.inl ⟨rfl, rfl, fun z => absurd z (by decide), C, fun _ _ _ _ _ => rfl⟩)) (fun _ z => absurd z h2) (fun _ _ z => absurd z h2), sf_player O (fun z => absurd z m1) (fun _ _ O' => ⟨⟨e1 2, fun z => absurd z (by decide), O', rfl, rfl, he⟩, rfl, rfl⟩) (fun _ z => absurd m2 z) (fun _ z => absurd m2 z)⟩
  · have m1 : c < 0 ∨ 5 < c := pl_c.mpr h1
    exact ⟨1, 0, trS u.1 T, Y.2.1.1, Y.2.1.2.1, T, cs_player C (fun _ => Or.inl ⟨rfl, rfl, fun z => absurd z (by decide), C, fun _ _ _ _ _ => rfl⟩) (fun z => absurd z h1) (fun z => absurd z h1) (fun _ z => absurd z h1), sf_player O (fun _ O' => ⟨⟨e1 1, fun z => absurd z (by decide), O', rfl, rfl, he⟩, rfl, rfl⟩) (fun z => absurd m1 z) (fun z => absurd m1 z) (fun z => absurd m1 z)⟩
end SPEC
theorem i_L_law_X8 : ∀ w ∈ wsX80, w ∈ wsL_law ++ lkL := fun w h => List.mem_append_left _ (by unfold wsL_law wsL_law0; simp only [List.mem_append, h, true_or, or_true])
section PLQ
variable {p : Program} {l : Launch} {e : Env} {R : Room} {s : State} {m : MethodId} {args : Array Value} {below : List Frame} {meth : Method} {c : Code} {H : Heap} {locs : List Loc} {cells slots : Nat} {Q : State → Prop}
variable {cc : ByteArray} {pc nL index : Nat} {ls : Array Slot} {rest : List Value} {D : va_G} {cy : Nat → ClassId} {lay : Nat → Nat} {o : Nat} {u : OU} {Y : RY} {Ts : List Cond} {own host : String}
theorem lw_getn (hC : CallFix p m c cc nL s args Ts own) (hK : va_K D vwCl (fdT cy) s) (G : lwG D cy lay o u Y s H locs) (hin : ∀ w ∈ wsX80, w ∈ Ts) (hl : (Cond.fieldLinkNest own index "FirstdanceAgencyLaw$Out" "n" "J" host).before args s = true) (hdg : decode cc pc = .ok (.getfield index, 3))
    (kk : W p l e R s m args below meth c H locs cells slots Q (F0 m (pc + 3) ls (.long u.2.1 :: rest))) : W p l e R s m args below meth c H locs cells slots Q (F0 m pc ls (.ref o :: rest)) :=
  va_getN hC.1 hC.2.1 hC.2.2.2.2 hin hC.2.2.2.1 hK G.1.1 87 wo_87 k_X8.1 0 (by decide) hl (fun _ h => h) rfl hdg kk
end PLQ
theorem hdV_X11_player : yX11_player.cls = RX11 ∧ yX11_player.cls ≠ "java/lang/invoke/MethodHandle" ∧ yX11_player.cls ≠ "java/lang/invoke/VarHandle" ∧ (parseMethodDescriptor yX11_player.desc).map (fun d => d.parameters.length) = some 4 := by decide +kernel
theorem hdV_X11_band : yX11_band.cls = RX11 ∧ yX11_band.cls ≠ "java/lang/invoke/MethodHandle" ∧ yX11_band.cls ≠ "java/lang/invoke/VarHandle" ∧ (parseMethodDescriptor yX11_band.desc).map (fun d => d.parameters.length) = some 1 := by decide +kernel
theorem hdV_X11_ask : yX11_ask.cls = RX11 ∧ yX11_ask.cls ≠ "java/lang/invoke/MethodHandle" ∧ yX11_ask.cls ≠ "java/lang/invoke/VarHandle" ∧ (parseMethodDescriptor yX11_ask.desc).map (fun d => d.parameters.length) = some 6 := by decide +kernel
theorem hdV_X11_songs : yX11_songs.cls = RX11 ∧ yX11_songs.cls ≠ "java/lang/invoke/MethodHandle" ∧ yX11_songs.cls ≠ "java/lang/invoke/VarHandle" ∧ (parseMethodDescriptor yX11_songs.desc).map (fun d => d.parameters.length) = some 1 := by decide +kernel
theorem hdV_X11_tell : yX11_tell.cls = RX11 ∧ yX11_tell.cls ≠ "java/lang/invoke/MethodHandle" ∧ yX11_tell.cls ≠ "java/lang/invoke/VarHandle" ∧ (parseMethodDescriptor yX11_tell.desc).map (fun d => d.parameters.length) = some 1 := by decide +kernel
