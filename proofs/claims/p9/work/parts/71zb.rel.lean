/-! ONE STATE ON BOTH SIDES: what one side changes with the other -/
/-- the class's cells that the reference has too -/
def seen (a b : Nat) : Prop := (a = 0 ∧ (b = 9 ∨ b = 10)) ∨ a = 6 ∨ (17 ≤ a ∧ a < 29) ∨ (29 ≤ a ∧ a < 39 ∧ b < 6) ∨ (39 ≤ a ∧ a < 55 ∧ b ≤ 3) ∨ (73 ≤ a ∧ a < 87 ∧ b < 12)
section RELA
variable {x y : MS} {Γ : RG} {σ τ : MS} {k i : Nat}
theorem tR_leaf (h : rTd Γ k i) (hP : Γ.1 ≤ 10) (hW : Γ.2.2.1 ≤ 14) :
    (k = 0 ∧ i = 1 ∧ ∀ x, tR x k i = x 0 9) ∨ (k = 0 ∧ i = 2 ∧ ∀ x, tR x k i = x 0 10) ∨
    (7 ≤ k ∧ k ≤ 10 ∧ i < 16 ∧ ∀ x, tR x k i = x (39 + i) (k - 7)) ∨ (11 ≤ k ∧ k ≤ 12 ∧ i < 36 ∧ ∀ x, tR x k i = x (17 + 6 * (k - 11) + i / 6) (i % 6)) ∨
    (13 ≤ k ∧ k < 13 + Γ.1 ∧ i < 6 ∧ ∀ x, tR x k i = x (29 + (k - 13)) i) ∨ (23 ≤ k ∧ k < 23 + Γ.1 ∧ i < 366 ∧ ∀ x, tR x k i = b01 (bt (x 6 i) (k - 23))) ∨
    (33 ≤ k ∧ k < 33 + Γ.2.2.1 ∧ i < 12 ∧ ∀ x, tR x k i = x (73 + (k - 33)) i) := by
  unfold rTd at h
  by_cases h0 : k = 0
  · subst h0
    by_cases h1 : i = 1
    · subst h1; exact Or.inl ⟨rfl, rfl, fun _ => rfl⟩
    · have h2 : i = 2 := by omega
      subst h2
      exact Or.inr (Or.inl ⟨rfl, rfl, fun _ => rfl⟩)
  by_cases h7 : k = 7
  · subst h7; exact Or.inr (Or.inr (Or.inl ⟨by omega, by omega, by omega, fun _ => rfl⟩))
  by_cases h8 : k = 8
  · subst h8; exact Or.inr (Or.inr (Or.inl ⟨by omega, by omega, by omega, fun _ => rfl⟩))
  by_cases h9 : k = 9
  · subst h9; exact Or.inr (Or.inr (Or.inl ⟨by omega, by omega, by omega, fun _ => rfl⟩))
  by_cases h10 : k = 10
  · subst h10; exact Or.inr (Or.inr (Or.inl ⟨by omega, by omega, by omega, fun _ => rfl⟩))
  by_cases h11 : k = 11
  · subst h11; exact Or.inr (Or.inr (Or.inr (Or.inl ⟨by omega, by omega, by omega, fun _ => rfl⟩)))
  by_cases h12 : k = 12
  · subst h12; exact Or.inr (Or.inr (Or.inr (Or.inl ⟨by omega, by omega, by omega, fun _ => rfl⟩)))
  by_cases h23 : k < 23
  · refine Or.inr (Or.inr (Or.inr (Or.inr (Or.inl ⟨by omega, by omega, by omega, fun x => ?_⟩))))
    unfold tR
    rw [if_neg h0, if_neg h7, if_neg h8, if_neg h9, if_neg h10, if_neg h11, if_neg h12, if_pos h23]
  by_cases h33 : k < 33
  · refine Or.inr (Or.inr (Or.inr (Or.inr (Or.inr (Or.inl ⟨by omega, by omega, by omega, fun x => ?_⟩)))))
    unfold tR
    rw [if_neg h0, if_neg h7, if_neg h8, if_neg h9, if_neg h10, if_neg h11, if_neg h12, if_neg h23, if_pos h33]
  · refine Or.inr (Or.inr (Or.inr (Or.inr (Or.inr (Or.inr ⟨by omega, by omega, by omega, fun x => ?_⟩)))))
    unfold tR
    rw [if_neg h0, if_neg h7, if_neg h8, if_neg h9, if_neg h10, if_neg h11, if_neg h12, if_neg h23, if_neg h33]
theorem tR_cg (h : rTd Γ k i) (hP : Γ.1 ≤ 10) (hW : Γ.2.2.1 ≤ 14) (e : ∀ a b, seen a b → y a b = x a b) : tR y k i = tR x k i := by
  rcases tR_leaf h hP hW with ⟨_, _, l⟩ | ⟨_, _, l⟩ | ⟨g1, g2, g3, l⟩ | ⟨g1, g2, g3, l⟩ | ⟨g1, g2, g3, l⟩ | ⟨g1, g2, g3, l⟩ | ⟨g1, g2, g3, l⟩
  · rw [l, l]; exact e _ _ (by unfold seen; omega)
  · rw [l, l]; exact e _ _ (by unfold seen; omega)
  · rw [l, l]; exact e _ _ (by unfold seen; omega)
  · rw [l, l]; exact e _ _ (by unfold seen; omega)
  · rw [l, l]; exact e _ _ (by unfold seen; omega)
  · rw [l, l, e 6 i (by unfold seen; omega)]
  · rw [l, l]; exact e _ _ (by unfold seen; omega)
theorem RX.cg (O : rOk (tR x) Γ σ) (e : ∀ a b, seen a b → y a b = x a b) : rOk (tR y) Γ σ := O.reT (fun k i hk => tR_cg hk O.hP O.hW e)
theorem RX.sc (O : rOk (tR x) Γ σ) (h : Scr x y) : rOk (tR y) Γ σ := RX.cg O (fun a b hs => by rw [h a (by unfold seen at hs; omega)])
theorem RX.off {a b : Nat} {v : Int32} (O : rOk (tR x) Γ σ) (h : ¬ seen a b) : rOk (tR (up2 x a b v)) Γ σ := RX.cg O (fun a' b' hs => up2_off (fun z => h (by obtain ⟨rfl, rfl⟩ := z; exact hs)))
/-- the reference's cells that are as they were -/
theorem RX.at (O : rOk (tR x) Γ σ) (e0 : rOk0 Γ τ) (e : ∀ k i, rTd Γ k i → τ k i = tR y k i) : rOk (tR y) Γ τ := ⟨e0, e⟩
theorem RX.wd {w j : Nat} {v : Int32} (O : rOk (tR x) Γ σ) (hw : w < Γ.2.2.1) (h3 : 3 ≤ j) (hj : j < 12) : rOk (tR (up2 x (73 + w) j v)) Γ (up2 σ (33 + w) j v) :=
  (O.tel (k := 33 + w) (j := j) (v := v) (by unfold rPr0; omega)).reT (fun k i hk => by
    have hP := O.hP
    have hW := O.hW
    rcases tR_leaf hk hP hW with ⟨_, _, l⟩ | ⟨_, _, l⟩ | ⟨g1, g2, g3, l⟩ | ⟨g1, g2, g3, l⟩ | ⟨g1, g2, g3, l⟩ | ⟨g1, g2, g3, l⟩ | ⟨g1, g2, g3, l⟩
    · rw [l, up2_off (by omega), up2_off (by omega), l]
    · rw [l, up2_off (by omega), up2_off (by omega), l]
    · rw [l, up2_off (by omega), up2_off (by omega), l]
    · rw [l, up2_off (by omega), up2_off (by omega), l]
    · rw [l, up2_off (by omega), up2_off (by omega), l]
    · rw [l, up2_off (by omega), up2_off (by omega), l]
    · rw [l]
      by_cases z : k = 33 + w ∧ i = j
      · obtain ⟨rfl, rfl⟩ := z
        rw [show 33 + w - 33 = w by omega, up2_same, up2_same]
      · rw [up2_off (by omega), up2_off z, l])
theorem RX.pl {p j : Nat} {v : Int32} (O : rOk (tR x) Γ σ) (hp : p < Γ.1) (hj : j < 6) (h2 : j ≠ 2) : rOk (tR (up2 x (29 + p) j v)) Γ (up2 σ (13 + p) j v) :=
  (O.tel (k := 13 + p) (j := j) (v := v) (by have := O.hP; unfold rPr0; omega)).reT (fun k i hk => by
    have hP := O.hP
    have hW := O.hW
    rcases tR_leaf hk hP hW with ⟨_, _, l⟩ | ⟨_, _, l⟩ | ⟨g1, g2, g3, l⟩ | ⟨g1, g2, g3, l⟩ | ⟨g1, g2, g3, l⟩ | ⟨g1, g2, g3, l⟩ | ⟨g1, g2, g3, l⟩
    · rw [l, up2_off (by omega), up2_off (by omega), l]
    · rw [l, up2_off (by omega), up2_off (by omega), l]
    · rw [l, up2_off (by omega), up2_off (by omega), l]
    · rw [l, up2_off (by omega), up2_off (by omega), l]
    · rw [l]
      by_cases z : k = 13 + p ∧ i = j
      · obtain ⟨rfl, rfl⟩ := z
        rw [show 13 + p - 13 = p by omega, up2_same, up2_same]
      · rw [up2_off (by omega), up2_off z, l]
    · rw [l, up2_off (by omega), up2_off (by omega), l]
    · rw [l, up2_off (by omega), up2_off (by omega), l])
theorem RX.csh {v : Int32} (O : rOk (tR x) Γ σ) : rOk (tR (up2 x 0 10 v)) Γ (up2 σ 0 2 v) :=
  (O.tel (k := 0) (j := 2) (v := v) (by unfold rPr0; omega)).reT (fun k i hk => by
    have hP := O.hP
    have hW := O.hW
    rcases tR_leaf hk hP hW with ⟨g1, g2, l⟩ | ⟨g1, g2, l⟩ | ⟨g1, g2, g3, l⟩ | ⟨g1, g2, g3, l⟩ | ⟨g1, g2, g3, l⟩ | ⟨g1, g2, g3, l⟩ | ⟨g1, g2, g3, l⟩
    · rw [l, up2_off (by omega), up2_off (by omega), l]
    · subst g1
      subst g2
      rw [l, up2_same, up2_same]
    · rw [l, up2_off (by omega), up2_off (by omega), l]
    · rw [l, up2_off (by omega), up2_off (by omega), l]
    · rw [l, up2_off (by omega), up2_off (by omega), l]
    · rw [l, up2_off (by omega), up2_off (by omega), l]
    · rw [l, up2_off (by omega), up2_off (by omega), l])
theorem RX.tdy {T : Nat} (O : rOk (tR x) Γ σ) (hT : T ≤ 365) : rOk (tR (up2 x 0 9 (nI T))) Γ (up2 σ 0 1 (nI T)) := by
  have ne : ∀ k i, k ≠ 0 → up2 σ 0 1 (nI T) k i = σ k i := fun k i hk => up2_at (Or.inl hk)
  have hP := O.hP
  have hW := O.hW
  obtain ⟨⟨h1, h2, h3, h4, h5, h6, h7, h0, h8, h9⟩, ht⟩ := O
  refine ⟨⟨h1, h2, h3, by rw [ne _ _ (by omega)]; exact h4, by rw [ne _ _ (by omega)]; exact h5, by rw [ne _ _ (by omega)]; exact h6, ⟨T, hT, up2_same⟩, fun s hs => by rw [ne _ _ (by omega)]; exact h0 s hs, fun p hp => by rw [ne _ _ (by omega)]; exact h8 p hp, fun w hw => by rw [ne _ _ (by omega), ne _ _ (by omega), ne _ _ (by omega)]; exact h9 w hw⟩, fun k i hk => ?_⟩
  have hh := ht k i hk
  rcases tR_leaf hk hP hW with ⟨g1, g2, l⟩ | ⟨g1, g2, l⟩ | ⟨g1, g2, g3, l⟩ | ⟨g1, g2, g3, l⟩ | ⟨g1, g2, g3, l⟩ | ⟨g1, g2, g3, l⟩ | ⟨g1, g2, g3, l⟩
  · subst g1
    subst g2
    rw [l, up2_same, up2_same]
  · rw [l, up2_off (by omega), up2_off (by omega), hh, l]
  · rw [l, up2_off (by omega), up2_off (by omega), hh, l]
  · rw [l, up2_off (by omega), up2_off (by omega), hh, l]
  · rw [l, up2_off (by omega), up2_off (by omega), hh, l]
  · rw [l, up2_off (by omega), up2_off (by omega), hh, l]
  · rw [l, up2_off (by omega), up2_off (by omega), hh, l]
theorem RX.ply {s : Nat} {v : Int32} (O : rOk (tR x) Γ σ) (hs : s < 16) : rOk (tR (up2 x (39 + s) 3 v)) Γ (up2 σ 10 s v) :=
  (O.tel (k := 10) (j := s) (v := v) (by unfold rPr0; omega)).reT (fun k i hk => by
    have hP := O.hP
    have hW := O.hW
    rcases tR_leaf hk hP hW with ⟨g1, g2, l⟩ | ⟨g1, g2, l⟩ | ⟨g1, g2, g3, l⟩ | ⟨g1, g2, g3, l⟩ | ⟨g1, g2, g3, l⟩ | ⟨g1, g2, g3, l⟩ | ⟨g1, g2, g3, l⟩
    · rw [l, up2_off (by omega), up2_off (by omega), l]
    · rw [l, up2_off (by omega), up2_off (by omega), l]
    · rw [l]
      by_cases z : k = 10 ∧ i = s
      · obtain ⟨rfl, rfl⟩ := z
        rw [show (10 : Nat) - 7 = 3 from rfl, up2_same, up2_same]
      · rw [up2_off (by omega), up2_off z, l]
    · rw [l, up2_off (by omega), up2_off (by omega), l]
    · rw [l, up2_off (by omega), up2_off (by omega), l]
    · rw [l, up2_off (by omega), up2_off (by omega), l]
    · rw [l, up2_off (by omega), up2_off (by omega), l])
/-- a day off, told or taken back: the bit p of the day is what the reference has there -/
theorem RX.dof {p d : Nat} {v : Int32} {c : Bool} (O : rOk (tR x) Γ σ) (hp : p < Γ.1) (hd : d < 366) (h1 : bt v p = c) (h2 : ∀ q, q < 32 → q ≠ p → bt v q = bt (x 6 d) q) : rOk (tR (up2 x 6 d v)) Γ (up2 σ (23 + p) d (b01 c)) :=
  (O.tel (k := 23 + p) (j := d) (v := b01 c) (by have := O.hP; unfold rPr0; omega)).reT (fun k i hk => by
    have hP := O.hP
    have hW := O.hW
    rcases tR_leaf hk hP hW with ⟨g1, g2, l⟩ | ⟨g1, g2, l⟩ | ⟨g1, g2, g3, l⟩ | ⟨g1, g2, g3, l⟩ | ⟨g1, g2, g3, l⟩ | ⟨g1, g2, g3, l⟩ | ⟨g1, g2, g3, l⟩
    · rw [l, up2_off (by omega), up2_off (by omega), l]
    · rw [l, up2_off (by omega), up2_off (by omega), l]
    · rw [l, up2_off (by omega), up2_off (by omega), l]
    · rw [l, up2_off (by omega), up2_off (by omega), l]
    · rw [l, up2_off (by omega), up2_off (by omega), l]
    · rw [l]
      by_cases z : k = 23 + p ∧ i = d
      · obtain ⟨rfl, rfl⟩ := z
        rw [show 23 + p - 23 = p by omega, up2_same, up2_same, h1]
      · rw [up2_off z, l]
        by_cases e : i = d
        · subst e
          rw [up2_same, h2 (k - 23) (by omega) (by omega)]
        · rw [up2_off (by omega)]
    · rw [l, up2_off (by omega), up2_off (by omega), l])
end RELA
