/-! THE REFERENCE IS SAFE: players, bands, weddings more; the texts; a new one -/
section RSAFE15
variable {Tm : MS} {Γ : RG} {σ τ ρ : MS} {lay : Nat → Nat} {a a0 a1 a2 a3 a4 a5 a6 b c : Int32}
theorem sz_need (a : Int32) : ∀ n, szI a n = (rNeeds a n, rD3 a n)
  | 0 => rfl
  | n + 1 => by
    unfold szI
    rw [sz_need a n]
    rfl
theorem sf_tell {post : MS → Prop} (O : rOk Tm Γ σ) (h : ∀ τ, rOk Tm Γ τ → post τ) : w_X11_tell Γ post σ a1 := by
  have hW := O.hW
  unfold w_X11_tell
  have O0 := O.up (k := 0) (j := 0) (v := 0) (by unfold rPr; omega)
  refine sf_isWedding O ⟨fun _ => h _ (O.up (by unfold rPr; omega)), fun c => absurd rfl c⟩ (fun w r hw e hr => ⟨fun c => absurd c hr, fun _ => sf_wget O0 hw e ⟨⟨by omega, hw⟩, ?_⟩⟩)
  obtain ⟨d, hd, ed⟩ := O0.day hw
  obtain ⟨t, ht, et⟩ := O0.town hw
  exact ⟨w, d, t, by omega, e, by omega, ed, by omega, et, O0.p, h _ O0⟩
theorem sf_songs {post : MS → Prop} (O : rOk Tm Γ σ) (h : ∀ τ, rOk Tm Γ τ → post τ) : w_X11_songs Γ post σ a1 := by
  have hW := O.hW
  unfold w_X11_songs
  have O0 := O.up (k := 0) (j := 0) (v := 0) (by unfold rPr; omega)
  refine sf_isWedding O ⟨fun _ => h _ (O.up (by unfold rPr; omega)), fun c => absurd rfl c⟩ (fun w r hw e hr => ⟨fun c => absurd c hr, fun _ => sf_wget O0 hw e ⟨⟨by omega, hw⟩, sf_bestSet O0 (fun len f τ O' hl hf => ⟨hl, fun i hi => ?_, h _ O'⟩)⟩⟩)
  obtain ⟨s, hs, es⟩ := hf i hi
  exact ⟨s, by omega, es⟩
theorem sf_thrown {post : Int32 → MS → Prop} (h : post (σ 0 0) σ) : w_X11_thrown Γ post σ := law_X11_thrown h
/-- no roads: no ways -/
def Dg (y : MS) : Prop := ∀ a b, a < 6 → b < 6 → y (23 + a) b = if a = b then 0 else -1
theorem dg_shB {y : MS} {o a b : Nat} (h : Dg y) (ho : o < 6) (ha : a < 6) (hb : b < 6) : Dg (shB y o a b) := by
  unfold shB
  split
  · exact h
  · next c =>
    have e1 : a = o := Decidable.byContradiction fun z => c (Or.inl (by rw [h a o ha ho, if_neg z]))
    have e2 : o = b := Decidable.byContradiction fun z => c (Or.inr (by rw [h o b ho hb, if_neg z]))
    subst e1
    subst e2
    intro u v hu hv
    by_cases q : u = a ∧ v = a
    · obtain ⟨rfl, rfl⟩ := q
      rw [up2_same, h v v hv hv, if_pos rfl]
      decide
    · rw [up2_off (by omega)]
      exact h u v hu hv
theorem dg_shA {y : MS} {o a : Nat} (h : Dg y) (ho : o < 6) (ha : a < 6) : ∀ n, n ≤ 6 → Dg (shA y o a n)
  | 0, _ => h
  | n + 1, hn => dg_shB (dg_shA h ho ha n (by omega)) ho ha (by omega)
theorem dg_shO {y : MS} {o : Nat} (h : Dg y) (ho : o < 6) : ∀ n, n ≤ 6 → Dg (shO y o n)
  | 0, _ => h
  | n + 1, hn => dg_shA (dg_shO h ho n (by omega)) ho (by omega) 6 (Nat.le_refl _)
theorem dg_ov {y : MS} (h : Dg y) : ∀ n, n ≤ 6 → Dg (ovS y n)
  | 0, _ => h
  | n + 1, hn => dg_shO (dg_ov h n (by omega)) (by omega) 6 (Nat.le_refl _)
theorem lyB_17 (x : MS) (a : Nat) {c d : Nat} (hc : c < 6) : ∀ n, lyB x a n (17 + c) d = x (17 + c) d
  | 0 => rfl
  | n + 1 => by
    unfold lyB
    rw [up2_off (by omega)]
    exact lyB_17 x a hc n
theorem lyA_17 (x : MS) {c d : Nat} (hc : c < 6) : ∀ n, lyA x n (17 + c) d = x (17 + c) d
  | 0 => rfl
  | n + 1 => by
    unfold lyA
    rw [lyB_17 _ _ hc]
    exact lyA_17 x hc n
theorem lyB_ne (x : MS) {a c d : Nat} (h : c ≠ a) : ∀ n, lyB x a n (23 + c) d = x (23 + c) d
  | 0 => rfl
  | n + 1 => by
    unfold lyB
    rw [up2_off (by omega)]
    exact lyB_ne x h n
theorem lyV_17 {x y : MS} {a d : Nat} (h : y (17 + a) d = x (17 + a) d) : lyV y a d = lyV x a d := by
  unfold lyV
  rw [h]
theorem lyB_23 (x : MS) {a d : Nat} (ha : a < 6) : ∀ n, d < n → lyB x a n (23 + a) d = lyV x a d
  | 0, h => absurd h (Nat.not_lt_zero _)
  | n + 1, h => by
    unfold lyB
    by_cases q : d = n
    · subst q
      rw [up2_same]
      exact lyV_17 (lyB_17 x a ha d)
    · rw [up2_off (by omega)]
      exact lyB_23 x ha n (by omega)
theorem lyA_23 (x : MS) {c d : Nat} (hd : d < 6) : ∀ n, n ≤ 6 → c < n → lyA x n (23 + c) d = lyV x c d
  | 0, _, h => absurd h (Nat.not_lt_zero _)
  | n + 1, hn, h => by
    unfold lyA
    by_cases q : c = n
    · subst q
      rw [lyB_23 _ (by omega) 6 hd]
      exact lyV_17 (lyA_17 x (by omega) c)
    · rw [lyB_ne _ q]
      exact lyA_23 x hd n (by omega) (by omega)
theorem dg_lyA {x : MS} (h0 : ∀ c d, c < 6 → d < 6 → x (17 + c) d = 0) : Dg (lyA x 6) := fun c d hc hd => by
  rw [lyA_23 x hd 6 (Nat.le_refl _) hc]
  unfold lyV
  rw [h0 c d hc hd, if_pos rfl]
end RSAFE15
