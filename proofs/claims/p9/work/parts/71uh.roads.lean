/-! ROADS: ways are as long there as back -/
/-- a way shortened over a town -/
def relF (u p q : Int32) : Int32 := if p = -1 ∨ q = -1 then u else if u = -1 then p + q else if p + q < u then p + q else u
def SyH (x : MS) : Prop := ∀ a b, a < 6 → b < 6 → x (17 + a) b = x (17 + b) a
def SyW (x : MS) : Prop := ∀ a b, a < 6 → b < 6 → x (23 + a) b = x (23 + b) a
section ROADS
variable {x y : MS} {M o : Nat}
theorem relF_sy (u p q : Int32) : relF u p q = relF u q p := by
  unfold relF
  rw [Int32.add_comm q p]
  by_cases c : p = -1 ∨ q = -1
  · rw [if_pos c, if_pos c.symm]
  · rw [if_neg c, if_neg (show ¬ (q = -1 ∨ p = -1) from fun z => c z.symm)]
theorem relF_id {u r : Int32} (hu : wy M u) (hr : wy M r) (hM : 2 * M < 2 ^ 31) : relF u u r = u ∧ relF u r u = u := by
  have key : relF u u r = u := by
    unfold relF
    by_cases c : u = -1 ∨ r = -1
    · rw [if_pos c]
    · rw [if_neg c, if_neg (fun z => c (Or.inl z))]
      obtain ⟨n, n1, n2, n3⟩ := hu.resolve_left (fun z => c (Or.inl z))
      obtain ⟨m, m1, m2, m3⟩ := hr.resolve_left (fun z => c (Or.inr z))
      rw [n3, m3, nI_add, if_neg (nI_nlt (by omega) (by omega))]
  exact ⟨key, by rw [relF_sy]; exact key⟩
theorem shB_at {a b c d : Nat} : shB y o a b (23 + c) d = if c = a ∧ d = b then relF (y (23 + a) b) (y (23 + a) o) (y (23 + o) b) else y (23 + c) d := by
  unfold shB
  by_cases e : c = a ∧ d = b
  · obtain ⟨rfl, rfl⟩ := e
    rw [if_pos (show c = c ∧ d = d from ⟨rfl, rfl⟩)]
    unfold relF
    by_cases h : y (23 + c) o = -1 ∨ y (23 + o) d = -1
    · rw [if_pos h, if_pos h]
    · rw [if_neg h, if_neg h, up2_same]
  · rw [if_neg e]
    by_cases h : y (23 + a) o = -1 ∨ y (23 + o) b = -1
    · rw [if_pos h]
    · rw [if_neg h, up2_at (by omega)]
/-- the rows ahead of n are done, and m of row n -/
def dnR (x : MS) (o n m : Nat) (y : MS) : Prop := ∀ c d, c < 6 → d < 6 → y (23 + c) d = if c < n ∨ (c = n ∧ d < m) then relF (x (23 + c) d) (x (23 + c) o) (x (23 + o) d) else x (23 + c) d
theorem dnR.st {n m : Nat} (hx : Wy_i M x) (hM : 2 * M < 2 ^ 31) (ho : o < 6) (hn : n < 6) (hm : m < 6) (h : dnR x o n m y) : dnR x o n (m + 1) (shB y o n m) := fun c d hc hd => by
  have e1 : y (23 + n) m = x (23 + n) m := by rw [h n m hn hm, if_neg (by omega)]
  have e2 : y (23 + n) o = x (23 + n) o := by
    rw [h n o hn ho]
    split
    · exact (relF_id (hx n o hn ho) (hx o o ho ho) hM).1
    · rfl
  have e3 : y (23 + o) m = x (23 + o) m := by
    rw [h o m ho hm]
    split
    · exact (relF_id (hx o m ho hm) (hx o o ho ho) hM).2
    · rfl
  rw [shB_at]
  by_cases e : c = n ∧ d = m
  · obtain ⟨rfl, rfl⟩ := e
    rw [if_pos ⟨rfl, rfl⟩, if_pos (Or.inr ⟨rfl, by omega⟩), e1, e2, e3]
  · rw [if_neg e, h c d hc hd]
    by_cases g : c < n ∨ (c = n ∧ d < m)
    · rw [if_pos g, if_pos (by omega)]
    · rw [if_neg g, if_neg (by omega)]
theorem shA_dn {n : Nat} (hx : Wy_i M x) (hM : 2 * M < 2 ^ 31) (ho : o < 6) (hn : n < 6) (h : dnR x o n 0 y) : ∀ m, m ≤ 6 → dnR x o n m (shA y o n m)
  | 0, _ => h
  | m + 1, hm => (shA_dn hx hM ho hn h m (by omega)).st hx hM ho hn (by omega)
theorem shO_dn (hx : Wy_i M x) (hM : 2 * M < 2 ^ 31) (ho : o < 6) : ∀ n, n ≤ 6 → dnR x o n 0 (shO x o n)
  | 0, _ => fun c d hc hd => by rw [if_neg (by omega)]; rfl
  | n + 1, hn => fun c d hc hd => by
    have h := shA_dn hx hM ho (by omega) (shO_dn hx hM ho n (by omega)) 6 (Nat.le_refl _) c d hc hd
    show shA (shO x o n) o n 6 (23 + c) d = _
    rw [h]
    by_cases g : c < n ∨ (c = n ∧ d < 6)
    · rw [if_pos g, if_pos (by omega)]
    · rw [if_neg g, if_neg (by omega)]
theorem shO_sy (hx : Wy_i M x) (hM : 2 * M < 2 ^ 31) (ho : o < 6) (h : SyW x) : SyW (shO x o 6) := fun a b ha hb => by
  have hd := shO_dn hx hM ho 6 (Nat.le_refl _)
  rw [hd a b ha hb, hd b a hb ha, if_pos (Or.inl ha), if_pos (Or.inl hb), h b a hb ha, h b o hb ho, h o a ho ha, relF_sy]
theorem ovS_sy (hx : Wy_i 9 x) (h : SyW x) : ∀ n, n ≤ 6 → SyW (ovS x n) ∧ Wy_i (9 * 2 ^ n) (ovS x n)
  | 0, _ => ⟨h, hx⟩
  | n + 1, hn => by
    obtain ⟨h1, h2⟩ := ovS_sy hx h n (by omega)
    have hp : 2 ^ n ≤ 2 ^ 6 := Nat.pow_le_pow_right (by decide) (by omega)
    have hM : 2 * (9 * 2 ^ n) < 2 ^ 31 := by
      rw [show (2 : Nat) ^ 6 = 64 from rfl] at hp
      omega
    refine ⟨shO_sy h2 hM (by omega) h1, ?_⟩
    have := wy_shO (o := n) (by omega) hM h2
    rw [show 9 * 2 ^ (n + 1) = 2 * (9 * 2 ^ n) by rw [Nat.pow_succ]; omega]
    exact this
theorem lyB_v {a : Nat} (ha : a < 6) : ∀ n, n ≤ 6 → ∀ b, b < n → lyB x a n (23 + a) b = lyV x a b
  | 0, _, b, hb => absurd hb (by omega)
  | n + 1, hn, b, hb => by
    show up2 (lyB x a n) (23 + a) n (lyV (lyB x a n) a n) (23 + a) b = _
    by_cases e : b = n
    · subst e
      rw [up2_same]
      unfold lyV
      rw [lyB_k (by omega)]
    · rw [up2_at (by omega)]
      exact lyB_v ha n (by omega) b (by omega)
theorem lyA_v : ∀ n, n ≤ 6 → ∀ a b, a < n → b < 6 → lyA x n (23 + a) b = lyV x a b
  | 0, _, a, b, ha, hb => absurd ha (by omega)
  | n + 1, hn, a, b, ha, hb => by
    show lyB (lyA x n) n 6 (23 + a) b = _
    by_cases e : a = n
    · subst e
      rw [lyB_v (by omega) 6 (by decide) b hb]
      unfold lyV
      rw [lyA_k (by omega) a (by omega)]
    · rw [lyB_k (by omega)]
      exact lyA_v n (by omega) a b (by omega) hb
theorem lyA_sy (h : SyH x) : SyW (lyA x 6) := fun a b ha hb => by
  rw [lyA_v 6 (by decide) a b ha hb, lyA_v 6 (by decide) b a hb ha]
  unfold lyV
  rw [h b a hb ha]
  by_cases e : a = b
  · rw [if_pos e, if_pos e.symm]
  · rw [if_neg e, if_neg (show ¬ b = a from fun z => e z.symm)]
theorem lay_sy {i j : Nat} {v : Int32} (hi : i < 6) (hj : j < 6) (hv : rg 0 9 v) (h : Hr x) (hs : SyH x) : SyH (layS x i j v) ∧ SyW (layS x i j v) := by
  have hh : ∀ a b, up2 (up2 x (17 + i) j v) (17 + j) i v (17 + a) b = if (a = j ∧ b = i) ∨ (a = i ∧ b = j) then v else x (17 + a) b := fun a b => by
    by_cases c : a = j ∧ b = i
    · obtain ⟨rfl, rfl⟩ := c
      rw [if_pos (Or.inl ⟨rfl, rfl⟩), up2_same]
    · rw [up2_at (by omega)]
      by_cases d : a = i ∧ b = j
      · obtain ⟨rfl, rfl⟩ := d
        rw [if_pos (Or.inr ⟨rfl, rfl⟩), up2_same]
      · rw [up2_at (by omega), if_neg (by omega)]
  have sh : SyH (up2 (up2 x (17 + i) j v) (17 + j) i v) := fun a b ha hb => by
    rw [hh, hh, hs a b ha hb]
    by_cases c : (a = j ∧ b = i) ∨ (a = i ∧ b = j)
    · rw [if_pos c, if_pos (by omega)]
    · rw [if_neg c, if_neg (by omega)]
  have hr : Hr (up2 (up2 x (17 + i) j v) (17 + j) i v) := fun a b ha hb => by
    rw [hh]
    split
    · exact hv
    · exact h a b ha hb
  unfold layS
  generalize up2 (up2 x (17 + i) j v) (17 + j) i v = z at sh hr
  constructor
  · intro a b ha hb
    rw [ovS_k (by omega), ovS_k (by omega), lyA_k (by omega) 6 (by decide), lyA_k (by omega) 6 (by decide)]
    exact sh a b ha hb
  · exact (ovS_sy (fun a b ha hb => lyA_ok hr 6 (by decide) a b ha hb) (lyA_sy sh) 6 (by decide)).1
end ROADS
