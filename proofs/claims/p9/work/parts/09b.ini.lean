section GAAST
variable {p : Program} {l : Launch} {e : Env} {R : Room} {s : State} {m : MethodId} {args : Array Value} {below : List Frame} {meth : Method} {c : Code} {H : Heap} {locs : List Loc} {cells slots : Nat} {Q : State → Prop}
variable {cc : ByteArray} {pc nL : Nat} {ls : Array Slot} {rest : List Value} {D : va_G} {cy : Nat → ClassId} {lay : Nat → Nat} {X : Nat → Option va_E} {A : Nat → Prop} {H0 : Heap} {Ts : List Cond} {own : String}
theorem g_aastA {k kv a v : Nat} (ha : lay k = a) (hv : lay kv = v) (hC : CallFix p m c cc nL s args Ts own) (hT : gT D cy s) (G : gG D lay X A H0 H locs) (hk : k < 128) (hkv : kv < 128) (t0 ci : Nat) {cA : ClassId} {r : vw_C} {n : Nat} {vs : List Value} {f : Nat → Option Nat} (he : X k = some (.inl (cA, n, .inr (.inr (.inr (.inr f)))))) (ht : (fdT cy)[t0]? = some (cA, .object r.1)) (hev : X kv = some (.inr (ci, vs))) (hc : vwCl[ci]? = some r) {i : Int32} (hin : vp_in i n) (hdg : decode cc pc = .ok (.aastore, 1))
    (kk : ∀ (H1 : Heap) (locs1 : List Loc), gG D lay (gU X k (some (.inl (cA, n, .inr (.inr (.inr (.inr (va_up f i.toNatClampNeg (some v))))))))) A H0 H1 locs1 → W p l e R s m args below meth c H1 locs1 cells slots Q (F0 m (pc + 1) ls rest)) : W p l e R s m args below meth c H locs cells slots Q (F0 m pc ls (.ref v :: .int i :: .ref a :: rest)) := by
  subst ha
  subst hv
  obtain ⟨q0, hq⟩ := gW_pos (lay := lay) hk he
  obtain ⟨qv, hqv⟩ := gW_pos (lay := lay) hkv hev
  exact va_astq hC.1 hC.2.1 hT.1 (gP_list G.1) (gI_list G.2.1) G.2.2 q0 t0 qv ci hq ht hqv hc hin hdg (fun H1 locs1 hP hD hS => kk H1 locs1 ⟨gP_set G.2.1 hk he hq hP, gI_set G.2.1 he, hS⟩)
end GAAST
/-- the numbers of a new agency -/
def σ0 : MS := fun k j =>
  if k = 9 then (if j < 2 then -1 else 0)
  else if 23 ≤ k ∧ k < 29 then (if j < 6 then wy0 (k - 23) j else 0)
  else if 39 ≤ k ∧ k < 55 then (if j = 0 then nI (k - 39) - nI (k - 39) / 12 * 12 else if j = 1 then 5 else if j = 2 then 3 else 0)
  else 0
def rfs (lay : Nat → Nat) (b n : Nat) : Nat → Option Nat := fun j => if j < n then some (lay (b + j)) else none
def inX (cy : Nat → ClassId) (lay : Nat → Nat) (X : Nat → Option va_E) (a b c d : Nat) : Nat → Option va_E := fun i =>
  if i = 0 then some (.inr (12, Lag lay (fun _ => 0)))
  else if i = 1 then some (.inl (cy 2, 10, .inr (.inr (.inr (.inr (rfs lay 29 a))))))
  else if i = 2 then some (.inl (cy 3, 16, .inr (.inr (.inr (.inr (rfs lay 39 b))))))
  else if i = 3 then some (.inl (cy 4, 6, .inr (.inr (.inr (.inr (rfs lay 55 c))))))
  else if i = 4 then some (.inl (cy 5, 14, .inr (.inr (.inr (.inr (rfs lay 73 d))))))
  else if i = 5 then some (.inr (9, [.ref (lay 15), .ref (lay 16)]))
  else if i = 10 then some (.inr (6, Lbs lay (fun _ => 0)))
  else if i = 15 then some (.inl (cy 6, 6, .inr (.inr (.inr (.inr (rfs lay 17 6))))))
  else if i = 16 then some (.inl (cy 6, 6, .inr (.inr (.inr (.inr (rfs lay 23 6))))))
  else if i < 29 then some (agR cy (fun _ => 0) (σ0 i) i)
  else if i < 39 then (if i < 29 + a then some (.inr (8, [.int 0, .int 0, .int 0, .int 0, .int 0, .int 0, .int 0, .int 0])) else none)
  else if i < 55 then (if i < 39 + b then some (.inr (10, [.int (nI (i - 39) - nI (i - 39) / 12 * 12), .int 5, .int 3, .int 0])) else none)
  else if i < 61 then (if i < 55 + c then some (.inr (5, [.ref (lay (61 + (i - 55))), .ref (lay (67 + (i - 55))), .int 0])) else none)
  else if i < 67 then (if i < 61 + c then some (.inl (cy 0, 6, .inl (fun _ => 0))) else none)
  else if i < 73 then (if i < 67 + c then some (.inl (cy 0, 5, .inl (fun _ => 0))) else none)
  else if i < 87 then (if i < 73 + d then some (.inr (11, [.int 0, .int 0, .int 0, .int 0, .int 0, .int 0, .int 0, .int 0, .int 0, .int 0, .int 0, .int 0])) else none)
  else X i
def inDone (a b c d r : Nat) : Prop := r < 29 ∨ (29 ≤ r ∧ r < 29 + a) ∨ (39 ≤ r ∧ r < 39 + b) ∨ (55 ≤ r ∧ r < 55 + c) ∨ (61 ≤ r ∧ r < 61 + c) ∨ (67 ≤ r ∧ r < 67 + c) ∨ (73 ≤ r ∧ r < 73 + d)
theorem rfs_lay {lay lay' : Nat → Nat} {b n : Nat} (h : ∀ j, j < n → lay (b + j) = lay' (b + j)) : rfs lay b n = rfs lay' b n := by
  funext j
  unfold rfs
  by_cases hj : j < n
  · rw [if_pos hj, if_pos hj, h j hj]
  · rw [if_neg hj, if_neg hj]
theorem inX_lay {cy : Nat → ClassId} {lay lay' : Nat → Nat} {X : Nat → Option va_E} {a b c d : Nat} (h : ∀ r, inDone a b c d r → lay r = lay' r) (i : Nat) : inX cy lay X a b c d i = inX cy lay' X a b c d i := by
  have h0 : ∀ r, r < 29 → lay r = lay' r := fun r hr => h r (Or.inl hr)
  have h1 : rfs lay 29 a = rfs lay' 29 a := rfs_lay fun j hj => h _ (by unfold inDone; omega)
  have h2 : rfs lay 39 b = rfs lay' 39 b := rfs_lay fun j hj => h _ (by unfold inDone; omega)
  have h3 : rfs lay 55 c = rfs lay' 55 c := rfs_lay fun j hj => h _ (by unfold inDone; omega)
  have h4 : rfs lay 73 d = rfs lay' 73 d := rfs_lay fun j hj => h _ (by unfold inDone; omega)
  have h5 : rfs lay 17 6 = rfs lay' 17 6 := rfs_lay fun j hj => h0 _ (by omega)
  have h6 : rfs lay 23 6 = rfs lay' 23 6 := rfs_lay fun j hj => h0 _ (by omega)
  have e0 : Lag lay (fun _ => 0) = Lag lay' (fun _ => 0) := by
    unfold Lag
    rw [h0 1 (by decide), h0 2 (by decide), h0 3 (by decide), h0 4 (by decide), h0 5 (by decide), h0 6 (by decide), h0 7 (by decide), h0 8 (by decide), h0 9 (by decide), h0 10 (by decide)]
  have e1 : Lbs lay (fun _ => 0) = Lbs lay' (fun _ => 0) := by
    unfold Lbs
    rw [h0 11 (by decide), h0 12 (by decide), h0 13 (by decide), h0 14 (by decide)]
  unfold inX
  rw [h1, h2, h3, h4, h5, h6, e0, e1, h0 15 (by decide), h0 16 (by decide)]
  by_cases hb : 55 ≤ i ∧ i < 55 + c
  · rw [h (61 + (i - 55)) (by unfold inDone; omega), h (67 + (i - 55)) (by unfold inDone; omega)]
  · by_cases h55 : i < 55
    · have q1 : ∀ (x y z : Option va_E), (if i < 55 then x else y) = if i < 55 then x else z := fun x y z => by rw [if_pos h55, if_pos h55]
      rw [q1 _ _ none, q1 _ (if i < 61 then _ else _) none]
    · by_cases h61 : i < 61
      · have q : ¬ i < 55 + c := by omega
        rw [if_neg q, if_neg q]
      · have q1 : ∀ (x y z : Option va_E), (if i < 61 then x else y) = if i < 61 then z else y := fun x y z => by rw [if_neg h61, if_neg h61]
        rw [q1 _ _ none, q1 (if i < 55 + c then _ else _) _ none]
