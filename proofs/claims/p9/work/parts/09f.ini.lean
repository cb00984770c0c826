theorem va_at_rf {D : va_G} {q n : Nat} {cA : ClassId} {f g : Nat → Option Nat} {H : Heap} (hfg : ∀ j, j < n → f j = g j) (h : va_at D vwCl (q, .inl (cA, n, .inr (.inr (.inr (.inr f))))) H) : va_at D vwCl (q, .inl (cA, n, .inr (.inr (.inr (.inr g))))) H := by
  have h2 : H[q]? = some (arrV cA n (fun j => va_rf (f j))) := h
  show H[q]? = some (arrV cA n (fun j => va_rf (g j)))
  rw [h2]
  unfold arrV
  congr 2
  refine congrArg Array.ofFn (funext fun j => ?_)
  show va_rf (f j.val) = va_rf (g j.val)
  rw [hfg j.val j.isLt]
theorem rfs_in {lay : Nat → Nat} {b n j : Nat} (h : j < n) : rfs lay b n j = some (lay (b + j)) := if_pos h
set_option maxHeartbeats 4000000 in
set_option maxRecDepth 100000 in
theorem inX_is (cy : Nat → ClassId) (lay : Nat → Nat) (X : Nat → Option va_E) (k : Nat) (hk : k < 87) : ∃ e, inX cy lay X 10 16 6 14 k = some e ∧ ∀ (D : va_G) (H : Heap) (q : Nat), va_at D vwCl (q, e) H → va_at D vwCl (q, agR cy lay (σ0 k) k) H := by
  match k, hk with
  | 0, _ => exact ⟨_, rfl, fun _ _ _ h => h⟩
  | 1, _ => exact ⟨_, rfl, fun _ _ _ h => va_at_rf (fun j hj => rfs_in hj) h⟩
  | 2, _ => exact ⟨_, rfl, fun _ _ _ h => va_at_rf (fun j hj => rfs_in hj) h⟩
  | 3, _ => exact ⟨_, rfl, fun _ _ _ h => va_at_rf (fun j hj => rfs_in hj) h⟩
  | 4, _ => exact ⟨_, rfl, fun _ _ _ h => va_at_rf (fun j hj => rfs_in hj) h⟩
  | 5, _ => exact ⟨_, rfl, fun _ _ _ h => h⟩
  | 6, _ => exact ⟨_, rfl, fun _ _ _ h => h⟩
  | 7, _ => exact ⟨_, rfl, fun _ _ _ h => h⟩
  | 8, _ => exact ⟨_, rfl, fun _ _ _ h => h⟩
  | 9, _ => exact ⟨_, rfl, fun _ _ _ h => h⟩
  | 10, _ => exact ⟨_, rfl, fun _ _ _ h => h⟩
  | 11, _ => exact ⟨_, rfl, fun _ _ _ h => h⟩
  | 12, _ => exact ⟨_, rfl, fun _ _ _ h => h⟩
  | 13, _ => exact ⟨_, rfl, fun _ _ _ h => h⟩
  | 14, _ => exact ⟨_, rfl, fun _ _ _ h => h⟩
  | 15, _ => exact ⟨_, rfl, fun _ _ _ h => va_at_rf (fun j hj => rfs_in hj) h⟩
  | 16, _ => exact ⟨_, rfl, fun _ _ _ h => va_at_rf (fun j hj => rfs_in hj) h⟩
  | 17, _ => exact ⟨_, rfl, fun _ _ _ h => h⟩
  | 18, _ => exact ⟨_, rfl, fun _ _ _ h => h⟩
  | 19, _ => exact ⟨_, rfl, fun _ _ _ h => h⟩
  | 20, _ => exact ⟨_, rfl, fun _ _ _ h => h⟩
  | 21, _ => exact ⟨_, rfl, fun _ _ _ h => h⟩
  | 22, _ => exact ⟨_, rfl, fun _ _ _ h => h⟩
  | 23, _ => exact ⟨_, rfl, fun _ _ _ h => h⟩
  | 24, _ => exact ⟨_, rfl, fun _ _ _ h => h⟩
  | 25, _ => exact ⟨_, rfl, fun _ _ _ h => h⟩
  | 26, _ => exact ⟨_, rfl, fun _ _ _ h => h⟩
  | 27, _ => exact ⟨_, rfl, fun _ _ _ h => h⟩
  | 28, _ => exact ⟨_, rfl, fun _ _ _ h => h⟩
  | 29, _ => exact ⟨_, rfl, fun _ _ _ h => h⟩
  | 30, _ => exact ⟨_, rfl, fun _ _ _ h => h⟩
  | 31, _ => exact ⟨_, rfl, fun _ _ _ h => h⟩
  | 32, _ => exact ⟨_, rfl, fun _ _ _ h => h⟩
  | 33, _ => exact ⟨_, rfl, fun _ _ _ h => h⟩
  | 34, _ => exact ⟨_, rfl, fun _ _ _ h => h⟩
  | 35, _ => exact ⟨_, rfl, fun _ _ _ h => h⟩
  | 36, _ => exact ⟨_, rfl, fun _ _ _ h => h⟩
  | 37, _ => exact ⟨_, rfl, fun _ _ _ h => h⟩
  | 38, _ => exact ⟨_, rfl, fun _ _ _ h => h⟩
  | 39, _ => exact ⟨_, rfl, fun _ _ _ h => h⟩
  | 40, _ => exact ⟨_, rfl, fun _ _ _ h => h⟩
  | 41, _ => exact ⟨_, rfl, fun _ _ _ h => h⟩
  | 42, _ => exact ⟨_, rfl, fun _ _ _ h => h⟩
  | 43, _ => exact ⟨_, rfl, fun _ _ _ h => h⟩
  | 44, _ => exact ⟨_, rfl, fun _ _ _ h => h⟩
  | 45, _ => exact ⟨_, rfl, fun _ _ _ h => h⟩
  | 46, _ => exact ⟨_, rfl, fun _ _ _ h => h⟩
  | 47, _ => exact ⟨_, rfl, fun _ _ _ h => h⟩
  | 48, _ => exact ⟨_, rfl, fun _ _ _ h => h⟩
  | 49, _ => exact ⟨_, rfl, fun _ _ _ h => h⟩
  | 50, _ => exact ⟨_, rfl, fun _ _ _ h => h⟩
  | 51, _ => exact ⟨_, rfl, fun _ _ _ h => h⟩
  | 52, _ => exact ⟨_, rfl, fun _ _ _ h => h⟩
  | 53, _ => exact ⟨_, rfl, fun _ _ _ h => h⟩
  | 54, _ => exact ⟨_, rfl, fun _ _ _ h => h⟩
  | 55, _ => exact ⟨_, rfl, fun _ _ _ h => h⟩
  | 56, _ => exact ⟨_, rfl, fun _ _ _ h => h⟩
  | 57, _ => exact ⟨_, rfl, fun _ _ _ h => h⟩
  | 58, _ => exact ⟨_, rfl, fun _ _ _ h => h⟩
  | 59, _ => exact ⟨_, rfl, fun _ _ _ h => h⟩
  | 60, _ => exact ⟨_, rfl, fun _ _ _ h => h⟩
  | 61, _ => exact ⟨_, rfl, fun _ _ _ h => h⟩
  | 62, _ => exact ⟨_, rfl, fun _ _ _ h => h⟩
  | 63, _ => exact ⟨_, rfl, fun _ _ _ h => h⟩
  | 64, _ => exact ⟨_, rfl, fun _ _ _ h => h⟩
  | 65, _ => exact ⟨_, rfl, fun _ _ _ h => h⟩
  | 66, _ => exact ⟨_, rfl, fun _ _ _ h => h⟩
  | 67, _ => exact ⟨_, rfl, fun _ _ _ h => h⟩
  | 68, _ => exact ⟨_, rfl, fun _ _ _ h => h⟩
  | 69, _ => exact ⟨_, rfl, fun _ _ _ h => h⟩
  | 70, _ => exact ⟨_, rfl, fun _ _ _ h => h⟩
  | 71, _ => exact ⟨_, rfl, fun _ _ _ h => h⟩
  | 72, _ => exact ⟨_, rfl, fun _ _ _ h => h⟩
  | 73, _ => exact ⟨_, rfl, fun _ _ _ h => h⟩
  | 74, _ => exact ⟨_, rfl, fun _ _ _ h => h⟩
  | 75, _ => exact ⟨_, rfl, fun _ _ _ h => h⟩
  | 76, _ => exact ⟨_, rfl, fun _ _ _ h => h⟩
  | 77, _ => exact ⟨_, rfl, fun _ _ _ h => h⟩
  | 78, _ => exact ⟨_, rfl, fun _ _ _ h => h⟩
  | 79, _ => exact ⟨_, rfl, fun _ _ _ h => h⟩
  | 80, _ => exact ⟨_, rfl, fun _ _ _ h => h⟩
  | 81, _ => exact ⟨_, rfl, fun _ _ _ h => h⟩
  | 82, _ => exact ⟨_, rfl, fun _ _ _ h => h⟩
  | 83, _ => exact ⟨_, rfl, fun _ _ _ h => h⟩
  | 84, _ => exact ⟨_, rfl, fun _ _ _ h => h⟩
  | 85, _ => exact ⟨_, rfl, fun _ _ _ h => h⟩
  | 86, _ => exact ⟨_, rfl, fun _ _ _ h => h⟩
  | n + 87, h => exact absurd h (by omega)
/-- the world that the constructor leaves is the class's world with the numbers of a new agency -/
theorem inX_ag {D : va_G} {cy : Nat → ClassId} {lay : Nat → Nat} {X : Nat → Option va_E} {A : Nat → Prop} {H : Heap} (hP : gP D lay (inX cy lay X 10 16 6 14) H) (hI : gI A lay (inX cy lay X 10 16 6 14)) : va_P D vwCl (agW cy lay σ0) H ∧ va_D A (agW cy lay σ0) := by
  refine ⟨fun k q hq => ?_, fun i j p q hi hj he => ?_, fun k q hq => ?_⟩
  · obtain ⟨hk, rfl⟩ := ag_of hq
    obtain ⟨e, he, h⟩ := inX_is cy lay X k hk
    exact h D H (lay k) (hP k e (by omega) he)
  · obtain ⟨hi2, rfl⟩ := ag_of hi
    obtain ⟨hj2, rfl⟩ := ag_of hj
    obtain ⟨e, h1, -⟩ := inX_is cy lay X i hi2
    obtain ⟨f, h2, -⟩ := inX_is cy lay X j hj2
    exact hI.1 i j e f (by omega) (by omega) h1 h2 he
  · obtain ⟨hk, rfl⟩ := ag_of hq
    obtain ⟨e, he, -⟩ := inX_is cy lay X k hk
    exact hI.2 k e (by omega) he
