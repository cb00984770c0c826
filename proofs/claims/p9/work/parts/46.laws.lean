/-! LAWS: the best set of songs, chosen -/
def flS (z : MS) (first : Int32) : Nat → MS × Int32
  | 0 => (up2 z 10 1 0, first)
  | m + 1 =>
    if (flS z first m).2 = -1 then flS z first m
    else (up2 (up2 (flS z first m).1 11 m ((flS z first m).1 12 (flS z first m).2.toNatClampNeg)) 10 1 (nI (m + 1)), (flS z first m).1 14 (flS z first m).2.toNatClampNeg)
theorem flS_k {z : MS} {first : Int32} {k : Nat} (h1 : k ≠ 10) (h2 : k ≠ 11) : ∀ m, (flS z first m).1 k = z k
  | 0 => up2_ne h1
  | m + 1 => by
    unfold flS
    split
    · exact flS_k h1 h2 m
    · dsimp only
      rw [up2_ne h1, up2_ne h2]
      exact flS_k h1 h2 m
theorem flS_ps {z : MS} {first : Int32} {n : Nat} (hz : ∀ j, j < n → ps n (z 14 j)) (hf : ps n first) (hn : n ≤ 16) : ∀ m, ps n (flS z first m).2
  | 0 => hf
  | m + 1 => by
    have ih := flS_ps hz hf hn m
    unfold flS
    split
    · exact ih
    · dsimp only
      rw [flS_k (by decide) (by decide)]
      rcases ih with q | ⟨j, hj, q⟩
      · rename_i c
        exact absurd q c
      · rw [q, nI_clamp (by omega)]
        exact hz j hj
theorem flS_n {z : MS} {first : Int32} : ∀ m, ¬ (flS z first m).2 = -1 → (flS z first m).1 10 1 = nI m
  | 0, _ => (show up2 z 10 1 0 10 1 = 0 from up2_same).trans nI_0.symm
  | m + 1, h => by
    unfold flS at h ⊢
    by_cases c : (flS z first m).2 = -1
    · rw [if_pos c] at h
      exact absurd c h
    · rw [if_neg c]
      dsimp only
      exact up2_same
theorem flS_stop {z : MS} {first : Int32} {m n : Nat} (h : m ≤ n) (hm : (flS z first m).2 = -1) : flS z first n = flS z first m := by
  induction n with
  | zero => obtain rfl : m = 0 := by omega
            rfl
  | succ n ih =>
    by_cases q : m = n + 1
    · subst q; rfl
    · have e := ih (by omega)
      have hn : (flS z first n).2 = -1 := by rw [e]; exact hm
      rw [← e]
      conv => lhs; unfold flS
      rw [if_pos hn]
theorem law_follow {post : MS → Prop} {z : MS} {first : Int32} {n : Nat} (hn : n ≤ 16) (hz : ∀ j, j < n → ps n (z 14 j)) (hf : ps n first) (h : post (flS z first 16).1) : w_X1_follow post z first := by
  refine ⟨17, ?_⟩
  have key : ∀ d m, m + d = 16 → u_X1_follow_7 post first (d + 1) (flS z first m).1 (flS z first m).2 := by
    intro d
    induction d with
    | zero =>
      intro m hm
      obtain rfl : m = 16 := by omega
      rw [u_X1_follow_7]
      refine ⟨fun _ => h, fun c => ⟨fun _ => h, fun e => absurd ?_ e⟩⟩
      rw [flS_n 16 c]
      decide
    | succ d ih =>
      intro m hm
      have hk := ih (m + 1) (by omega)
      rw [u_X1_follow_7]
      refine ⟨fun c => ?_, fun c => ⟨fun e => ?_, fun e => ?_⟩⟩
      · rw [flS_stop (n := 16) (by omega) c] at h
        exact h
      · rw [flS_n m c] at e
        exact absurd (show nI 16 ≤ nI m from e) (nI_ge (by omega) (by decide))
      · have v := ps_vp hn (flS_ps hz hf hn m) c
        have e1 := flS_n m c
        unfold flS at hk
        rw [if_neg c] at hk
        dsimp only at hk
        have b14 := flS_k (z := z) (first := first) (k := 14) (by decide) (by decide) m
        generalize flS z first m = y at hk v e1 c e b14 ⊢
        rw [e1, nI_clamp (by omega), up2_at (k' := 10) (by omega), e1, nI_1]
        refine ⟨v, vp_in_nI (by omega) (by decide), v, fun y6 h6 => ?_⟩
        rw [up2_at (by omega), up2_at (by omega)] at h6
        subst h6
        exact hk
  exact key 16 0 (by omega)
def fsF (σ : MS) : Nat → Int32
  | 0 => -1
  | m + 1 => bsF σ m (fsF σ m)
theorem fsF_ps {σ : MS} {n : Nat} : ∀ m, m ≤ n → ps n (fsF σ m)
  | 0, _ => Or.inl rfl
  | m + 1, h => bsF_ps (by omega) (fsF_ps m (by omega))
/-- the state when the places are all looked at; n of them -/
def chE (y : MS) (n : Nat) : MS := (flS (up2 y 10 2 (if fsF y n = -1 then 0 else y 13 (fsF y n).toNatClampNeg)) (fsF y n) 16).1
theorem law_ch137 {post : MS → Prop} {a2 : Int32} {y : MS} {n : Nat} (hn : n ≤ 16) (h6 : y 10 6 = nI n) (hz : ∀ j, j < n → ps n (y 14 j)) (h : post (chE y n)) : ∃ k, u_X1_choose_137 post a2 k y (-1) 0 := by
  refine up_loop (fun k (q : MS × Int32 × Int32) => u_X1_choose_137 post a2 k q.1 q.2.1 q.2.2) (fun i => (y, fsF y i, nI i)) n ?_ (fun i k hi hk => ?_)
  · show u_X1_choose_137 post a2 1 y (fsF y n) (nI n)
    have hf : ps n (fsF y n) := fsF_ps n (Nat.le_refl _)
    unfold chE at h
    rw [u_X1_choose_137, h6]
    have hz2 : ∀ v j, j < n → ps n (up2 y 10 2 v 14 j) := fun v j hj => by rw [up2_at (by omega)]; exact hz j hj
    refine ⟨fun _ => ⟨fun c => ?_, fun c => ⟨ps_vp hn hf c, ?_⟩⟩, fun c => absurd (le_self _) c⟩
    · rw [if_pos c] at h
      exact law_follow hn (hz2 _) hf h
    · rw [if_neg c] at h
      exact law_follow hn (hz2 _) hf h
  · show u_X1_choose_137 post a2 (k + 1) y (fsF y i) (nI i)
    rw [u_X1_choose_137, h6, nI_1]
    exact ⟨fun c => absurd c (nI_ge hi (by omega)), fun _ => law_betterStart hn hi (fsF_ps i (by omega)) hk⟩
/-- the state that choosing leaves -/
def choS (σ : MS) (pb : Int32) : MS := chE (chS (putL σ (srtL σ pb 10)) (srtL σ pb 10).length (srtL σ pb 10).length) (srtL σ pb 10).length
theorem law_choose {post : MS → Prop} {σ : MS} {pb : Int32} (h : post (choS σ pb)) : w_X1_choose post σ pb := by
  unfold w_X1_choose
  refine law_sort ?_
  have hL := (srtL_ok σ pb 10 (by decide)).1
  unfold choS at h
  generalize srtL σ pb 10 = L at h hL ⊢
  have hn := lst_len hL
  have x6 : putL σ L 10 6 = nI L.length := putL_n
  have x12 : ∀ k, k < L.length → vp_in (putL σ L 12 k) 16 := fun k hk => by
    have e : putL σ L 12 k = nI (L.getD k 0) := if_pos ⟨rfl, hk⟩
    rw [e]
    have e2 : L.getD k 0 = L[k] := by simp [List.getD, hk]
    rw [e2]
    exact vp_in_nI (hL.2 _ (List.getElem_mem hk)) (by decide)
  generalize putL σ L = x at h x6 x12 ⊢
  generalize L.length = n at h hn x6 x12 ⊢
  rw [x6]
  refine up_loop (fun k (q : MS × Int32) => u_X1_choose_13 post pb k q.1 q.2) (fun d => (chS x n d, nI (n - d) - 1)) n ?_ (fun d k hd hk => ?_)
  · show u_X1_choose_13 post pb 1 (chS x n n) (nI (n - n) - 1)
    have y6 : chS x n n 10 6 = nI n := by rw [chS_k (by decide) (by decide)]; exact x6
    have yp : ∀ j, j < n → ps n (chS x n n 14 j) := fun j hj => chS_ps n (Nat.le_refl _) j (by omega) hj
    rw [u_X1_choose_13, Nat.sub_self]
    exact ⟨fun _ => law_ch137 hn y6 yp h, fun c => absurd (by decide) c⟩
  · show u_X1_choose_13 post pb (k + 1) (chS x n d) (nI (n - d) - 1)
    have hk : u_X1_choose_13 post pb k (chV (chS x n d) (n - 1 - d) d) (nI (n - (d + 1)) - 1) := hk
    have e1 : n - d = (n - 1 - d) + 1 := by omega
    have e2 : n - (d + 1) = n - 1 - d := by omega
    rw [e2] at hk
    have y6 : chS x n d 10 6 = nI n := by rw [chS_k (by decide) (by decide)]; exact x6
    have y12 : ∀ k, k < n → vp_in (chS x n d 12 k) 16 := fun k hk => by rw [chS_k (by decide) (by decide)]; exact x12 k hk
    have vp : vp_in (nI (n - 1 - d)) 16 := vp_in_nI (by omega) (by decide)
    rw [u_X1_choose_13, e1, nI_pred, nI_clamp (by omega), nI_1]
    exact ⟨fun c => absurd c (nI_pos (by omega)), fun _ => ⟨vp, y12 _ (by omega), vp, law_ch39 hn y6 y12 (by omega) hk⟩⟩
