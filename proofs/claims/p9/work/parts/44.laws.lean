/-! LAWS: the best set of songs: the order -/
def srtI (σ : MS) (pb : Int32) (e : Nat) (B : List Nat) : Nat → List Nat
  | 0 => B
  | s + 1 => if bt pb s = true ∧ σ (39 + s) 1 = nI e then srtI σ pb e B s ++ [s] else srtI σ pb e B s
/-- the songs that can be played, by energy, then by number: of the first n energies -/
def srtL (σ : MS) (pb : Int32) : Nat → List Nat
  | 0 => []
  | e + 1 => srtI σ pb e (srtL σ pb e) 16
def putL (σ : MS) (L : List Nat) : MS := fun k j => if k = 12 ∧ j < L.length then nI (L.getD j 0) else if k = 10 ∧ j = 6 then nI L.length else σ k j
theorem putL_nil (σ : MS) : putL σ [] = up2 σ 10 6 0 := by
  funext k j
  unfold putL
  rw [if_neg (fun q => absurd q.2 (Nat.not_lt_zero _))]
  by_cases h : k = 10 ∧ j = 6
  · obtain ⟨rfl, rfl⟩ := h
    rw [if_pos ⟨rfl, rfl⟩, up2_same]
    rfl
  · rw [if_neg h, up2_at (by omega)]
theorem putL_k {σ : MS} {L : List Nat} {k : Nat} (h : k ≠ 12) (h2 : k ≠ 10) : putL σ L k = σ k := by
  funext j
  unfold putL
  rw [if_neg (fun q => h q.1), if_neg (fun q => h2 q.1)]
theorem putL_n {σ : MS} {L : List Nat} : putL σ L 10 6 = nI L.length := by
  unfold putL
  rw [if_neg (fun q => absurd q.1 (by decide)), if_pos ⟨rfl, rfl⟩]
theorem putL_app (σ : MS) (L : List Nat) (s : Nat) : putL σ (L ++ [s]) = up2 (up2 (putL σ L) 12 L.length (nI s)) 10 6 (nI (L.length + 1)) := by
  funext k j
  have hl : (L ++ [s]).length = L.length + 1 := by simp
  by_cases h10 : k = 10 ∧ j = 6
  · obtain ⟨rfl, rfl⟩ := h10
    rw [up2_same, putL_n, hl]
  · rw [up2_at (by omega)]
    by_cases h12 : k = 12
    · subst h12
      by_cases hj : j = L.length
      · subst hj
        rw [up2_same]
        unfold putL
        rw [if_pos (show (12 : Nat) = 12 ∧ L.length < (L ++ [s]).length from ⟨rfl, by omega⟩)]
        simp [List.getD]
      · rw [up2_at (by omega)]
        unfold putL
        by_cases h2 : j < L.length
        · rw [if_pos (show (12 : Nat) = 12 ∧ j < (L ++ [s]).length from ⟨rfl, by omega⟩), if_pos (show (12 : Nat) = 12 ∧ j < L.length from ⟨rfl, h2⟩)]
          simp [List.getD, List.getElem?_append_left h2]
        · have a1 : ¬ ((12 : Nat) = 12 ∧ j < (L ++ [s]).length) := fun q => by omega
          have a2 : ¬ ((12 : Nat) = 12 ∧ j < L.length) := fun q => h2 q.2
          have a3 : ¬ ((12 : Nat) = 10 ∧ j = 6) := by omega
          rw [if_neg a1, if_neg a2, if_neg a3, if_neg a3]
    · rw [up2_at (by omega)]
      unfold putL
      rw [if_neg (fun q => h12 q.1), if_neg h10, if_neg (fun q => h12 q.1), if_neg h10]
/-- songs below 16, each once -/
def lst (L : List Nat) : Prop := L.Nodup ∧ ∀ x ∈ L, x < 16
theorem lst_len {L : List Nat} (h : lst L) : L.length ≤ 16 := by
  refine fb_holes 16 L.length (fun i => L.getD i 0) (fun i hi => ?_) (fun i j hij hj => ?_)
  · have : L.getD i 0 = L[i] := by simp [List.getD, hi]
    rw [this]
    exact h.2 _ (List.getElem_mem hi)
  · have e1 : L.getD i 0 = L[i]'(by omega) := by simp [List.getD, show i < L.length by omega]
    have e2 : L.getD j 0 = L[j] := by simp [List.getD, hj]
    rw [e1, e2]
    exact (List.pairwise_iff_getElem.mp h.1) i j (by omega) hj hij
theorem srtI_ok {σ : MS} {pb : Int32} {e : Nat} {B : List Nat} (he : e < 10) (hB : lst B) (hE : ∀ x ∈ B, ∃ f, f < e ∧ σ (39 + x) 1 = nI f) : ∀ s, s ≤ 16 → lst (srtI σ pb e B s) ∧ ∀ x ∈ srtI σ pb e B s, x ∈ B ∨ (x < s ∧ σ (39 + x) 1 = nI e) := by
  intro s
  induction s with
  | zero => intro _; exact ⟨hB, fun x hx => Or.inl hx⟩
  | succ s ih =>
    intro hs
    obtain ⟨h1, h2⟩ := ih (by omega)
    unfold srtI
    by_cases c : bt pb s = true ∧ σ (39 + s) 1 = nI e
    · rw [if_pos c]
      have hn : s ∉ srtI σ pb e B s := fun q => by
        rcases h2 s q with z | z
        · obtain ⟨f, hf, hz⟩ := hE s z
          have := (nI_eq (by omega) (by omega)).mp (hz.symm.trans c.2)
          omega
        · omega
      refine ⟨⟨List.nodup_append.mpr ⟨h1.1, by simp, fun a ha b hb => ?_⟩, fun x hx => ?_⟩, fun x hx => ?_⟩
      · obtain rfl : b = s := by simpa using hb
        exact fun z => hn (z ▸ ha)
      · rcases List.mem_append.mp hx with z | z
        · exact h1.2 x z
        · obtain rfl : x = s := by simpa using z
          omega
      · rcases List.mem_append.mp hx with z | z
        · rcases h2 x z with w | w
          · exact Or.inl w
          · exact Or.inr ⟨by omega, w.2⟩
        · obtain rfl : x = s := by simpa using z
          exact Or.inr ⟨by omega, c.2⟩
    · rw [if_neg c]
      exact ⟨h1, fun x hx => (h2 x hx).imp id fun z => ⟨by omega, z.2⟩⟩
theorem srtL_ok (σ : MS) (pb : Int32) : ∀ e, e ≤ 10 → lst (srtL σ pb e) ∧ ∀ x ∈ srtL σ pb e, ∃ f, f < e ∧ σ (39 + x) 1 = nI f
  | 0, _ => ⟨⟨List.nodup_nil, fun x hx => absurd hx List.not_mem_nil⟩, fun x hx => absurd hx List.not_mem_nil⟩
  | e + 1, he => by
    obtain ⟨h1, h2⟩ := srtL_ok σ pb e (by omega)
    obtain ⟨h3, h4⟩ := srtI_ok (pb := pb) (by omega : e < 10) h1 h2 16 (by omega)
    refine ⟨h3, fun x hx => ?_⟩
    rcases h4 x hx with z | z
    · obtain ⟨f, hf, hz⟩ := h2 x z
      exact ⟨f, by omega, hz⟩
    · exact ⟨e, by omega, z.2⟩
theorem law_sort {post : MS → Prop} {σ : MS} {pb : Int32} (h : post (putL σ (srtL σ pb 10))) : w_X1_sort post σ pb := by
  unfold w_X1_sort
  rw [← putL_nil]
  refine up_loop (fun k (q : MS × Int32) => u_X1_sort_7 post pb k q.1 q.2) (fun i => (putL σ (srtL σ pb i), nI i)) 10 ?_ (fun e k he hk => ?_)
  · show u_X1_sort_7 post pb 1 (putL σ (srtL σ pb 10)) (nI 10)
    rw [u_X1_sort_7]
    exact ⟨fun _ => h, fun c => absurd (show (10 : Int32) ≤ nI 10 by decide) c⟩
  · show u_X1_sort_7 post pb (k + 1) (putL σ (srtL σ pb e)) (nI e)
    have hk : u_X1_sort_7 post pb k (putL σ (srtL σ pb (e + 1))) (nI (e + 1)) := hk
    rw [u_X1_sort_7]
    refine ⟨fun c => absurd (show nI 10 ≤ nI e from c) (nI_ge he (by decide)), fun _ => ?_⟩
    obtain ⟨h1, h2⟩ := srtL_ok σ pb e (by omega)
    refine up_loop (fun k2 (q : MS × Int32) => u_X1_sort_16 post pb (fun σ w0 => u_X1_sort_7 post pb k σ w0) k2 q.1 (nI e) q.2) (fun i => (putL σ (srtI σ pb e (srtL σ pb e) i), nI i)) 16 ?_ (fun s k2 hs hk2 => ?_)
    · show u_X1_sort_16 post pb (fun σ w0 => u_X1_sort_7 post pb k σ w0) 1 (putL σ (srtI σ pb e (srtL σ pb e) 16)) (nI e) (nI 16)
      rw [u_X1_sort_16, nI_1]
      exact ⟨fun _ => hk, fun c => absurd (show (16 : Int32) ≤ nI 16 by decide) c⟩
    · show u_X1_sort_16 post pb (fun σ w0 => u_X1_sort_7 post pb k σ w0) (k2 + 1) (putL σ (srtI σ pb e (srtL σ pb e) s)) (nI e) (nI s)
      have hk2 : u_X1_sort_16 post pb (fun σ w0 => u_X1_sort_7 post pb k σ w0) k2 (putL σ (srtI σ pb e (srtL σ pb e) (s + 1))) (nI e) (nI (s + 1)) := hk2
      obtain ⟨h3, h4⟩ := srtI_ok (pb := pb) he h1 h2 s (by omega)
      obtain ⟨h5, -⟩ := srtI_ok (pb := pb) he h1 h2 (s + 1) (by omega)
      have h6 := lst_len h5
      unfold srtI at hk2 h6
      generalize srtI σ pb e (srtL σ pb e) s = L at hk2 h3 h4 h6 ⊢
      have e39 : putL σ L (39 + s) = σ (39 + s) := putL_k (by omega) (by omega)
      rw [u_X1_sort_16, nI_1 e, nI_1 s, nI_clamp (by omega)]
      refine ⟨fun c => absurd (show nI 16 ≤ nI s from c) (nI_ge hs (by decide)), fun _ => law_has (by omega) ⟨fun c => ?_, fun c => ⟨vp_in_nI hs (by decide), fun d => ?_, fun d => ?_⟩⟩⟩
      · rw [if_neg (fun q => by rw [b01_0.mp c] at q; exact Bool.false_ne_true q.1)] at hk2
        exact hk2
      · rw [e39] at d
        rw [if_pos ⟨b01_1.mp c, d⟩] at hk2 h6
        have hlen : L.length < 16 := by
          have : (L ++ [s]).length = L.length + 1 := by simp
          omega
        rw [putL_app] at hk2
        rw [up2_at (k' := 10) (by omega), putL_n, nI_clamp (by omega), nI_1]
        exact ⟨fun q => absurd (show nI 16 ≤ nI L.length from q) (nI_ge hlen (by decide)), fun _ => ⟨vp_in_nI hlen (by decide), hk2⟩⟩
      · rw [e39] at d
        rw [if_neg (fun q => d q.2)] at hk2
        exact hk2
