/-! THE BEST SET, EXACTLY: the class's, chosen -/
section BEST4
variable {ρ σ x y z : MS} {PL : Nat → Prop} {G : Nat → Nat} {pb : Int32} {f : Nat → Nat} {n : Nat}
theorem srt_ord (hs : sgV σ ρ) (he : enV σ) : ordL ρ (fun s => bt pb s = true) (srtL σ pb 10).length (fun p => (srtL σ pb 10).getD p 0) := by
  have g : ∀ p (h : p < (srtL σ pb 10).length), (srtL σ pb 10).getD p 0 = (srtL σ pb 10)[p] := fun p h => by simp [List.getD, h]
  refine ⟨fun p hp => ?_, fun p q hpq hq => ?_, fun s hs16 hp => ?_⟩
  · dsimp only
    rw [g p hp]
    have := (srtL_mem (σ := σ) (pb := pb) 10 _).mp (List.getElem_mem hp)
    exact ⟨this.1, this.2.1⟩
  · dsimp only
    rw [g p (by omega), g q hq]
    exact List.pairwise_iff_getElem.mp (srtL_pw hs 10 (Nat.le_refl _)) p q (by omega) hq hpq
  · obtain ⟨e, he1, he2⟩ := he s hs16
    have hm : s ∈ srtL σ pb 10 := (srtL_mem 10 s).mpr ⟨hs16, hp, e, he1, he2⟩
    obtain ⟨p, hp1, hp2⟩ := List.mem_iff_getElem.mp hm
    exact ⟨p, hp1, (g p hp1).trans hp2⟩
/-- none is behind, or the best is -/
theorem bst_BN {l : Option Nat} {v : Int32} (hO : ordL ρ PL n f) (h : bst G f n (fun q => q < n ∧ cB ρ l (f q)) v) : (v = -1 ∧ ∀ k, k < 16 → PL k → ¬ cB ρ l k) ∨ ∃ q, q < n ∧ v = nI q ∧ BN ρ PL G l (f q) := by
  rcases h with ⟨h1, h2⟩ | ⟨q, h1, h2, h3, h4⟩
  · refine Or.inl ⟨h1, fun k hk hp hb => ?_⟩
    obtain ⟨q, hq, e⟩ := hO.2.2 k hk hp
    exact h2 q ⟨hq, e ▸ hb⟩
  · refine Or.inr ⟨q, h1, h3, (hO.1 q h1).1, (hO.1 q h1).2, h2.2, fun k hk hp hb => ?_⟩
    obtain ⟨q', hq', e⟩ := hO.2.2 k hk hp
    rw [← e]
    exact h4 q' ⟨hq', by rw [e]; exact hb⟩
/-- what is behind: its minutes -/
theorem gOk_rest {s m r : Nat} {l : Option Nat} (hG : gOk ρ PL G) (hl : l = some s) (hmax : ∀ k, k < 16 → bhP ρ s k → G k ≤ r) (hr : r = 0 ∨ ∃ k, k < 16 ∧ bhP ρ s k ∧ G k = r) : (∀ k, k < 16 → PL k → ¬ cB ρ l k) → r = 0 := fun hno => by
  rcases hr with e | ⟨k, hk, hb, e⟩
  · exact e
  · by_cases hp : PL k
    · exact absurd (by rw [hl]; exact hb) (hno k hk hp)
    · rw [← e]; exact (hG k hk).2.1 hp
theorem gOk_next {s r j : Nat} (hG : gOk ρ PL G) (hmax : ∀ k, k < 16 → bhP ρ s k → G k ≤ r) (hr : r = 0 ∨ ∃ k, k < 16 ∧ bhP ρ s k ∧ G k = r) (hj : BN ρ PL G (some s) j) : r = G j := by
  obtain ⟨h1, h2, h3, h4⟩ := hj
  have a1 := hmax j h1 h3
  obtain ⟨m, r', _, b2, b3, _⟩ := (hG j h1).2.2 h2
  rcases hr with e | ⟨k, hk, hb, e⟩
  · omega
  · have hp : PL k := Classical.byContradiction fun z => by
      have := (hG k hk).2.1 z
      omega
    have := h4 k hk hp hb
    omega
theorem nv_bst {p : Nat} (hn : n ≤ 16) (hO : ordL ρ PL n f) (hG : gOk ρ PL G) (h12 : ∀ q, q < n → x 12 q = nI (f q)) (h13 : ∀ q, p < q → q < n → x 13 q = nI (G (f q))) (hp : p < n) : ∀ m, p + 1 + m ≤ n → bst G f n (fun q => p < q ∧ q < p + 1 + m ∧ fits2 x (f p) (f q) = true) (nv x p m)
  | 0, _ => Or.inl ⟨rfl, fun q hq => by omega⟩
  | m + 1, hm => by
    have ih := nv_bst hn hO hG h12 h13 hp m (by omega)
    have o : ∀ q, q < n → ordN x q = f q := fun q hq => by
      unfold ordN
      rw [h12 q hq, nI_clamp (by have := (hO.1 q hq).1; omega)]
    unfold nv
    rw [o p hp, o (p + 1 + m) (by omega)]
    by_cases c : fits2 x (f p) (f (p + 1 + m)) = true
    · rw [if_pos c]
      refine (bsF_bst hn (fun q hq => ⟨(hG _ (hO.1 q hq).1).1, (hO.1 q hq).1⟩) h12 (fun q hq => ?_) (by omega) ih).cg (fun q => ?_)
      · have hq : p < q ∧ q < n := by
          rcases hq with h | h
          · exact ⟨h.1, by omega⟩
          · omega
        exact ⟨hq.2, h13 q hq.1 hq.2⟩
      · constructor
        · rintro (h | h)
          · exact ⟨h.1, by omega, h.2.2⟩
          · subst h; exact ⟨by omega, by omega, c⟩
        · rintro ⟨h1, h2, h3⟩
          by_cases e : q = p + 1 + m
          · exact Or.inr e
          · exact Or.inl ⟨h1, by omega, h3⟩
    · rw [if_neg c]
      refine ih.cg (fun q => ?_)
      constructor
      · rintro ⟨h1, h2, h3⟩; exact ⟨h1, by omega, h3⟩
      · rintro ⟨h1, h2, h3⟩
        by_cases e : q = p + 1 + m
        · subst e; exact absurd h3 c
        · exact ⟨h1, by omega, h3⟩
/-- from the end on: the minutes of each place are the song's, what is next is the best -/
theorem ch_best (hn : n ≤ 16) (hO : ordL ρ PL n f) (hG : gOk ρ PL G) (hs : sgV x ρ) (h12 : ∀ q, q < n → x 12 q = nI (f q)) : ∀ d, d ≤ n → ∀ q, n - d ≤ q → q < n → chS x n d 13 q = nI (G (f q)) ∧ bst G f n (fun q' => q' < n ∧ cB ρ (some (f q)) (f q')) (chS x n d 14 q)
  | 0, _, q, h1, h2 => by omega
  | d + 1, hd, q, h1, h2 => by
    have ih := ch_best hn hO hG hs h12 d (by omega)
    have k12 : chS x n d 12 = x 12 := chS_k (by decide) (by decide) d
    have ksg : ∀ s, chS x n d (39 + s) = x (39 + s) := fun s => chS_k (by omega) (by omega) d
    unfold chS chV
    generalize chS x n d = w at ih k12 ksg ⊢
    obtain ⟨p, hp⟩ : ∃ p, p = n - 1 - d := ⟨_, rfl⟩
    rw [← hp]
    have hpn : p < n := by omega
    have w12 : ∀ q, q < n → w 12 q = nI (f q) := fun q hq => by rw [k12]; exact h12 q hq
    have ws : sgV w ρ := fun s hs16 => by rw [ksg s]; exact hs s hs16
    have w13 : ∀ q, p < q → q < n → w 13 q = nI (G (f q)) := fun q a b => (ih q (by omega) b).1
    have fp := hO.1 p hpn
    have nb : bst G f n (fun q' => q' < n ∧ cB ρ (some (f p)) (f q')) (nv w p d) := (nv_bst hn hO hG w12 w13 hpn d (by omega)).cg (fun q' => by
      constructor
      · rintro ⟨a, b, c⟩
        have hq' : q' < n := by omega
        exact ⟨hq', (bh_fits ws fp.1 (hO.1 q' hq').1).mpr ⟨hO.2.1 p q' a hq', c⟩⟩
      · rintro ⟨a, b⟩
        have b2 := (bh_fits ws fp.1 (hO.1 q' a).1).mp b
        exact ⟨hO.after hpn a b2.1, by omega, b2.2⟩)
    by_cases e : q = p
    · subst e
      rw [up2_at (k := 13) (k' := 14) (by omega), up2_same, up2_same]
      refine ⟨?_, nb⟩
      have op : ordN w q = f q := by
        unfold ordN
        rw [w12 q hpn, nI_clamp (by have := fp.1; omega)]
      obtain ⟨m, r, em, _, eG, hmax, hr⟩ := (hG (f q) fp.1).2.2 fp.2
      rw [op, (ws (f q) fp.1).2.2, em, eG]
      rcases bst_BN hO nb with ⟨v1, v2⟩ | ⟨q', hq', v1, v2⟩
      · rw [if_pos v1, gOk_rest (m := m) hG rfl hmax hr v2]
        show nI m + 0 = nI (m + 0)
        rw [Int32.add_zero]
        rfl
      · have nm : ¬ nI q' = -1 := fun z => by
          have := nI_pos (n := q') (by omega)
          rw [z] at this
          exact this (by decide)
        have lt : q < q' := hO.after hpn hq' v2.2.2.1.1
        rw [v1, if_neg nm, nI_clamp (by omega), w13 q' lt hq', nI_add, gOk_next hG hmax hr v2]
    · rw [up2_at (k := 13) (k' := 13) (by omega), up2_at (k := 14) (k' := 13) (by omega), up2_at (k := 13) (k' := 14) (by omega), up2_at (k := 14) (k' := 14) (by omega)]
      exact ih q (by omega) h2
theorem fs_best (hn : n ≤ 16) (hO : ordL ρ PL n f) (hG : gOk ρ PL G) (h12 : ∀ q, q < n → y 12 q = nI (f q)) (h13 : ∀ q, q < n → y 13 q = nI (G (f q))) : ∀ m, m ≤ n → bst G f n (fun q => q < m) (fsF y m)
  | 0, _ => Or.inl ⟨rfl, fun q hq => by omega⟩
  | m + 1, hm => by
    unfold fsF
    exact (bsF_bst hn (fun q hq => ⟨(hG _ (hO.1 q hq).1).1, (hO.1 q hq).1⟩) h12 (fun q hq => by
      have : q < n := by rcases hq with h | h <;> omega
      exact ⟨this, h13 q this⟩) (by omega) (fs_best hn hO hG h12 h13 m (by omega))).cg (fun q => by omega)
/-- how many can still come behind the last one -/
noncomputable def aft (ρ : MS) (l : Option Nat) : Nat := cnt (fun i => match l with | none => True | some l => lat ρ l i) 16
theorem aft_lt {l : Option Nat} {j : Nat} (hj : j < 16) (h : cB ρ l j) : aft ρ (some j) + 1 ≤ aft ρ l := by
  unfold aft
  refine cnt_lt 16 (fun i _ hi => ?_) ⟨j, hj, lat_irrefl, ?_⟩
  · cases l with
    | none => trivial
    | some l => exact lat_trans h.1 hi
  · cases l with
    | none => trivial
    | some l => exact h.1
theorem fl_best {first : Int32} (hn : n ≤ 16) (hO : ordL ρ PL n f) (h12 : ∀ q, q < n → z 12 q = nI (f q)) (h14 : ∀ q, q < n → bst G f n (fun q' => q' < n ∧ cB ρ (some (f q)) (f q')) (z 14 q)) (hf : bst G f n (fun q => q < n ∧ cB ρ none (f q)) first) : ∀ m, m ≤ 16 → ∃ (R : Nat → Nat) (len : Nat), len ≤ m ∧ (∀ i, i < len → R i < 16 ∧ (flS z first m).1 11 i = nI (R i)) ∧ (∀ i, i < len → BN ρ PL G (lastO R i) (R i)) ∧ (flS z first m).1 10 1 = nI len ∧ len + aft ρ (lastO R len) ≤ 16 ∧
      (((flS z first m).2 = -1 ∧ ∀ k, k < 16 → PL k → ¬ cB ρ (lastO R len) k) ∨ (len = m ∧ ∃ q, q < n ∧ (flS z first m).2 = nI q ∧ BN ρ PL G (lastO R len) (f q)))
  | 0, _ => by
    have l0 : lastO (fun _ => 0) 0 = none := rfl
    refine ⟨fun _ => 0, 0, Nat.le_refl _, fun i hi => absurd hi (Nat.not_lt_zero _), fun i hi => absurd hi (Nat.not_lt_zero _), (show up2 z 10 1 0 10 1 = 0 from up2_same).trans nI_0.symm, ?_, ?_⟩
    · have : aft ρ (lastO (fun _ => 0) 0) ≤ 16 := cnt_le 16
      omega
    · rw [l0]
      rcases bst_BN hO hf with h | ⟨q, h1, h2, h3⟩
      · exact Or.inl h
      · exact Or.inr ⟨rfl, q, h1, h2, h3⟩
  | m + 1, hm => by
    obtain ⟨R, len, a1, a2, a3, a4, a5, a6⟩ := fl_best hn hO h12 h14 hf m (by omega)
    rcases a6 with ⟨b1, b2⟩ | ⟨b1, q, hq, b2, b3⟩
    · refine ⟨R, len, by omega, ?_⟩
      unfold flS
      rw [if_pos b1]
      exact ⟨a2, a3, a4, a5, Or.inl ⟨b1, b2⟩⟩
    · have nm : ¬ nI q = -1 := fun z => by
        have := nI_pos (n := q) (by omega)
        rw [z] at this
        exact this (by decide)
      subst b1
      have k12 : (flS z first len).1 12 = z 12 := flS_k (by decide) (by decide) len
      have k14 : (flS z first len).1 14 = z 14 := flS_k (by decide) (by decide) len
      obtain ⟨R', hR'⟩ : ∃ R' : Nat → Nat, R' = fun i => if i = len then f q else R i := ⟨_, rfl⟩
      have rm : R' len = f q := by rw [hR']; exact if_pos rfl
      have rl : ∀ i, i < len → R' i = R i := fun i hi => by rw [hR']; exact if_neg (by omega)
      have lo' : ∀ i, i ≤ len → lastO R' i = lastO R i := fun i hi => by
        unfold lastO
        by_cases e : i = 0
        · rw [if_pos e, if_pos e]
        · rw [if_neg e, if_neg e, rl (i - 1) (by omega)]
      have l1 : lastO R' (len + 1) = some (f q) := by
        unfold lastO
        rw [if_neg (by omega), Nat.add_sub_cancel, rm]
      have fq := hO.1 q hq
      unfold flS
      rw [b2, if_neg nm, nI_clamp (by omega), k12, k14, h12 q hq]
      dsimp only
      refine ⟨R', len + 1, Nat.le_refl _, fun i hi => ?_, fun i hi => ?_, up2_same, ?_, ?_⟩
      · rw [up2_at (k := 10) (by omega)]
        rcases Nat.eq_or_lt_of_le (Nat.le_of_lt_succ hi) with e | e
        · rw [e, rm, up2_same]; exact ⟨fq.1, rfl⟩
        · rw [rl i e, up2_at (Or.inr (by omega))]; exact a2 i e
      · rw [lo' i (by omega)]
        rcases Nat.eq_or_lt_of_le (Nat.le_of_lt_succ hi) with e | e
        · rw [e, rm]; exact b3
        · rw [rl i e]; exact a3 i e
      · rw [l1]
        have := aft_lt fq.1 b3.2.2.1
        omega
      · rw [l1]
        rcases bst_BN hO (h14 q hq) with h | ⟨q', h1, h2, h3⟩
        · exact Or.inl h
        · exact Or.inr ⟨rfl, q', h1, h2, h3⟩
/-- the minutes of a best row are those of its first one -/
theorem rw_min (hG : gOk ρ PL G) {len : Nat} {R : Nat → Nat} (h : rwOk ρ PL G len R) : rwSum (fun s => ρ 9 s) R len = if len = 0 then 0 else nI (G (R 0)) := by
  by_cases z : len = 0
  · subst z; rfl
  · rw [if_neg z]
    have key : ∀ i, i ≤ len → rwSum (fun s => ρ 9 s) R i + nI (if i < len then G (R i) else 0) = nI (G (R 0)) := by
      intro i
      induction i with
      | zero =>
        intro _
        rw [if_pos (by omega)]
        show 0 + nI (G (R 0)) = _
        rw [Int32.zero_add]
      | succ i ih =>
        intro hi
        have ih := ih (by omega)
        rw [if_pos (by omega)] at ih
        have hB := h.1 i (by omega)
        obtain ⟨m, r, em, _, eG, hmax, hr⟩ := (hG (R i) hB.1).2.2 hB.2.1
        have l1 : lastO R (i + 1) = some (R i) := by
          unfold lastO
          rw [if_neg (by omega), Nat.add_sub_cancel]
        have er : r = if i + 1 < len then G (R (i + 1)) else 0 := by
          by_cases c : i + 1 < len
          · rw [if_pos c]
            have hB2 := h.1 (i + 1) c
            rw [l1] at hB2
            exact gOk_next hG hmax hr hB2
          · rw [if_neg c]
            have e : i + 1 = len := by omega
            refine gOk_rest (m := m) hG l1 hmax hr ?_
            rw [e]
            exact h.2
        rw [← er]
        show rwSum (fun s => ρ 9 s) R i + ρ 9 (R i) + nI r = _
        rw [em, Int32.add_assoc, nI_add, ← eG]
        exact ih
    have := key len (Nat.le_refl _)
    rw [if_neg (Nat.lt_irrefl _)] at this
    rw [← this]
    show _ = _ + 0
    rw [Int32.add_zero]
/-- choosing: the class's best set is a best row -/
theorem cho_best (hs : sgV σ ρ) (he : enV σ) (hG : gOk ρ (fun s => bt pb s = true) G) : ∃ (R : Nat → Nat) (len : Nat), len ≤ 16 ∧ rwOk ρ (fun s => bt pb s = true) G len R ∧ (∀ i, i < len → R i < 16 ∧ choS σ pb 11 i = nI (R i)) ∧ choS σ pb 10 1 = nI len ∧ choS σ pb 10 2 = rwSum (fun s => ρ 9 s) R len := by
  have hO := srt_ord (pb := pb) hs he
  have hL := (srtL_ok σ pb 10 (by decide)).1
  have hn := lst_len hL
  unfold choS
  generalize srtL σ pb 10 = L at hO hn ⊢
  have x12 : ∀ q, q < L.length → putL σ L 12 q = nI (L.getD q 0) := fun q hq => if_pos ⟨rfl, hq⟩
  have xs : sgV (putL σ L) ρ := fun s h16 => by rw [putL_k (by omega) (by omega)]; exact hs s h16
  have hc := ch_best hn hO hG xs x12 L.length (Nat.le_refl _)
  have k12 : chS (putL σ L) L.length L.length 12 = putL σ L 12 := chS_k (by decide) (by decide) _
  unfold chE
  generalize chS (putL σ L) L.length L.length = y at hc k12 ⊢
  have y12 : ∀ q, q < L.length → y 12 q = nI (L.getD q 0) := fun q hq => by rw [k12]; exact x12 q hq
  have hfs := fs_best hn hO hG y12 (fun q hq => (hc q (by omega) hq).1) L.length (Nat.le_refl _)
  have hf : bst G (fun p => L.getD p 0) L.length (fun q => q < L.length ∧ cB ρ none (L.getD q 0)) (fsF y L.length) := hfs.cg (fun q => ⟨fun h => ⟨h, trivial⟩, fun h => h.1⟩)
  obtain ⟨v, hv⟩ : ∃ v, v = (if fsF y L.length = -1 then 0 else y 13 (fsF y L.length).toNatClampNeg) := ⟨_, rfl⟩
  rw [← hv]
  obtain ⟨R, len, a1, a2, a3, a4, a5, a6⟩ := fl_best (z := up2 y 10 2 v) (first := fsF y L.length) hn hO (fun q hq => by rw [up2_at (Or.inl (by decide))]; exact y12 q hq) (fun q hq => by rw [up2_at (Or.inl (by decide))]; exact (hc q (by omega) hq).2) hf 16 (Nat.le_refl _)
  have hrw : rwOk ρ (fun s => bt pb s = true) G len R := by
    refine ⟨a3, ?_⟩
    rcases a6 with ⟨_, b2⟩ | ⟨b1, q, hq, _, b3⟩
    · exact b2
    · have := aft_lt (hO.1 q hq).1 b3.2.2.1
      omega
  have e2 : (flS (up2 y 10 2 v) (fsF y L.length) 16).1 10 2 = v := by
    have : ∀ m, (flS (up2 y 10 2 v) (fsF y L.length) m).1 10 2 = v := fun m => by
      induction m with
      | zero =>
        show up2 (up2 y 10 2 v) 10 1 0 10 2 = v
        rw [up2_off (by omega), up2_same]
      | succ m ih =>
        unfold flS
        split
        · exact ih
        · dsimp only
          rw [up2_off (by omega), up2_off (by omega)]
          exact ih
    exact this 16
  refine ⟨R, len, a1, hrw, a2, a4, ?_⟩
  rw [e2, rw_min hG hrw, hv]
  rcases bst_BN hO hf with ⟨h1, h2⟩ | ⟨q, h1, h2, h3⟩
  · rw [if_pos h1]
    by_cases c : len = 0
    · rw [if_pos c]
    · have hB := hrw.1 0 (by omega)
      exact absurd hB.2.2.1 (h2 _ hB.1 hB.2.1)
  · have nm : ¬ nI q = -1 := fun z => by
      have := nI_pos (n := q) (by omega)
      rw [z] at this
      exact this (by decide)
    rw [h2, if_neg nm, nI_clamp (by omega), (hc q (by omega) h1).1]
    by_cases c : len = 0
    · subst c
      exact absurd h3.2.2.1 (hrw.2 _ h3.1 h3.2.1)
    · rw [if_neg c]
      have hB := hrw.1 0 (by omega)
      rw [BN.uniq hB h3]
end BEST4
