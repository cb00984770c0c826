/-! LAWS: what does not look at scratch -/
theorem Scr.c0 {σ τ : MS} (h : Scr σ τ) : τ 0 = σ 0 := h 0 (by omega)
theorem Scr.c6 {σ τ : MS} (h : Scr σ τ) : τ 6 = σ 6 := h 6 (by omega)
theorem Scr.c23 {σ τ : MS} (h : Scr σ τ) (a : Nat) : τ (23 + a) = σ (23 + a) := h _ (by omega)
theorem Scr.c29 {σ τ : MS} (h : Scr σ τ) (a : Nat) : τ (29 + a) = σ (29 + a) := h _ (by omega)
theorem Scr.c39 {σ τ : MS} (h : Scr σ τ) (a : Nat) : τ (39 + a) = σ (39 + a) := h _ (by omega)
theorem Scr.c55 {σ τ : MS} (h : Scr σ τ) (a : Nat) : τ (55 + a) = σ (55 + a) := h _ (by omega)
theorem Scr.c61 {σ τ : MS} (h : Scr σ τ) (a : Nat) : τ (61 + a) = σ (61 + a) := h _ (by omega)
theorem Scr.c67 {σ τ : MS} (h : Scr σ τ) (a : Nat) : τ (67 + a) = σ (67 + a) := h _ (by omega)
theorem Scr.c73 {σ τ : MS} (h : Scr σ τ) (a : Nat) : τ (73 + a) = σ (73 + a) := h _ (by omega)
theorem Scr.c29' {σ τ : MS} (h : Scr σ τ) : τ 29 = σ 29 := h _ (by omega)
theorem Scr.sy {σ τ : MS} (h : Scr σ τ) : Scr τ σ := fun k hk => (h k hk).symm
theorem inQ_sc {σ τ : MS} (h : Scr σ τ) (a b : Nat) : inQ τ a b = inQ σ a b := by unfold inQ; simp only [h.c73]
theorem ahead_sc {σ τ : MS} (h : Scr σ τ) (a : Nat) : ahead τ a = ahead σ a := by unfold ahead; simp only [inQ_sc h]
theorem pq_sc {σ τ : MS} (h : Scr σ τ) (a : Nat) : pq τ a = pq σ a := by unfold pq; simp only [ahead_sc h, h.c73]
theorem isFst_sc {σ τ : MS} (h : Scr σ τ) (a : Nat) : isFst τ a = isFst σ a := by unfold isFst; simp only [ahead_sc h, h.c73]
theorem fxw_sc {σ τ : MS} (h : Scr σ τ) (w p : Nat) : fxw τ w p = fxw σ w p := by unfold fxw; simp only [h.c73]
theorem quF_sc {σ τ : MS} (h : Scr σ τ) (w : Nat) : quF τ w = quF σ w := by unfold quF; simp only [h.c73]
theorem wayF_sc {σ τ : MS} (h : Scr σ τ) (a b : Int32) : wayF τ a b = wayF σ a b := by unfold wayF; simp only [h.c23]
theorem costF_sc {σ τ : MS} (h : Scr σ τ) (p w : Nat) : costF τ p w = costF σ p w := by unfold costF; simp only [wayF_sc h, h.c29, h.c73]
theorem wageF_sc {σ τ : MS} (h : Scr σ τ) (p w : Nat) : wageF τ p w = wageF σ p w := by unfold wageF; simp only [costF_sc h, quF_sc h, h.c29]
theorem extraF_sc {σ τ : MS} (h : Scr σ τ) (w n : Nat) : extraF τ w n = extraF σ w n := by unfold extraF feesF; simp only [quF_sc h, h.c29, h.c73]
theorem owedF_sc {σ τ : MS} (h : Scr σ τ) (w : Nat) : owedF τ w = owedF σ w := by unfold owedF; simp only [h.c73, h.c0]
theorem wagesF_sc {σ τ : MS} (h : Scr σ τ) (w n : Nat) : wagesF τ w n = wagesF σ w n := by unfold wagesF; simp only [wageF_sc h, h.c73]
theorem shareF_sc {σ τ : MS} (h : Scr σ τ) (s : Nat) : shareF τ s = shareF σ s := by unfold shareF shAll; simp only [h.c39]
theorem ofBd_sc {σ τ : MS} (h : Scr σ τ) (a b : Int32) (w : Nat) : ofBd τ a b w = ofBd σ a b w := by unfold ofBd; simp only [h.c73]
theorem gapF_sc {σ τ : MS} (h : Scr σ τ) (n : Nat) : gapF τ n = gapF σ n := by unfold gapF; simp only [h.c29, h.c29']
theorem taken_sc {σ τ : MS} (h : Scr σ τ) (a b : Int32) : ∀ n, taken τ a b n = taken σ a b n
  | 0 => rfl
  | n + 1 => by unfold taken; rw [taken_sc h a b n]; simp only [h.c73]
theorem fixSnd_sc {σ τ : MS} (h : Scr σ τ) (w : Nat) : fixSnd τ w = fixSnd σ w := by unfold fixSnd bdOf; simp only [taken_sc h, h.c73, h.c55]
theorem allFx_sc {σ τ : MS} (h : Scr σ τ) : ∀ n, allFx τ n = allFx σ n
  | 0 => rfl
  | n + 1 => by unfold allFx; rw [allFx_sc h n, fixSnd_sc h]; simp only [h.c73]
theorem hrsD_sc {σ τ : MS} (h : Scr σ τ) (v : Int32) : ∀ n, hrsD τ v n = hrsD σ v n
  | 0 => rfl
  | n + 1 => by unfold hrsD; rw [hrsD_sc h v n]; simp only [h.c73]
theorem sndB_sc {σ τ : MS} (h : Scr σ τ) (P W : Nat) : sndB τ P W = sndB σ P W := by unfold sndB paidI earnI hrsI shrI; simp only [allFx_sc h, hrsD_sc h, shareF_sc h, h.c0, h.c29, h.c73]
theorem deskF_sc {σ τ : MS} (h : Scr σ τ) (P W : Nat) : ∀ k, deskF τ P W k = deskF σ P W k := fun k => by unfold deskF; simp only [h.c0, h.c6, h.c29, h.c73, gapF_sc h]
theorem ofPF_sc {σ τ : MS} (h : Scr σ τ) (W p : Nat) : ∀ k, ofPF τ W p k = ofPF σ W p k := fun k => by unfold ofPF; simp only [h.c29, fxw_sc h]
theorem ofSF_sc {σ τ : MS} (h : Scr σ τ) (P p : Nat) : ∀ k, ofSF τ P p k = ofSF σ P p k := fun k => by unfold ofSF; simp only [h.c29, h.c39, shareF_sc h]
theorem ofBF_sc {σ τ : MS} (h : Scr σ τ) (W b : Nat) : ∀ k, ofBF τ W b k = ofBF σ W b k := fun k => by unfold ofBF; rw [h.c55, h.c61, show ofBd τ = ofBd σ from funext fun a => funext fun b => funext fun w => ofBd_sc h a b w]
theorem ofWF_sc {σ τ : MS} (h : Scr σ τ) (p : Nat) : ∀ k, ofWF τ p k = ofWF σ p k := fun k => by unfold ofWF; simp only [h.c73, pq_sc h, quF_sc h]
theorem kn_sc {σ τ : MS} (h : Scr σ τ) (s : Int32) : ∀ n, kn τ s n = kn σ s n
  | 0 => rfl
  | n + 1 => by unfold kn; rw [kn_sc h s n]; simp only [h.c29]
theorem playF_sc {σ τ : MS} (h : Scr σ τ) (s : Int32) (n : Nat) : playF τ s n = playF σ s n := by unfold playF; rw [kn_sc h]
theorem feudB_sc {σ τ : MS} (h : Scr σ τ) (s : Int32) : ∀ n, feudB τ s n = feudB σ s n
  | 0 => rfl
  | n + 1 => by unfold feudB; rw [feudB_sc h s n]; simp only [h.c29]
theorem costsF_sc {σ τ : MS} (h : Scr σ τ) (s : Int32) (w n : Nat) : costsF τ s w n = costsF σ s w n := by unfold costsF; simp only [costF_sc h]
theorem leaveB_sc {σ τ : MS} (h : Scr σ τ) (a b : Nat) : leaveB τ a b = leaveB σ a b := by unfold leaveB lv2; simp only [wayF_sc h, h.c73]
theorem bdOf_sc {σ τ : MS} (h : Scr σ τ) (w : Nat) : bdOf τ w = bdOf σ w := by unfold bdOf; simp only [h.c73]
theorem fits2_sc {σ τ : MS} (h : Scr σ τ) (a b : Nat) : fits2 τ a b = fits2 σ a b := by unfold fits2 apart; simp only [h.c39]
/-! who is on stage: the first W -/
def Sg (W : Nat) (σ τ : MS) : Prop := Scr σ τ ∧ ∀ j, j < W → τ 7 j = σ 7 j
theorem stg_at {σ : MS} {j n : Nat} (h : j < n) : stg σ n 7 j = if σ (73 + j) 7 = 1 then σ (73 + j) 8 else 0 := if_pos ⟨rfl, h⟩
theorem sg_stg {σ τ : MS} (h : Scr σ τ) (W : Nat) : Sg W (stg σ W) (stg τ W) := by
  refine ⟨((Scr.stg σ W).sy.tr h).tr (Scr.stg τ W), fun j hj => ?_⟩
  rw [stg_at hj, stg_at hj, h.c73]
theorem okUp_sg {W : Nat} {σ τ : MS} (h : Sg W σ τ) (p w : Nat) : ∀ n, n ≤ W → okUp τ p w n = okUp σ p w n
  | 0, _ => rfl
  | n + 1, hn => by
    unfold okUp othB
    rw [okUp_sg h p w n (by omega), h.2 n (by omega)]
    simp only [h.1.c73, leaveB_sc h.1]
theorem freeB_sg {W : Nat} {σ τ : MS} (h : Sg W σ τ) (p w : Nat) : freeB τ p w W = freeB σ p w W := by
  unfold freeB
  rw [okUp_sg h p w W (Nat.le_refl W)]
  simp only [h.1.c73, h.1.c6, h.1.c29, wayF_sc h.1]
theorem freeF_sg {W : Nat} {σ τ : MS} (h : Sg W σ τ) (w n : Nat) : freeF τ w W n = freeF σ w W n := by
  unfold freeF
  simp only [freeB_sg h]
/-! the survey -/
def Sv (m : Nat) (σ τ : MS) : Prop := Scr σ τ ∧ (∀ j, j < 6 → τ 9 j = σ 9 j) ∧ ∀ j, j < m → τ 8 j = σ 8 j
theorem Sv.up9 {m : Nat} {σ τ : MS} (h : Sv m σ τ) (j : Nat) (v : Int32) : Sv m (up2 σ 9 j v) (up2 τ 9 j v) := by
  refine ⟨((Scr.up (by decide) (by decide)).sy.tr h.1).tr (Scr.up (by decide) (by decide)), fun i hi => ?_, fun i hi => ?_⟩
  · by_cases e : i = j
    · subst e; rw [up2_same, up2_same]
    · rw [up2_at (Or.inr e), up2_at (Or.inr e)]; exact h.2.1 i hi
  · rw [up2_at (by omega), up2_at (by omega)]; exact h.2.2 i hi
theorem Sv.up8 {m : Nat} {σ τ : MS} (h : Sv m σ τ) (v : Int32) : Sv (m + 1) (up2 σ 8 m v) (up2 τ 8 m v) := by
  refine ⟨((Scr.up (by decide) (by decide)).sy.tr h.1).tr (Scr.up (by decide) (by decide)), fun i hi => ?_, fun i hi => ?_⟩
  · rw [up2_at (by omega), up2_at (by omega)]; exact h.2.1 i hi
  · by_cases e : i = m
    · subst e; rw [up2_same, up2_same]
    · rw [up2_at (Or.inr e), up2_at (Or.inr e)]; exact h.2.2 i (by omega)
theorem Sv.clear {σ τ : MS} (h : Scr σ τ) : Sv 0 (clearF σ) (clearF τ) := by
  refine ⟨((Scr.clear σ).sy.tr h).tr (Scr.clear τ), fun i hi => ?_, fun i hi => by omega⟩
  unfold clearF
  have c : i = 0 ∨ i = 1 ∨ i = 2 ∨ i = 3 ∨ i = 4 ∨ i = 5 := by omega
  rcases c with rfl | rfl | rfl | rfl | rfl | rfl
  · rw [up2_at (by omega), up2_at (by omega), up2_at (by omega), up2_at (by omega), up2_at (by omega), up2_same, up2_at (by omega), up2_at (by omega), up2_at (by omega), up2_at (by omega), up2_at (by omega), up2_same]
  · rw [up2_at (by omega), up2_at (by omega), up2_at (by omega), up2_at (by omega), up2_same, up2_at (by omega), up2_at (by omega), up2_at (by omega), up2_at (by omega), up2_same]
  · rw [up2_at (by omega), up2_at (by omega), up2_at (by omega), up2_same, up2_at (by omega), up2_at (by omega), up2_at (by omega), up2_same]
  · rw [up2_at (by omega), up2_at (by omega), up2_same, up2_at (by omega), up2_at (by omega), up2_same]
  · rw [up2_at (by omega), up2_same, up2_at (by omega), up2_same]
  · rw [up2_same, up2_same]
theorem clr_lt : ∀ p, p < 10 → ∀ s, s < 1024 → bt (nI s) p = true → clr (nI s) p < s := by decide +kernel
theorem seatB_sv {σ τ : MS} {m b l s : Nat} (h : Sv m σ τ) (hs : s ≤ m) (hs2 : s < 1024) : ∀ n, n ≤ 10 → seatB τ b l (nI s) n = seatB σ b l (nI s) n
  | 0, _ => rfl
  | n + 1, hn => by
    unfold seatB pl
    rw [seatB_sv h hs hs2 n (by omega), h.1.c29, h.1.c67]
    by_cases c : bt (nI s) n = true
    · rw [h.2.2 _ (Nat.lt_of_lt_of_le (clr_lt n (by omega) s hs2 c) hs)]
    · rw [decide_eq_false (fun q => c q.1), decide_eq_false (fun q => c q.1)]
theorem seatF_sv {σ τ : MS} {m b s P : Nat} (h : Sv m σ τ) (hs : s ≤ m) (hs2 : s < 1024) (hP : P ≤ 10) : seatF τ b (nI s) P = seatF σ b (nI s) P := by
  unfold seatF
  rw [h.1.c55, seatB_sv h hs hs2 P hP]
theorem sat_sv {σ τ : MS} {b P : Nat} (h : Sv 0 σ τ) (hP : P ≤ 10) : ∀ n, n < 1024 → Sv (n + 1) (sat σ b P n) (sat τ b P n)
  | 0, _ => h.up8 1
  | n + 1, hn => by
    have ih := sat_sv (b := b) h hP n (by omega)
    unfold sat
    rw [seatF_sv ih (Nat.le_refl _) hn hP]
    exact ih.up8 _
theorem addF_sv {m : Nat} {σ τ : MS} (h : Sv m σ τ) (s c k : Int32) : Sv m (addF σ s c k) (addF τ s c k) := by
  unfold addF
  dsimp only
  rw [h.2.1 3 (by decide), h.2.1 2 (by decide), h.2.1 1 (by decide)]
  have h1 : Sv m (if σ 9 3 = 0 ∨ σ 9 2 < k ∨ (k = σ 9 2 ∧ ¬ σ 9 1 ≤ c) then up2 (up2 (up2 σ 9 0 s) 9 1 c) 9 2 k else σ) (if σ 9 3 = 0 ∨ σ 9 2 < k ∨ (k = σ 9 2 ∧ ¬ σ 9 1 ≤ c) then up2 (up2 (up2 τ 9 0 s) 9 1 c) 9 2 k else τ) := by
    split
    · exact ((h.up9 0 s).up9 1 c).up9 2 k
    · exact h
  generalize (if σ 9 3 = 0 ∨ σ 9 2 < k ∨ (k = σ 9 2 ∧ ¬ σ 9 1 ≤ c) then up2 (up2 (up2 σ 9 0 s) 9 1 c) 9 2 k else σ) = x at h1 ⊢
  generalize (if σ 9 3 = 0 ∨ σ 9 2 < k ∨ (k = σ 9 2 ∧ ¬ σ 9 1 ≤ c) then up2 (up2 (up2 τ 9 0 s) 9 1 c) 9 2 k else τ) = y at h1 ⊢
  rw [h1.2.1 3 (by decide)]
  have h2 := h1.up9 3 (x 9 3 + 1)
  rw [h2.2.1 4 (by decide)]
  exact h2.up9 4 _
theorem svS_sv {m P w : Nat} {size free had : Int32} {s : Nat} {x y : MS × Int32 × Int32} (h : Sv m x.1 y.1) (h2 : y.2 = x.2) (hs : s < m) : Sv m (svS P w size free had s x).1 (svS P w size free had s y).1 ∧ (svS P w size free had s y).2 = (svS P w size free had s x).2 := by
  unfold svS
  rw [h.2.2 s hs, h.1.c73, playF_sc h.1, feudB_sc h.1, costsF_sc h.1, h2]
  split
  · split
    · split
      · exact ⟨h, rfl⟩
      · exact ⟨addF_sv h _ _ _, rfl⟩
    · exact ⟨h, rfl⟩
  · exact ⟨h, h2⟩
theorem sv_sv {σ τ : MS} {m P w : Nat} {size free had : Int32} (h : Sv m σ τ) : ∀ n, n < m → Sv m (sv σ P w size free had n).1 (sv τ P w size free had n).1 ∧ (sv τ P w size free had n).2 = (sv σ P w size free had n).2
  | 0, _ => ⟨h, rfl⟩
  | n + 1, hn => by
    have ih := sv_sv (P := P) (w := w) (size := size) (free := free) (had := had) h n (by omega)
    exact svS_sv ih.1 ih.2 hn
theorem survF_sc {σ τ : MS} {w P : Nat} {free had : Int32} (h : Scr σ τ) (hP : P ≤ 10) : ∀ j, j < 6 → survF τ w P free had 9 j = survF σ w P free had 9 j := by
  obtain ⟨hp1, hp2⟩ := pw1024 hP
  have h1 := sat_sv (b := bdOf σ w) (Sv.clear h) hP (2 ^ P - 1) (by omega)
  rw [Nat.sub_add_cancel hp1] at h1
  have h3 := sv_sv (P := P) (w := w) (size := σ (55 + bdOf σ w) 2) (free := free) (had := had) h1 (2 ^ P - 1) (by omega)
  unfold survF svAll svIn
  rw [bdOf_sc h, h.c55]
  generalize sv (sat (clearF σ) (bdOf σ w) P (2 ^ P - 1)) P w (σ (55 + bdOf σ w) 2) free had (2 ^ P - 1) = x at h3 ⊢
  generalize sv (sat (clearF τ) (bdOf σ w) P (2 ^ P - 1)) P w (σ (55 + bdOf σ w) 2) free had (2 ^ P - 1) = y at h3 ⊢
  have e : whyF y (σ (55 + bdOf σ w) 2) free = whyF x (σ (55 + bdOf σ w) 2) free := by
    unfold whyF
    rw [h3.1.2.1 3 (by decide), h3.2]
  rw [e]
  exact (h3.1.up9 5 _).2.1
theorem snF_sc {σ τ : MS} {w P W : Nat} (h : Scr σ τ) (hP : P ≤ 10) : ∀ j, j < 6 → snF τ w P W 9 j = snF σ w P W 9 j := by
  unfold snF
  have hg := sg_stg h W
  rw [freeF_sg hg]
  exact survF_sc hg.1 hP
