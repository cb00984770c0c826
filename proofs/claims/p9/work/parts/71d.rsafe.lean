/-! THE REFERENCE IS SAFE: the best filling, counts of fillings, why, fixing, illness, money, queries -/
section RSAFE4
variable {Tm : MS} {Γ : RG} {σ τ : MS} {a a0 a1 a2 a3 a4 : Int32}
theorem nI_le' {m n : Nat} (h : m ≤ n) (hn : n < 2 ^ 31) : nI m ≤ nI n := by
  rcases Nat.eq_or_lt_of_le h with e | e
  · rw [e]; exact le_self _
  · exact Int32.le_of_lt (nI_lt e hn)
theorem and_m10 (a : Nat) {F : Nat} (hF : F < 1024) : a &&& F = (a % 1024) &&& F := by
  have h1 : F &&& 1023 = F := by
    have := Nat.and_two_pow_sub_one_eq_mod F 10
    rw [show (2 ^ 10 - 1 : Nat) = 1023 from rfl] at this
    rw [this]; exact Nat.mod_eq_of_lt hF
  have h2 : a % 1024 = a &&& 1023 := (Nat.and_two_pow_sub_one_eq_mod a 10).symm
  rw [h2, Nat.and_assoc, Nat.and_comm 1023 F, h1]
theorem sub_step {V F : Nat} (hV : V < 1024) (hF : F < 1024) : (nI V - nI F) &&& nI F = nI ((V + (1024 - F)) &&& F) := by
  rw [nI_bv (nI V - nI F), nx_and]
  congr 1
  have e : (nI V - nI F).toBitVec.toNat = (2 ^ 32 - F + V) % 2 ^ 32 := by
    rw [Int32.toBitVec_sub, BitVec.toNat_sub]
    show (2 ^ 32 - F % 2 ^ 32 + V % 2 ^ 32) % 2 ^ 32 = _
    rw [Nat.mod_eq_of_lt (show F < 2 ^ 32 by omega), Nat.mod_eq_of_lt (show V < 2 ^ 32 by omega)]
  rw [e, and_m10 _ hF, and_m10 (V + (1024 - F)) hF]
  congr 1
  omega
/-- the walk over the parts of F comes back to nothing -/
def sub_run (F : Nat) : Nat → Nat → Bool
  | 0, V => V == 0
  | k + 1, V => V == 0 || sub_run F k ((V + (1024 - F)) &&& F)
theorem sub_runs : ∀ F, F < 1024 → sub_run F 1024 (1024 - F &&& F) = true := by decide +kernel
theorem sub_loop {S : Type} (U : Nat → S → Int32 → Prop) {F : Nat} (hF : F < 1024) (hz : ∀ k s, U (k + 1) s (nI 0)) (hs : ∀ k s V, V < 1024 → (∀ s', U k s' ((nI V - nI F) &&& nI F)) → U (k + 1) s (nI V)) (s : S) : ∃ k, U k s (nI F &&& (-(nI F))) := by
  have key : ∀ k V, V < 1024 → sub_run F k V = true → ∀ s, U (k + 1) s (nI V) := by
    intro k
    induction k with
    | zero =>
      intro V _ h s
      have e : V = 0 := by simpa [sub_run] using h
      rw [e]; exact hz 0 s
    | succ k ih =>
      intro V hV h s
      rcases Nat.eq_zero_or_pos V with e | e
      · rw [e]; exact hz _ s
      · have h' : sub_run F k ((V + (1024 - F)) &&& F) = true := by
          have : (V == 0) = false := by simp; omega
          simpa [sub_run, this] using h
        refine hs (k + 1) s V hV (fun s' => ?_)
        rw [sub_step hV hF]
        exact ih _ (Nat.lt_of_le_of_lt Nat.and_le_right hF) h' s'
  refine ⟨1024 + 1, ?_⟩
  have e : nI F &&& (-(nI F)) = nI (1024 - F &&& F) := by
    have := sub_step (V := 0) (F := F) (by decide) hF
    rw [show (nI 0 - nI F : Int32) = -(nI F) by rw [nI_0]; grind, Nat.zero_add] at this
    rw [← this]
    exact Int32.and_comm _ _
  rw [e]
  exact key 1024 _ (Nat.lt_of_le_of_lt Nat.and_le_right hF) (sub_runs F hF) s
theorem sf_best {post : Int32 → MS → Prop} {w : Nat} (O : rOk Tm Γ σ) (hw : w < Γ.2.2.1) (e : a1 = nI w) (h : ∀ r, post r σ) : w_X11_best Γ post σ a1 a2 a3 := by
  have hW := O.hW
  unfold w_X11_best
  refine sf_wget O hw e ⟨⟨by omega, hw⟩, sf_freeFor O hw e (fun m hm => ?_)⟩
  obtain ⟨F, hF, eF⟩ := and_small hm (by decide) (a2 ^^^ (-1))
  rw [eF]
  refine sub_loop (S := Int32) (fun k s v => u_X11_best_38 Γ post a1 a2 a3 k σ w (nI F) s v) (by omega) (fun k s => ?_) (fun k s V hV ih => ?_) (-1)
  · unfold u_X11_best_38
    exact ⟨fun _ => h _, fun c => absurd (le_self (nI 0)) c⟩
  · unfold u_X11_best_38
    exact ⟨fun _ => h _, fun _ => sf_isFilling O hw (fun r => ⟨fun _ => ih _, fun _ => ⟨fun _ => ih _, fun _ => sf_isBetter O hw (fun r2 => ⟨fun _ => ih _, fun _ => ih _⟩)⟩⟩)⟩
theorem one_loop {S : Type} (U : Nat → S → Int32 → Prop) {m : Nat} (hz : ∀ s, U 1 s (nI (m + 1))) (hs : ∀ i k s, i ≤ m → (∀ s', U k s' (nI i + 1)) → U (k + 1) s (nI i)) (s : S) : ∃ k, U k s 1 := by
  have := inv_loop (fun k (q : S × Int32) => U k q.1 q.2) (fun j q => q.2 = nI j) (m + 1) (by rintro ⟨s, v⟩ rfl; exact hz s) (by rintro j k ⟨s, v⟩ hj rfl ih; exact hs j k s (by omega) (fun s' => by rw [nI_1]; exact ih (s', nI (j + 1)) rfl)) 1 (by omega) (s, 1) rfl
  exact this
theorem sf_fillings {post : Int32 → MS → Prop} {w : Nat} (O : rOk Tm Γ σ) (hw : w < Γ.2.2.1) (e : a1 = nI w) (h : ∀ r, post r σ) : w_X11_fillings Γ post σ a1 := by
  have hW := O.hW
  unfold w_X11_fillings
  refine sf_wget O hw e ⟨⟨by omega, hw⟩, sf_freeFor O hw e (fun m hm => ?_)⟩
  refine one_loop (S := Int32) (m := m) (fun k s v => u_X11_fillings_24 Γ post a1 k σ w (nI m) s v) (fun s => ?_) (fun i k s hi ih => ?_) 0
  · unfold u_X11_fillings_24
    exact ⟨fun _ => h _, fun c => absurd (nI_lt (Nat.lt_succ_self m) (by omega)) c⟩
  · unfold u_X11_fillings_24
    exact ⟨fun _ => h _, fun _ => ⟨fun _ => sf_isFilling O hw (fun r => ⟨fun _ => ih _, fun _ => ih _⟩), fun _ => ih _⟩⟩
theorem sf_why {post : Int32 → MS → Prop} {w : Nat} (O : rOk Tm Γ σ) (hw : w < Γ.2.2.1) (e : a1 = nI w) (h : ∀ r, post r σ) : w_X11_why Γ post σ a1 := by
  have hW := O.hW
  obtain ⟨b, hb, eb⟩ := O.band hw
  unfold w_X11_why
  refine sf_wget O hw e ⟨⟨by omega, hw⟩, sf_lbget O hb eb ⟨hb, ?_⟩⟩
  unfold w_in_J6_intValue_8abf5
  refine sf_freeFor O hw e (fun m hm => sf_bc (fun r => sf_needed_ (fun r2 => ⟨fun _ => sf_best O hw e (fun r3 => ⟨fun _ => ?_, fun _ => h _⟩), fun _ => h _⟩)))
  refine one_loop (S := Int32) (m := m) (fun k s v => u_X11_why_70 Γ post a1 k σ w (Γ.2.2.2.2.2 b) (nI m) s v) (fun s => ?_) (fun i k s hi ih => ?_) 2
  · unfold u_X11_why_70
    exact ⟨fun _ => h _, fun c => absurd (nI_lt (Nat.lt_succ_self m) (by omega)) c⟩
  · unfold u_X11_why_70
    exact ⟨fun _ => h _, fun _ => ⟨fun _ => sf_bc (fun r => sf_needed_ (fun r2 => ⟨fun _ => sf_cp0 O rfl (fun r3 _ => ⟨fun _ => ih _, fun _ => sf_areKnown O (fun r4 => ⟨fun _ => ih _, fun _ => h _⟩)⟩), fun _ => ih _⟩)), fun _ => ih _⟩⟩
theorem sf_fees {post : Int32 → MS → Prop} (O : rOk Tm Γ σ) (h : ∀ r, post r σ) : w_X11_fees Γ post σ a1 := by
  have hP := O.hP
  unfold w_X11_fees
  refine pl_loop (S := Int32) O (fun k s v => u_X11_fees_4 Γ post a1 k σ s v) (fun s => ?_) (fun i k s hi ih => ?_) 0
  · unfold u_X11_fees_4 w_lp_Jx4a65c_size_8abf5
    rw [O.p]
    exact ⟨fun _ => h _, fun c => absurd (le_self _) c⟩
  · unfold u_X11_fees_4 w_lp_Jx4a65c_size_8abf5
    rw [O.p]
    exact ⟨fun c => absurd c (nI_ge hi (by omega)), fun _ => sf_isIn (fun r => ⟨fun _ => ih _, fun _ => sf_pget O hi rfl ⟨⟨by omega, hi⟩, ih _⟩⟩)⟩
theorem sf_earnedAt {post : Int32 → MS → Prop} {p w : Nat} (O : rOk Tm Γ σ) (hp : p < Γ.1) (e : a1 = nI p) (hw : w < Γ.2.2.1) (h : ∀ r, post r σ) : w_X11_earnedAt Γ post σ a1 w := by
  have hP := O.hP
  unfold w_X11_earnedAt
  exact sf_cost O hp e hw (fun r => sf_quarters (fun r2 => sf_pget O hp e ⟨⟨by omega, hp⟩, h _⟩))
theorem sf_gain {post : Int32 → MS → Prop} {w : Nat} (O : rOk Tm Γ σ) (hw : w < Γ.2.2.1) (h : ∀ r, post r σ) : w_X11_gain Γ post σ w := by
  have hP := O.hP
  unfold w_X11_gain
  refine sf_quarters (fun r => sf_fees O (fun r2 => ?_))
  refine pl_loop (S := Int32) O (fun k s v => u_X11_gain_28 Γ post w k σ s v) (fun s => ?_) (fun i k s hi ih => ?_) _
  · unfold u_X11_gain_28 w_lp_Jx4a65c_size_8abf5
    rw [O.p]
    exact ⟨fun _ => h _, fun c => absurd (le_self _) c⟩
  · unfold u_X11_gain_28 w_lp_Jx4a65c_size_8abf5
    rw [O.p]
    exact ⟨fun c => absurd c (nI_ge hi (by omega)), fun _ => sf_isIn (fun r => ⟨fun _ => ih _, fun _ => sf_earnedAt O hi rfl hw (fun r2 => ih _)⟩)⟩
theorem sf_isBehind {post : Int32 → MS → Prop} (h1 : vp_in a1 16) (h2 : vp_in a2 16) (h : ∀ r, post r σ) : w_X11_isBehind Γ post σ a1 a2 := by
  have fin : ∀ t0, u_X11_isBehind_40 Γ post a1 a2 σ t0 := fun t0 => by
    unfold u_X11_isBehind_40
    exact ⟨h1, h2, fun _ => h _, fun _ _ _ _ _ => ⟨fun _ => h _, fun _ => h _⟩⟩
  unfold w_X11_isBehind u_X11_isBehind_35 u_X11_isBehind_39
  exact ⟨h2, h1, fun _ => fin 1, fun _ => ⟨h2, h1, fun _ => ⟨fun _ => fin 0, fun _ => fin 1⟩, fun _ => fin 0⟩⟩
theorem sf_share {post : Int32 → MS → Prop} (h1 : vp_in a1 16) (h : ∀ r, post r σ) : w_X11_share Γ post σ a1 := by
  unfold w_X11_share
  have := inv_loop (fun k (q : Int32 × Int32) => u_X11_share_4 Γ post a1 k σ q.1 q.2) (fun j q => q.2 = nI j) 16 (by
    rintro ⟨s, v⟩ rfl
    show u_X11_share_4 Γ post a1 1 σ s (nI 16)
    unfold u_X11_share_4
    exact ⟨fun _ => ⟨fun _ => h _, fun c => ⟨h1, h1, c, h _⟩⟩, fun c => absurd (le_self (nI 16)) c⟩) (by
    rintro j k ⟨s, v⟩ hj rfl ih
    have hv : vp_in (nI j) 16 := vp_in_nI hj (by decide)
    show u_X11_share_4 Γ post a1 (k + 1) σ s (nI j)
    unfold u_X11_share_4
    refine ⟨fun c => absurd (show nI 16 ≤ nI j from c) (nI_ge hj (by decide)), fun _ => ⟨hv, hv, ?_⟩⟩
    rw [nI_1 j]
    exact ih (_, nI (j + 1)) rfl) 0 (by omega) (0, 0) nI_0.symm
  exact this
end RSAFE4
