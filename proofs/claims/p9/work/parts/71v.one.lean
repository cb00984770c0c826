/-! ONE STATE ON BOTH SIDES: the class's books x, read as the reference's cells; what the reference finds is what the class finds -/
/-- the class's books, where the reference keeps them -/
def tR (x : MS) : MS := fun k j => if k = 0 then (if j = 1 then x 0 9 else x 0 10) else if k = 7 then x (39 + j) 0 else if k = 8 then x (39 + j) 1 else if k = 9 then x (39 + j) 2 else if k = 10 then x (39 + j) 3 else if k = 11 then x (17 + j / 6) (j % 6) else if k = 12 then x (23 + j / 6) (j % 6) else if k < 23 then x (29 + (k - 13)) j else if k < 33 then b01 (bt (x 6 j) (k - 23)) else x (73 + (k - 33)) j
/-- ways are as long there as back; none, or some hours -/
def Sy (x : MS) : Prop := ∀ a b, a < 6 → b < 6 → x (23 + a) b = x (23 + b) a ∧ (x (23 + a) b = -1 ∨ ∃ n, n ≤ 576 ∧ x (23 + a) b = nI n)
section ONE
variable {x y : MS} {Γ : RG} {σ τ : MS} {a a0 a1 a2 a3 a4 b s : Int32}
theorem tR_pl {p j : Nat} (hp : p < 10) : tR x (13 + p) j = x (29 + p) j := by
  unfold tR
  rw [if_neg (by omega), if_neg (by omega), if_neg (by omega), if_neg (by omega), if_neg (by omega), if_neg (by omega), if_neg (by omega), if_pos (by omega), show 13 + p - 13 = p by omega]
theorem tR_off {p j : Nat} (hp : p < 10) : tR x (23 + p) j = b01 (bt (x 6 j) p) := by
  unfold tR
  rw [if_neg (by omega), if_neg (by omega), if_neg (by omega), if_neg (by omega), if_neg (by omega), if_neg (by omega), if_neg (by omega), if_neg (by omega), if_pos (by omega), show 23 + p - 23 = p by omega]
theorem tR_wd {w j : Nat} : tR x (33 + w) j = x (73 + w) j := by
  unfold tR
  rw [if_neg (by omega), if_neg (by omega), if_neg (by omega), if_neg (by omega), if_neg (by omega), if_neg (by omega), if_neg (by omega), if_neg (by omega), if_neg (by omega), show 33 + w - 33 = w by omega]
theorem rOk.pl {p j : Nat} (O : rOk (tR x) Γ σ) (hp : p < Γ.1) (hj : j < 6) : σ (13 + p) j = x (29 + p) j := (O.tld (by unfold rTd; have := O.hP; omega)).trans (tR_pl (by have := O.hP; omega))
theorem rOk.off {p d : Nat} (O : rOk (tR x) Γ σ) (hp : p < Γ.1) (hd : d < 366) : σ (23 + p) d = b01 (bt (x 6 d) p) := (O.tld (by unfold rTd; have := O.hP; omega)).trans (tR_off (by have := O.hP; omega))
theorem rOk.wd {w j : Nat} (O : rOk (tR x) Γ σ) (hw : w < Γ.2.2.1) (hj : j < 12) : σ (33 + w) j = x (73 + w) j := (O.tld (by unfold rTd; have := O.hW; omega)).trans tR_wd
theorem rOk.tdy (O : rOk (tR x) Γ σ) : σ 0 1 = x 0 9 := O.tld (by unfold rTd; omega)
theorem rOk.csh (O : rOk (tR x) Γ σ) : σ 0 2 = x 0 10 := O.tld (by unfold rTd; omega)
theorem rOk.sg0 {i : Nat} (O : rOk (tR x) Γ σ) (hi : i < 16) : σ 7 i = x (39 + i) 0 := O.tld (by unfold rTd; omega)
theorem rOk.sg1 {i : Nat} (O : rOk (tR x) Γ σ) (hi : i < 16) : σ 8 i = x (39 + i) 1 := O.tld (by unfold rTd; omega)
theorem rOk.sg2 {i : Nat} (O : rOk (tR x) Γ σ) (hi : i < 16) : σ 9 i = x (39 + i) 2 := O.tld (by unfold rTd; omega)
theorem rOk.sg3 {i : Nat} (O : rOk (tR x) Γ σ) (hi : i < 16) : σ 10 i = x (39 + i) 3 := O.tld (by unfold rTd; omega)
theorem rOk.dr {i j : Nat} (O : rOk (tR x) Γ σ) (hi : i < 6) (hj : j < 6) : σ 12 (i * 6 + j) = x (23 + i) j := by
  rw [O.tld (k := 12) (j := i * 6 + j) (by unfold rTd; omega)]
  show x (23 + (i * 6 + j) / 6) ((i * 6 + j) % 6) = x (23 + i) j
  rw [show (i * 6 + j) / 6 = i by omega, show (i * 6 + j) % 6 = j by omega]
theorem rOk.rd {i j : Nat} (O : rOk (tR x) Γ σ) (hi : i < 6) (hj : j < 6) : σ 11 (i * 6 + j) = x (17 + i) j := by
  rw [O.tld (k := 11) (j := i * 6 + j) (by unfold rTd; omega)]
  show x (17 + (i * 6 + j) / 6) ((i * 6 + j) % 6) = x (17 + i) j
  rw [show (i * 6 + j) / 6 = i by omega, show (i * 6 + j) % 6 = j by omega]
theorem rOk.xhome {p : Nat} (O : rOk (tR x) Γ σ) (hp : p < Γ.1) : ∃ t, t < 6 ∧ x (29 + p) 2 = nI t := by
  rw [← O.pl (j := 2) hp (by decide)]; exact O.home hp
theorem rOk.xtown {w : Nat} (O : rOk (tR x) Γ σ) (hw : w < Γ.2.2.1) : ∃ t, t < 6 ∧ x (73 + w) 2 = nI t := by
  rw [← O.wd (j := 2) hw (by decide)]; exact O.town hw
theorem rOk.xday {w : Nat} (O : rOk (tR x) Γ σ) (hw : w < Γ.2.2.1) : ∃ t, t ≤ 365 ∧ x (73 + w) 1 = nI t := by
  rw [← O.wd (j := 1) hw (by decide)]; exact O.day hw
theorem rOk.xband {w : Nat} (O : rOk (tR x) Γ σ) (hw : w < Γ.2.2.1) : ∃ t, t < Γ.2.1 ∧ x (73 + w) 0 = nI t := by
  rw [← O.wd (j := 0) hw (by decide)]; exact O.band hw
theorem sy_driveOf {post : Int32 → MS → Prop} (O : rOk (tR x) Γ σ) (h1 : ∃ t, t < 6 ∧ a1 = nI t) (h2 : ∃ t, t < 6 ∧ a2 = nI t) (h : post (wayF x a1 a2) σ) : w_X11_driveOf Γ post σ a1 a2 := by
  obtain ⟨i, hi, rfl⟩ := h1
  obtain ⟨j, hj, rfl⟩ := h2
  refine ⟨ix36 hi hj, ?_⟩
  rw [x6 hi hj, O.dr hi hj]
  unfold wayF at h
  rw [nI_clamp (by omega), nI_clamp (by omega)] at h
  exact h
theorem way_sy (Y : Sy x) (h1 : ∃ t, t < 6 ∧ a = nI t) (h2 : ∃ t, t < 6 ∧ b = nI t) : wayF x a b = wayF x b a := by
  obtain ⟨i, hi, rfl⟩ := h1
  obtain ⟨j, hj, rfl⟩ := h2
  unfold wayF
  rw [nI_clamp (by omega), nI_clamp (by omega)]
  exact (Y i j hi hj).1
theorem way_rg (Y : Sy x) (h1 : ∃ t, t < 6 ∧ a = nI t) (h2 : ∃ t, t < 6 ∧ b = nI t) : wayF x a b = -1 ∨ ∃ n, n ≤ 576 ∧ wayF x a b = nI n := by
  obtain ⟨i, hi, rfl⟩ := h1
  obtain ⟨j, hj, rfl⟩ := h2
  unfold wayF
  rw [nI_clamp (by omega), nI_clamp (by omega)]
  exact (Y i j hi hj).2
theorem sy_place {post : Int32 → MS → Prop} {w : Nat} (O : rOk (tR x) Γ σ) (hw : w < Γ.2.2.1) (e : a1 = nI w) (h : post (pq x w) σ) : w_X11_place Γ post σ a1 := by
  have hW := O.hW
  subst e
  unfold w_X11_place
  unfold pq at h
  refine sf_wget O hw rfl ⟨⟨by omega, hw⟩, fun c => ?_, fun c => ?_⟩
  · rw [O.wd (j := 7) hw (by decide)] at c
    rw [if_pos c] at h
    refine up_loop (fun k (q : Int32 × Int32) => u_X11_place_26 Γ post (nI w) k σ w q.1 q.2) (fun i => (nI (fb_ct (fun v => inQ x v w) i), nI i)) w ?_ (fun i k hi hk => ?_)
    · show u_X11_place_26 Γ post (nI w) 1 σ w (nI (ahead x w)) (nI w)
      unfold u_X11_place_26
      exact ⟨fun _ => h, fun c => absurd (le_self _) c⟩
    · have hk : ∀ v, v = nI (fb_ct (fun v => inQ x v w) (i + 1)) → u_X11_place_26 Γ post (nI w) k σ w v (nI i + 1) := fun v e => by rw [e, nI_1]; exact hk
      rw [fb_ct_succ] at hk
      have hi' : i < Γ.2.2.1 := by omega
      have n0 : inQ x i w = false → u_X11_place_26 Γ post (nI w) k σ w (nI (fb_ct (fun v => inQ x v w) i) + 0) (nI i + 1) := fun e => hk _ (by
        rw [e]
        show nI _ + nI 0 = _
        rw [nI_add]
        rfl)
      show u_X11_place_26 Γ post (nI w) (k + 1) σ w (nI (fb_ct (fun v => inQ x v w) i)) (nI i)
      unfold u_X11_place_26
      refine ⟨fun c => absurd c (nI_ge hi (by omega)), fun _ => sf_wget O hi' rfl ⟨⟨by omega, hi'⟩, ?_⟩⟩
      rw [O.wd (j := 7) hi' (by decide), O.wd (j := 0) hi' (by decide), O.wd (j := 1) hi' (by decide), O.wd (j := 0) hw (by decide), O.wd (j := 1) hw (by decide)]
      refine ⟨fun c1 => ⟨fun c2 => ⟨fun c3 => hk _ ?_, fun c3 => n0 (decide_eq_false (fun q => c3 q.2.2.2))⟩, fun c2 => n0 (decide_eq_false (fun q => c2 q.2.2.1))⟩, fun c1 => n0 (decide_eq_false (fun q => c1 q.1))⟩
      rw [show inQ x i w = true from decide_eq_true ⟨c1, c, c2, c3⟩]
      show nI _ + nI 1 = _
      rw [nI_add]
      rfl
  · rw [O.wd (j := 7) hw (by decide)] at c
    rw [if_neg c] at h
    exact h
theorem i32_le {u v : Int32} : u ≤ v ↔ u < v ∨ u = v := by
  rw [Int32.le_iff_toInt_le, Int32.lt_iff_toInt_lt, ← Int32.toInt_inj]
  omega
theorem i32_nlt {u v : Int32} : ¬ v < u ↔ u < v ∨ u = v := by
  rw [Int32.lt_iff_toInt_lt, Int32.lt_iff_toInt_lt, ← Int32.toInt_inj]
  omega
/-- which of two comes first -/
theorem lv_ord {z : MS} {i w : Nat} (hne : i ≠ w) : leaveB z (if w < i then w else i) (if i < w then w else i) = if z (73 + i) 3 < z (73 + w) 3 ∨ (z (73 + i) 3 = z (73 + w) 3 ∧ i < w) then lv2 z i w else lv2 z w i := by
  by_cases c : i < w
  · rw [show (if w < i then w else i) = i from if_neg (by omega), show (if i < w then w else i) = w from if_pos c]
    unfold leaveB
    by_cases d : z (73 + i) 3 ≤ z (73 + w) 3
    · rw [if_pos d, if_pos ((i32_le.mp d).imp id (fun q => ⟨q, c⟩))]
    · rw [if_neg d, if_neg (fun q => d (i32_le.mpr (q.imp id (fun q => q.1))))]
  · rw [show (if w < i then w else i) = w from if_pos (by omega), show (if i < w then w else i) = i from if_neg c]
    unfold leaveB
    by_cases d : z (73 + w) 3 ≤ z (73 + i) 3
    · rw [if_pos d, if_neg (fun q => q.elim (fun q => absurd d (Int32.not_le.mpr q)) (fun q => c q.2))]
    · rw [if_neg d, if_pos (Or.inl (Int32.not_le.mp d))]
theorem sy_isFree {post : Int32 → MS → Prop} {p w : Nat} (O : rOk (tR x) Γ σ) (Y : Sy x) (hp : p < Γ.1) (e : a1 = nI p) (hw : w < Γ.2.2.1) (e2 : a2 = nI w) (h : post (b01 (freeB (stg x Γ.2.2.1) p w Γ.2.2.1)) σ) : w_X11_isFree Γ post σ a1 a2 := by
  have hW := O.hW
  have hP := O.hP
  subst e
  subst e2
  obtain ⟨z, hz⟩ : ∃ z, z = stg x Γ.2.2.1 := ⟨_, rfl⟩
  rw [← hz] at h
  have zk : ∀ k, k ≠ 7 → z k = x k := fun k hk => by rw [hz]; exact stg_k hk
  have z7 : ∀ i, i < Γ.2.2.1 → z 7 i = if x (73 + i) 7 = 1 then x (73 + i) 8 else 0 := fun i hi => by rw [hz]; exact if_pos ⟨rfl, hi⟩
  obtain ⟨d, hd, exd⟩ := O.xday hw
  have ed : σ (33 + w) 1 = nI d := (O.wd hw (by decide)).trans exd
  have hf : freeB z p w Γ.2.2.1 = (!bt (x 6 d) p && (!decide (wayF x (x (29 + p) 2) (x (73 + w) 2) = -1) && okUp z p w Γ.2.2.1)) := by
    unfold freeB wayF
    rw [zk 6 (by decide), zk (73 + w) (by omega), zk (29 + p) (by omega), exd, nI_clamp (by omega), zk (23 + (x (29 + p) 2).toNatClampNeg) (by omega)]
  rw [hf] at h
  clear hf hz
  have key : ∀ n i, i + n = Γ.2.2.1 → okUp z p w i = true → post (b01 (okUp z p w Γ.2.2.1)) σ → u_X11_isFree_60 Γ post (nI p) (nI w) (n + 1) σ w (nI i) := by
    intro n
    induction n with
    | zero =>
      intro i hi hf h
      obtain rfl : i = Γ.2.2.1 := by omega
      unfold u_X11_isFree_60 w_lw_Jx4a65c_size_8abf5
      rw [O.w]
      rw [hf] at h
      exact ⟨fun _ => h, fun c => absurd (le_self _) c⟩
    | succ n ih =>
      intro i hi hf h
      have hiW : i < Γ.2.2.1 := by omega
      have nx : okUp z p w (i + 1) = true → u_X11_isFree_60 Γ post (nI p) (nI w) (n + 1) σ w (nI i + 1) := fun g => by rw [nI_1]; exact ih (i + 1) (by omega) g h
      have no : okUp z p w (i + 1) = false → post 0 σ := fun g => by
        rw [okUp_le (n := Γ.2.2.1) (by omega) g] at h
        exact h
      have step : ¬ othB z p w i = true → u_X11_isFree_60 Γ post (nI p) (nI w) (n + 1) σ w (nI i + 1) := fun hx => nx (by
        unfold okUp
        rw [hf, Bool.eq_false_iff.mpr hx]
        rfl)
      have d189 : ∀ e l, (e = i ∧ l = w ∨ e = w ∧ l = i) → othB z p w i = true → leaveB z (if w < i then w else i) (if i < w then w else i) = lv2 z e l → u_X11_isFree_189 Γ post (nI p) (nI w) (fun σ w0 w1 => u_X11_isFree_60 Γ post (nI p) (nI w) (n + 1) σ w0 w1) σ w (nI i) i e l := by
        intro e l hel ho hl
        have hs : okUp z p w (i + 1) = lv2 z e l := by
          unfold okUp
          rw [hf, ho, hl]
          cases lv2 z e l <;> rfl
        have he : e < Γ.2.2.1 := by omega
        have hl' : l < Γ.2.2.1 := by omega
        have hv : lv2 z e l = decide (¬ wayF x (x (73 + w) 2) (x (73 + i) 2) = -1 ∧ ¬ x (73 + l) 3 < (x (73 + e) 3 + x (73 + e) 4) + wayF x (x (73 + w) 2) (x (73 + i) 2)) := by
          have hy : wayF z (x (73 + e) 2) (x (73 + l) 2) = wayF x (x (73 + w) 2) (x (73 + i) 2) := by
            have h0 : wayF z (x (73 + e) 2) (x (73 + l) 2) = wayF x (x (73 + e) 2) (x (73 + l) 2) := by
              unfold wayF
              rw [zk _ (by omega)]
            rw [h0]
            rcases hel with ⟨q1, q2⟩ | ⟨q1, q2⟩
            · rw [q1, q2]; exact way_sy Y (O.xtown hiW) (O.xtown hw)
            · rw [q1, q2]
          unfold lv2
          rw [zk (73 + e) (by omega), zk (73 + l) (by omega), hy]
        unfold u_X11_isFree_189
        refine sy_driveOf O (O.town hw) (O.town hiW) ?_
        rw [O.wd (j := 2) hw (by decide), O.wd (j := 2) hiW (by decide), O.wd (j := 3) he (by decide), O.wd (j := 4) he (by decide), O.wd (j := 3) hl' (by decide)]
        exact ⟨fun c => no (by rw [hs, hv]; exact decide_eq_false (fun q => q.1 c)), fun c => ⟨fun c2 => nx (by rw [hs, hv]; exact decide_eq_true ⟨c, Int32.not_lt.mpr c2⟩), fun c2 => no (by rw [hs, hv]; exact decide_eq_false (fun q => c2 (Int32.not_lt.mp q.2)))⟩⟩
      have d158 : othB z p w i = true → (x (73 + i) 3 < x (73 + w) 3 ∨ (x (73 + i) 3 = x (73 + w) 3 ∧ i < w)) → u_X11_isFree_158 Γ post (nI p) (nI w) (fun σ w0 w1 => u_X11_isFree_60 Γ post (nI p) (nI w) (n + 1) σ w0 w1) σ w (nI i) i := fun ho hc => by
        unfold u_X11_isFree_158 u_X11_isFree_163 u_X11_isFree_176
        refine ⟨fun q => absurd q (by decide), fun _ => ⟨fun q => absurd q (by decide), fun _ => d189 i w (Or.inl ⟨rfl, rfl⟩) ho ?_⟩⟩
        rw [lv_ord (of_decide_eq_true ho).1, zk (73 + i) (by omega), zk (73 + w) (by omega), if_pos hc]
      have d162 : othB z p w i = true → ¬ (x (73 + i) 3 < x (73 + w) 3 ∨ (x (73 + i) 3 = x (73 + w) 3 ∧ i < w)) → u_X11_isFree_162 Γ post (nI p) (nI w) (fun σ w0 w1 => u_X11_isFree_60 Γ post (nI p) (nI w) (n + 1) σ w0 w1) σ w (nI i) i := fun ho hc => by
        unfold u_X11_isFree_162 u_X11_isFree_163 u_X11_isFree_176
        refine ⟨fun _ => ⟨fun _ => d189 w i (Or.inr ⟨rfl, rfl⟩) ho ?_, fun q => absurd rfl q⟩, fun q => absurd rfl q⟩
        rw [lv_ord (of_decide_eq_true ho).1, zk (73 + i) (by omega), zk (73 + w) (by omega), if_neg hc]
      unfold u_X11_isFree_60 w_lw_Jx4a65c_size_8abf5
      rw [O.w]
      refine ⟨fun c => absurd c (nI_ge hiW (by omega)), fun _ => sf_wget O hiW rfl ⟨⟨by omega, hiW⟩, fun c => step (fun q => ?_), fun c => ?_⟩⟩
      · exact (of_decide_eq_true q).1 ((nI_eq (by omega) (by omega)).mp c)
      rw [O.wd (j := 7) hiW (by decide), O.wd (j := 1) hiW (by decide), O.wd (j := 1) hw (by decide), O.wd (j := 8) hiW (by decide)]
      have oth : othB z p w i = decide (i ≠ w ∧ x (73 + i) 1 = x (73 + w) 1 ∧ bt (if x (73 + i) 7 = 1 then x (73 + i) 8 else 0) p = true) := by
        unfold othB
        rw [zk (73 + i) (by omega), zk (73 + w) (by omega), z7 i hiW]
      refine ⟨fun c1 => ⟨fun c2 => sx_isIn (by omega) ⟨fun c3 => step (fun q => ?_), fun c3 => ?_⟩, fun c2 => step (fun q => ?_)⟩, fun c1 => step (fun q => ?_)⟩
      · rw [oth, if_pos c1] at q
        have := (of_decide_eq_true q).2.2
        rw [b01_0.mp c3] at this
        exact Bool.false_ne_true this
      · have ho : othB z p w i = true := by
          rw [oth, if_pos c1]
          exact decide_eq_true ⟨fun q => c (by rw [q]), c2, b01_1.mp c3⟩
        rw [O.wd (j := 3) hiW (by decide), O.wd (j := 3) hw (by decide)]
        refine ⟨fun s1 => d158 ho (Or.inl s1), fun s1 => ⟨fun s2 => ⟨fun s3 => d162 ho (fun q => ?_), fun s3 => d158 ho (Or.inr ⟨s2, ?_⟩)⟩, fun s2 => d162 ho (fun q => q.elim s1 (fun q => s2 q.1))⟩⟩
        · rcases q with q | q
          · exact s1 q
          · exact absurd s3 (nI_ge q.2 (by omega))
        · rcases Nat.lt_or_ge i w with g | g
          · exact g
          · exact absurd (nI_le0 g (by omega)) s3
      · rw [oth] at q
        exact c2 (of_decide_eq_true q).2.1
      · rw [oth, if_neg c1] at q
        have := (of_decide_eq_true q).2.2
        rw [b_0] at this
        exact Bool.false_ne_true this
  unfold w_X11_isFree
  refine sf_wget O hw rfl ⟨⟨by omega, hw⟩, sf_pget O hp rfl ⟨⟨by omega, hp⟩, ?_⟩⟩
  rw [ed, nI_clamp (by omega), O.off hp (show d < 366 by omega)]
  refine ⟨vp_in_nI (by omega) (by decide), fun c => sy_driveOf O (O.home hp) (O.town hw) ?_, fun c => ?_⟩
  · rw [O.pl (j := 2) hp (by decide), O.wd (j := 2) hw (by decide)]
    refine ⟨fun c2 => ?_, fun c2 => ⟨Γ.2.2.1 + 1, key Γ.2.2.1 0 (by omega) rfl ?_⟩⟩
    · rw [decide_eq_true c2, b01_0.mp c] at h
      exact h
    · rw [decide_eq_false c2, b01_0.mp c] at h
      exact h
  · rw [b01_1.mp c] at h
    exact h
theorem sy_freeFor {post : Int32 → MS → Prop} {w : Nat} (O : rOk (tR x) Γ σ) (Y : Sy x) (hw : w < Γ.2.2.1) (e : a1 = nI w) (h : post (freeF (stg x Γ.2.2.1) w Γ.2.2.1 Γ.1) σ) : w_X11_freeFor Γ post σ a1 := by
  have hP := O.hP
  subst e
  unfold w_X11_freeFor
  refine up_loop (fun k (q : Int32 × Int32) => u_X11_freeFor_4 Γ post (nI w) k σ q.1 q.2) (fun i => (freeF (stg x Γ.2.2.1) w Γ.2.2.1 i, nI i)) Γ.1 ?_ (fun i k hi hk => ?_)
  · show u_X11_freeFor_4 Γ post (nI w) 1 σ (freeF (stg x Γ.2.2.1) w Γ.2.2.1 Γ.1) (nI Γ.1)
    unfold u_X11_freeFor_4 w_lp_Jx4a65c_size_8abf5
    rw [O.p]
    exact ⟨fun _ => h, fun c => absurd (le_self _) c⟩
  · have hk : u_X11_freeFor_4 Γ post (nI w) k σ (freeF (stg x Γ.2.2.1) w Γ.2.2.1 i ||| (if freeB (stg x Γ.2.2.1) i w Γ.2.2.1 = true then one i else 0)) (nI (i + 1)) := hk
    show u_X11_freeFor_4 Γ post (nI w) (k + 1) σ (freeF (stg x Γ.2.2.1) w Γ.2.2.1 i) (nI i)
    unfold u_X11_freeFor_4 w_lp_Jx4a65c_size_8abf5
    rw [O.p, nI_1]
    refine ⟨fun c => absurd c (nI_ge hi (by omega)), fun _ => sy_isFree O Y hi rfl hw rfl ⟨fun c => ?_, fun c => ?_⟩⟩
    · rw [if_neg (by rw [b01_0.mp c]; exact Bool.false_ne_true)] at hk
      exact hk
    · rw [if_pos (b01_1.mp c)] at hk
      exact hk
theorem sy_isPeaceful {post : Int32 → MS → Prop} (O : rOk (tR x) Γ σ) (h : post (b01 (!feudB x a1 Γ.1)) σ) : w_X11_isPeaceful Γ post σ a1 := by
  have hP := O.hP
  have key : ∀ d i, i + d = Γ.1 → feudB x a1 i = false → u_X11_isPeaceful_2 Γ post a1 (d + 1) σ (nI i) := by
    intro d
    induction d with
    | zero =>
      intro i hi hf
      obtain rfl : i = Γ.1 := by omega
      unfold u_X11_isPeaceful_2 w_lp_Jx4a65c_size_8abf5
      rw [O.p]
      rw [hf] at h
      exact ⟨fun _ => h, fun c => absurd (le_self _) c⟩
    | succ d ih =>
      intro i hi hf
      have hiP : i < Γ.1 := by omega
      have step : ¬ (bt a1 i = true ∧ ¬ (x (29 + i) 4 &&& a1) = 0) → u_X11_isPeaceful_2 Γ post a1 (d + 1) σ (nI i + 1) := fun hx => by
        rw [nI_1]
        exact ih (i + 1) (by omega) (by unfold feudB; rw [hf, decide_eq_false hx]; rfl)
      unfold u_X11_isPeaceful_2 w_lp_Jx4a65c_size_8abf5
      rw [O.p]
      refine ⟨fun c => absurd c (nI_ge hiP (by omega)), fun _ => sx_isIn (by omega) ⟨fun c => step (fun q => ?_), fun c => sf_pget O hiP rfl ⟨⟨by omega, hiP⟩, ?_⟩⟩⟩
      · rw [b01_0.mp c] at q
        exact Bool.false_ne_true q.1
      · rw [O.pl (j := 4) hiP (by decide)]
        refine ⟨fun c2 => step (fun q => q.2 c2), fun c2 => ?_⟩
        have ht : feudB x a1 (i + 1) = true := by
          unfold feudB
          rw [decide_eq_true ⟨b01_1.mp c, c2⟩, Bool.or_true]
        rw [feudB_le (n := Γ.1) (by omega) ht] at h
        exact h
  exact ⟨Γ.1 + 1, key Γ.1 0 (by omega) rfl⟩
theorem g_and {g p : Int32} (hg : ∀ i, 16 ≤ i → bt g i = false) : g &&& (p ^^^ (-1)) = 0 ↔ ∀ s, s < 16 → bt g s = true → bt p s = true := by
  constructor
  · intro h s hs hb
    have := congrArg (fun y => bt y s) h
    simp only [b_and, b_cmp (show s < 32 by omega), b_0, hb] at this
    simpa using this
  · intro h
    refine b_ext fun i hi => ?_
    rw [b_and, b_cmp hi, b_0]
    rcases Nat.lt_or_ge i 16 with c | c
    · cases q : bt g i with
      | false => rfl
      | true => rw [h i c q]; rfl
    · rw [hg i c]; rfl
theorem bt_nI {n i : Nat} : bt (nI n) i = (decide (i < 32) && n.testBit i) := by
  unfold bt
  show (BitVec.ofNat 32 n).getLsbD i = _
  simp [BitVec.getLsbD_ofNat]
theorem sg_bits {g : Int32} (h : 0 ≤ g ∧ g < 65536) : ∀ i, 16 ≤ i → bt g i = false := fun i hi => by
  obtain ⟨n, hn, rfl⟩ := idx_in (n := 65536) (by decide) (Int32.not_lt.mpr h.1) h.2
  rw [bt_nI, Nat.testBit_lt_two_pow (Nat.lt_of_lt_of_le hn (Nat.pow_le_pow_right (n := 2) (by decide) hi)), Bool.and_false]
theorem kn_one {i : Nat} (O : rOk (tR x) Γ σ) : knP (fun p => σ (13 + p) 1) a Γ.1 i ↔ bt (playF x a Γ.1) i = true := by
  rw [playF_bt]
  unfold knP
  rw [knC_cg (K := fun p => σ (13 + p) 1) (L := fun p => x (29 + p) 1) _ (fun p hp => O.pl (j := 1) hp (by decide))]
theorem sy_areKnown {post : Int32 → MS → Prop} (O : rOk (tR x) Γ σ) (hg : ∀ i, 16 ≤ i → bt a2 i = false) (h : post (b01 (decide (a2 &&& (playF x a1 Γ.1 ^^^ (-1)) = 0))) σ) : w_X11_areKnown Γ post σ a1 a2 := by
  have key : ∀ d i, i + d = 16 → (∀ s, s < i → bt a2 s = true → bt (playF x a1 Γ.1) s = true) → u_X11_areKnown_2 Γ post a1 a2 (d + 1) σ (nI i) := by
    intro d
    induction d with
    | zero =>
      intro i hi hf
      obtain rfl : i = 16 := by omega
      unfold u_X11_areKnown_2
      rw [decide_eq_true ((g_and hg).mpr hf)] at h
      exact ⟨fun _ => h, fun c => absurd (le_self (nI 16)) c⟩
    | succ d ih =>
      intro i hi hf
      have nx : (bt a2 i = true → bt (playF x a1 Γ.1) i = true) → u_X11_areKnown_2 Γ post a1 a2 (d + 1) σ (nI i + 1) := fun g => by
        rw [nI_1]
        refine ih (i + 1) (by omega) (fun s hs => ?_)
        rcases Nat.eq_or_lt_of_le (Nat.le_of_lt_succ hs) with z | z
        · rw [z]; exact g
        · exact hf s z
      unfold u_X11_areKnown_2
      refine ⟨fun c => absurd (show nI 16 ≤ nI i from c) (nI_ge (by omega) (by decide)), fun _ => sx_isIn (by omega) ⟨fun c => nx (fun q => ?_), fun c => sx_isKnown O (by omega) (fun g => ⟨fun q => absurd q (by decide), fun _ => nx (fun _ => (kn_one O).mp g)⟩) (fun g => ⟨fun _ => ?_, fun q => absurd rfl q⟩)⟩⟩
      · rw [b01_0.mp c] at q
        exact absurd q Bool.false_ne_true
      · rw [decide_eq_false (fun q => g ((kn_one O).mpr ((g_and hg).mp q i (by omega) (b01_1.mp c))))] at h
        exact h
  exact ⟨17, key 16 0 (by omega) (fun s hs => absurd hs (by omega))⟩
theorem mx_way {r : Int32} (h : ∃ n, n ≤ 576 ∧ r = nI n) : (if 0 < r then r else 0) = r := by
  obtain ⟨n, hn, rfl⟩ := h
  rcases Nat.eq_zero_or_pos n with c | c
  · subst c; rfl
  · exact if_pos (show nI 0 < nI n from nI_lt c (by omega))
theorem sy_cost {post : Int32 → MS → Prop} {p w : Nat} (O : rOk (tR x) Γ σ) (Y : Sy x) (hp : p < Γ.1) (e : a1 = nI p) (hw : w < Γ.2.2.1) (h : post (costF x p w) σ) : w_X11_cost Γ post σ a1 w := by
  have hP := O.hP
  unfold w_X11_cost
  unfold costF at h
  refine sf_pget O hp e ⟨⟨by omega, hp⟩, sy_driveOf O (O.home hp) (O.town hw) ?_⟩
  rw [O.pl (j := 2) hp (by decide), O.wd (j := 2) hw (by decide), O.pl (j := 3) hp (by decide), O.wd (j := 4) hw (by decide)]
  refine ⟨fun c => ?_, fun c => ?_⟩
  · rw [c, show (10 * (if (0 : Int32) < -1 then -1 else 0) : Int32) = 0 by decide] at h
    exact h
  · rw [mx_way ((way_rg Y (O.xhome hp) (O.xtown hw)).resolve_left c)] at h
    exact h
theorem sy_costOf {post : Int32 → MS → Prop} {w : Nat} (O : rOk (tR x) Γ σ) (Y : Sy x) (hw : w < Γ.2.2.1) (h : post (costsF x a1 w Γ.1) σ) : w_X11_costOf Γ post σ a1 w := by
  have hP := O.hP
  unfold w_X11_costOf
  refine up_loop (fun k (q : Int32 × Int32) => u_X11_costOf_5 Γ post a1 w k σ q.1 q.2) (fun i => (costsF x a1 w i, nI i)) Γ.1 ?_ (fun i k hi hk => ?_)
  · show u_X11_costOf_5 Γ post a1 w 1 σ (costsF x a1 w Γ.1) (nI Γ.1)
    unfold u_X11_costOf_5 w_lp_Jx4a65c_size_8abf5
    rw [O.p]
    exact ⟨fun _ => h, fun c => absurd (le_self _) c⟩
  · have hk : u_X11_costOf_5 Γ post a1 w k σ (costsF x a1 w i + (if bt a1 i = true then costF x i w else 0)) (nI (i + 1)) := hk
    show u_X11_costOf_5 Γ post a1 w (k + 1) σ (costsF x a1 w i) (nI i)
    unfold u_X11_costOf_5 w_lp_Jx4a65c_size_8abf5
    rw [O.p, nI_1]
    refine ⟨fun c => absurd c (nI_ge hi (by omega)), fun _ => sx_isIn (by omega) ⟨fun c => ?_, fun c => sy_cost O Y hi rfl hw ?_⟩⟩
    · rw [if_neg (by rw [b01_0.mp c]; exact Bool.false_ne_true)] at hk
      exact hk
    · rw [if_pos (b01_1.mp c)] at hk
      exact hk
theorem sy_quarters {post : Int32 → MS → Prop} {w : Nat} (O : rOk (tR x) Γ σ) (hw : w < Γ.2.2.1) (h : post (quF x w) σ) : w_X10_quarters Γ post σ w := by
  unfold w_X10_quarters
  unfold quF at h
  rw [O.wd (j := 3) hw (by decide), O.wd (j := 4) hw (by decide), O.wd (j := 10) hw (by decide)]
  intro y hy
  rw [hy, Int32.mul_comm 60]
  exact h
theorem sy_owed {post : Int32 → MS → Prop} {w : Nat} (O : rOk (tR x) Γ σ) (hw : w < Γ.2.2.1) (h : post (owedF x w) σ) : w_X11_owed Γ post σ w := by
  unfold w_X11_owed
  unfold owedF at h
  rw [O.wd (j := 1) hw (by decide), O.wd (j := 9) hw (by decide), O.tdy]
  refine ⟨fun c => ⟨fun d => ⟨fun e => ?_, fun e => ?_⟩, fun d => ?_⟩, fun c => ?_⟩
  · rw [if_pos c, if_pos d, if_pos e] at h; exact h
  · rw [if_pos c, if_pos d, if_neg e] at h; exact h
  · rw [if_pos c, if_neg d] at h; exact h
  · rw [if_neg c] at h; exact h
theorem sy_fees {post : Int32 → MS → Prop} (O : rOk (tR x) Γ σ) (h : post (sumI (ifb a1 fun p => x (29 + p) 3) Γ.1) σ) : w_X11_fees Γ post σ a1 := by
  have hP := O.hP
  unfold w_X11_fees
  refine up_loop (fun k (q : Int32 × Int32) => u_X11_fees_4 Γ post a1 k σ q.1 q.2) (fun i => (sumI (ifb a1 fun p => x (29 + p) 3) i, nI i)) Γ.1 ?_ (fun i k hi hk => ?_)
  · show u_X11_fees_4 Γ post a1 1 σ (sumI (ifb a1 fun p => x (29 + p) 3) Γ.1) (nI Γ.1)
    unfold u_X11_fees_4 w_lp_Jx4a65c_size_8abf5
    rw [O.p]
    exact ⟨fun _ => h, fun c => absurd (le_self _) c⟩
  · have hk : u_X11_fees_4 Γ post a1 k σ (sumI (ifb a1 fun p => x (29 + p) 3) i + (if bt a1 i = true then x (29 + i) 3 else 0)) (nI (i + 1)) := hk
    show u_X11_fees_4 Γ post a1 (k + 1) σ (sumI (ifb a1 fun p => x (29 + p) 3) i) (nI i)
    unfold u_X11_fees_4 w_lp_Jx4a65c_size_8abf5
    rw [O.p, nI_1]
    refine ⟨fun c => absurd c (nI_ge hi (by omega)), fun _ => sx_isIn (by omega) ⟨fun c => ?_, fun c => sf_pget O hi rfl ⟨⟨by omega, hi⟩, ?_⟩⟩⟩
    · rw [if_neg (by rw [b01_0.mp c]; exact Bool.false_ne_true)] at hk
      exact hk
    · rw [if_pos (b01_1.mp c)] at hk
      rw [O.pl (j := 3) hi (by decide)]
      exact hk
theorem sy_earnedAt {post : Int32 → MS → Prop} {p w : Nat} (O : rOk (tR x) Γ σ) (Y : Sy x) (hp : p < Γ.1) (e : a1 = nI p) (hw : w < Γ.2.2.1) (h : post (wageF x p w) σ) : w_X11_earnedAt Γ post σ a1 w := by
  have hP := O.hP
  unfold w_X11_earnedAt
  refine sy_cost O Y hp e hw (sy_quarters O hw (sf_pget O hp e ⟨⟨by omega, hp⟩, ?_⟩))
  rw [O.pl (j := 3) hp (by decide)]
  exact h
/-- what comes in as it is played, less what goes to players -/
def gainF (x : MS) (w n : Nat) : Int32 := ((x (73 + w) 9 - x (73 + w) 11) + extraF x w n) - wagesF x w n
theorem sy_gain {post : Int32 → MS → Prop} {w : Nat} (O : rOk (tR x) Γ σ) (Y : Sy x) (hw : w < Γ.2.2.1) (h : post (gainF x w Γ.1) σ) : w_X11_gain Γ post σ w := by
  have hP := O.hP
  unfold w_X11_gain
  refine sy_quarters O hw ?_
  rw [O.wd (j := 8) hw (by decide)]
  refine sy_fees O ?_
  rw [O.wd (j := 9) hw (by decide), O.wd (j := 11) hw (by decide)]
  have key : ∃ k, u_X11_gain_28 Γ post w k σ (((x (73 + w) 9 - x (73 + w) 11) + extraF x w Γ.1) - wagesF x w 0) (nI 0) := by
    refine up_loop (fun k (q : Int32 × Int32) => u_X11_gain_28 Γ post w k σ q.1 q.2) (fun i => (((x (73 + w) 9 - x (73 + w) 11) + extraF x w Γ.1) - wagesF x w i, nI i)) Γ.1 ?_ (fun i k hi hk => ?_)
    · show u_X11_gain_28 Γ post w 1 σ (gainF x w Γ.1) (nI Γ.1)
      unfold u_X11_gain_28 w_lp_Jx4a65c_size_8abf5
      rw [O.p]
      exact ⟨fun _ => h, fun c => absurd (le_self _) c⟩
    · have hk : ∀ v, v = ((x (73 + w) 9 - x (73 + w) 11) + extraF x w Γ.1) - (wagesF x w i + (if bt (x (73 + w) 8) i = true then wageF x i w else 0)) → u_X11_gain_28 Γ post w k σ v (nI (i + 1)) := fun v e => by rw [e]; exact hk
      show u_X11_gain_28 Γ post w (k + 1) σ (((x (73 + w) 9 - x (73 + w) 11) + extraF x w Γ.1) - wagesF x w i) (nI i)
      unfold u_X11_gain_28 w_lp_Jx4a65c_size_8abf5
      rw [O.p, nI_1]
      dsimp only
      rw [O.wd (j := 8) hw (by decide)]
      refine ⟨fun c => absurd c (nI_ge hi (by omega)), fun _ => sx_isIn (by omega) ⟨fun c => hk _ ?_, fun c => sy_earnedAt O Y hi rfl hw (hk _ ?_)⟩⟩
      · rw [if_neg (by rw [b01_0.mp c]; exact Bool.false_ne_true)]
        grind
      · rw [if_pos (b01_1.mp c)]
        grind
  have e0 : ((x (73 + w) 9 - x (73 + w) 11) + extraF x w Γ.1) - wagesF x w 0 = (x (73 + w) 9 - x (73 + w) 11) + extraF x w Γ.1 := by
    show _ - (0 : Int32) = _
    grind
  rw [e0] at key
  exact key
theorem sy_share {post : Int32 → MS → Prop} {i : Nat} (O : rOk (tR x) Γ σ) (hi : i < 16) (h : post (shareF x i) σ) : w_X11_share Γ post σ (nI i) := by
  unfold w_X11_share
  have vi : vp_in (nI i) 16 := vp_in_nI hi (by decide)
  refine up_loop (fun k (q : Int32 × Int32) => u_X11_share_4 Γ post (nI i) k σ q.1 q.2) (fun j => (sumI (fun s => x (39 + s) 2 * x (39 + s) 3) j, nI j)) 16 ?_ (fun j k hj hk => ?_)
  · show u_X11_share_4 Γ post (nI i) 1 σ (shAll x) (nI 16)
    unfold u_X11_share_4
    unfold shareF at h
    refine ⟨fun _ => ⟨fun c => ?_, fun c => ⟨vi, vi, c, ?_⟩⟩, fun c => absurd (le_self (nI 16)) c⟩
    · rw [if_pos c] at h; exact h
    · rw [if_neg c] at h
      rw [nI_clamp (by omega), O.sg2 hi, O.sg3 hi, show (1000 * x (39 + i) 2 * x (39 + i) 3 : Int32) = x (39 + i) 2 * x (39 + i) 3 * 1000 by grind]
      exact h
  · have hk : u_X11_share_4 Γ post (nI i) k σ (sumI (fun s => x (39 + s) 2 * x (39 + s) 3) j + x (39 + j) 2 * x (39 + j) 3) (nI (j + 1)) := hk
    have vj : vp_in (nI j) 16 := vp_in_nI hj (by decide)
    show u_X11_share_4 Γ post (nI i) (k + 1) σ (sumI (fun s => x (39 + s) 2 * x (39 + s) 3) j) (nI j)
    unfold u_X11_share_4
    refine ⟨fun c => absurd (show nI 16 ≤ nI j from c) (nI_ge hj (by decide)), fun _ => ⟨vj, vj, ?_⟩⟩
    rw [nI_clamp (by omega), O.sg2 hj, O.sg3 hj, nI_1]
    exact hk
end ONE
