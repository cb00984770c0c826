/-! LAWS: the survey of a wedding's fillings -/
def addF (σ : MS) (s c k : Int32) : MS :=
  let σ1 := if σ 9 3 = 0 ∨ σ 9 2 < k ∨ (k = σ 9 2 ∧ ¬ σ 9 1 ≤ c) then up2 (up2 (up2 σ 9 0 s) 9 1 c) 9 2 k else σ
  up2 (up2 σ1 9 3 (σ1 9 3 + 1)) 9 4 ((up2 σ1 9 3 (σ1 9 3 + 1)) 9 4 &&& s)
theorem law_add {post : MS → Prop} {σ : MS} {s c k : Int32} (h : post (addF σ s c k)) : w_X2_add post σ s c k := by
  unfold w_X2_add u_X2_add_31 u_X2_add_46
  unfold addF at h
  dsimp only at h
  refine ⟨fun a => ?_, fun a => ⟨fun b => ?_, fun b => ⟨fun d => ⟨fun e => ?_, fun e => ?_⟩, fun d => ?_⟩⟩⟩
  · rw [if_pos (Or.inl a)] at h; exact h
  · rw [if_pos (Or.inr (Or.inl b))] at h; exact h
  · rw [if_neg (fun q => q.elim a fun q => q.elim b fun q => q.2 e)] at h; exact h
  · rw [if_pos (Or.inr (Or.inr ⟨d, e⟩))] at h; exact h
  · rw [if_neg (fun q => q.elim a fun q => q.elim b fun q => d q.1)] at h; exact h
theorem Scr.add (σ : MS) (s c k : Int32) : Scr σ (addF σ s c k) := by
  unfold addF
  dsimp only
  have h1 : Scr σ (if σ 9 3 = 0 ∨ σ 9 2 < k ∨ (k = σ 9 2 ∧ ¬ σ 9 1 ≤ c) then up2 (up2 (up2 σ 9 0 s) 9 1 c) 9 2 k else σ) := by
    split
    · exact ((Scr.up (by decide) (by decide)).tr (Scr.up (by decide) (by decide))).tr (Scr.up (by decide) (by decide))
    · exact Scr.rf σ
  exact (h1.tr (Scr.up (by decide) (by decide))).tr (Scr.up (by decide) (by decide))
def clearF (σ : MS) : MS := up2 (up2 (up2 (up2 (up2 (up2 σ 9 0 (-1)) 9 1 (-1)) 9 2 0) 9 3 0) 9 4 (-1)) 9 5 0
theorem Scr.clear (σ : MS) : Scr σ (clearF σ) := (((((Scr.up (by decide) (by decide)).tr (Scr.up (by decide) (by decide))).tr (Scr.up (by decide) (by decide))).tr (Scr.up (by decide) (by decide))).tr (Scr.up (by decide) (by decide))).tr (Scr.up (by decide) (by decide))
/-- one set looked at: the state, whether one was seated, whether one could play -/
def svS (P w : Nat) (size free had : Int32) (s : Nat) (x : MS × Int32 × Int32) : MS × Int32 × Int32 :=
  if nI s &&& (free ^^^ (-1)) = 0 ∧ ¬ x.1 8 s = 0 ∧ bcI (nI s) = size then
    (if x.1 (73 + w) 5 &&& (playF x.1 (nI s) P ^^^ (-1)) = 0 then
      (if feudB x.1 (nI s) P = true then (x.1, 1, 1) else (addF x.1 (nI s) (costsF x.1 (nI s) w P) (bcI (nI s &&& had)), 1, 1))
    else (x.1, 1, x.2.2))
  else x
def sv (σ : MS) (P w : Nat) (size free had : Int32) : Nat → MS × Int32 × Int32
  | 0 => (σ, 0, 0)
  | n + 1 => svS P w size free had (n + 1) (sv σ P w size free had n)
theorem Scr.svStep (P w : Nat) (size free had : Int32) (s : Nat) (x : MS × Int32 × Int32) : Scr x.1 (svS P w size free had s x).1 := by
  unfold svS
  split
  · split
    · split
      · exact Scr.rf _
      · exact Scr.add _ _ _ _
    · exact Scr.rf _
  · exact Scr.rf _
theorem Scr.sv (σ : MS) (P w : Nat) (size free had : Int32) : ∀ n, Scr σ (sv σ P w size free had n).1
  | 0 => Scr.rf σ
  | n + 1 => (Scr.sv σ P w size free had n).tr (Scr.svStep P w size free had (n + 1) _)
def whyF (x : MS × Int32 × Int32) (size free : Int32) : Int32 :=
  if x.1 9 3 ≤ 0 then (if size ≤ bcI free then (if x.2.1 = 0 then 2 else if x.2.2 = 0 then 4 else 3) else 1) else 0
theorem law_sv {post : MS → Prop} {σ : MS} {P B W T w a1 : Nat} {size free had : Int32} {a : Int32} (O : Ok σ P B W T) (hw : w < 14) (h : post (up2 (sv σ P w size free had (2 ^ P - 1)).1 9 5 (whyF (sv σ P w size free had (2 ^ P - 1)) size free))) : ∃ k, u_X7_survey_53 post a free had k σ w size 0 0 1 := by
  have hP := O.hP
  obtain ⟨hp1, hp2⟩ := pw1024 hP
  have hl := up_loop (fun k (q : (MS × Int32 × Int32) × Int32) => u_X7_survey_53 post a free had k q.1.1 w size q.1.2.1 q.1.2.2 q.2) (fun i => (sv σ P w size free had i, nI (i + 1))) (2 ^ P - 1) ?_ (fun i k hi hk => ?_)
  · exact hl
  · show u_X7_survey_53 post a free had 1 (sv σ P w size free had (2 ^ P - 1)).1 w size (sv σ P w size free had (2 ^ P - 1)).2.1 (sv σ P w size free had (2 ^ P - 1)).2.2 (nI (2 ^ P - 1 + 1))
    have Ox := (O.scr (Scr.sv σ P w size free had (2 ^ P - 1))).h6
    generalize sv σ P w size free had (2 ^ P - 1) = x at h Ox ⊢
    rw [u_X7_survey_53, Ox, shl1 P hP, Nat.sub_add_cancel hp1]
    unfold whyF at h
    refine ⟨fun _ => ⟨fun c => law_bitCount ⟨fun d => ⟨fun e => ?_, fun e => ⟨fun f => ?_, fun f => ?_⟩⟩, fun d => ?_⟩, fun c => ?_⟩, fun c => absurd (le_self _) c⟩
    · rw [if_pos c, if_pos d, if_pos e] at h; exact h
    · rw [if_pos c, if_pos d, if_neg e, if_pos f] at h; exact h
    · rw [if_pos c, if_pos d, if_neg e, if_neg f] at h; exact h
    · rw [if_pos c, if_neg d] at h; exact h
    · rw [if_neg c] at h; exact h
  · show u_X7_survey_53 post a free had (k + 1) (sv σ P w size free had i).1 w size (sv σ P w size free had i).2.1 (sv σ P w size free had i).2.2 (nI (i + 1))
    have hk : u_X7_survey_53 post a free had k (svS P w size free had (i + 1) (sv σ P w size free had i)).1 w size (svS P w size free had (i + 1) (sv σ P w size free had i)).2.1 (svS P w size free had (i + 1) (sv σ P w size free had i)).2.2 (nI (i + 1 + 1)) := hk
    have Ox := O.scr (Scr.sv σ P w size free had i)
    generalize sv σ P w size free had i = x at hk Ox ⊢
    unfold svS at hk
    have v : vp_in (nI (i + 1)) 1024 := vp_in_nI (by omega) (by decide)
    rw [u_X7_survey_53, Ox.h6, shl1 P hP, nI_1, nI_clamp (by omega)]
    refine ⟨fun c => absurd c (nI_ge (by omega) (by omega)), fun _ => ⟨fun c => ⟨v, fun d => ?_, fun d => law_bitCount ⟨fun e => law_playableFor Ox.h6 hP ⟨fun f => law_hasFeud Ox.h6 hP ⟨fun g => law_costOfAll Ox hw (law_bitCount (law_add ?_)), fun g => ?_⟩, fun f => ?_⟩, fun e => ?_⟩⟩, fun c => ?_⟩⟩
    · rw [if_neg (fun q => q.2.1 d)] at hk; exact hk
    · rw [if_pos ⟨c, d, e⟩, if_pos f, if_neg (by rw [b01_0.mp g]; exact Bool.false_ne_true)] at hk; exact hk
    · rw [if_pos ⟨c, d, e⟩, if_pos f, if_pos (b01_1.mp g)] at hk; exact hk
    · rw [if_pos ⟨c, d, e⟩, if_neg f] at hk; exact hk
    · rw [if_neg (fun q => e q.2.2)] at hk; exact hk
    · rw [if_neg (fun q => c q.1)] at hk; exact hk
/-- the band of a wedding, as a number -/
def bdOf (σ : MS) (w : Nat) : Nat := (σ (73 + w) 0).toNatClampNeg
theorem Ok.bd {σ : MS} {P B W T w : Nat} (O : Ok σ P B W T) (hw : w < 14) : bdOf σ w < 6 := vlt (O.band w hw)
def svIn (σ : MS) (w P : Nat) : MS := sat (clearF σ) (bdOf σ w) P (2 ^ P - 1)
def svAll (σ : MS) (w P : Nat) (free had : Int32) : MS × Int32 × Int32 := sv (svIn σ w P) P w (σ (55 + bdOf σ w) 2) free had (2 ^ P - 1)
def survF (σ : MS) (w P : Nat) (free had : Int32) : MS := up2 (svAll σ w P free had).1 9 5 (whyF (svAll σ w P free had) (σ (55 + bdOf σ w) 2) free)
theorem Scr.svIn (σ : MS) (w P : Nat) : Scr σ (svIn σ w P) := (Scr.clear σ).tr (Scr.sat _ _ _ _)
theorem Scr.surv (σ : MS) (w P : Nat) (free had : Int32) : Scr σ (survF σ w P free had) := ((Scr.svIn σ w P).tr (Scr.sv _ _ _ _ _ _ _)).tr (Scr.up (by decide) (by decide))
theorem law_survey {post : MS → Prop} {σ : MS} {P B W T w : Nat} {free had : Int32} (O : Ok σ P B W T) (hw : w < 14) (h : post (survF σ w P free had)) : w_X7_survey post σ (nI w) free had := by
  unfold w_X7_survey
  rw [nI_clamp (by omega)]
  have e : clearF σ (73 + w) = σ (73 + w) := Scr.clear σ _ (by omega)
  have Oc := O.scr (Scr.clear σ)
  have hb := O.band w hw
  refine ⟨vp_in_nI hw (by decide), hb, ?_⟩
  show vp_in (clearF σ (73 + w) 0) 6 ∧ w_X7_seatAll _ (clearF σ) (clearF σ (73 + w) 0).toNatClampNeg
  rw [e]
  exact ⟨hb, law_seatAll Oc (O.bd hw) (law_sv (a1 := 0) (O.scr (Scr.svIn σ w P)) hw h)⟩
def snF (σ : MS) (w P W : Nat) : MS := survF (stg σ W) w P (freeF (stg σ W) w W P) 0
theorem Scr.sn (σ : MS) (w P W : Nat) : Scr σ (snF σ w P W) := (Scr.stg σ W).tr (Scr.surv _ _ _ _ _)
theorem law_surveyNow {post : MS → Prop} {σ : MS} {P B W T w : Nat} (O : Ok σ P B W T) (hw : w < 14) (h : post (snF σ w P W)) : w_X7_surveyNow post σ (nI w) :=
  law_stageAsFixed O.h8 O.hW (law_freeFor (O.scr (Scr.stg σ W)) hw (law_survey (O.scr (Scr.stg σ W)) hw h))
