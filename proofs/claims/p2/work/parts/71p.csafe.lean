/-! THE CLASS IS SAFE: whatever the call, it ends, throws what its caller catches, and keeps what holds of every state -/
/-- what holds of every state of an agency with P players -/
def CI (σ : MS) (P : Nat) : Prop := ∃ B W T, Ok σ P B W T ∧ Pk σ P
section CSAFE
variable {σ τ : MS} {P : Nat} {a b c d e f : Int32} {post : Int32 → MS → Prop} {pex : String → MS → Prop}
theorem CI.of {B W T : Nat} (O : Ok σ P B W T) (K : Pk σ P) : CI σ P := ⟨B, W, T, O, K⟩
theorem CI.hP (C : CI σ P) : P ≤ 10 := by obtain ⟨B, W, T, O, -⟩ := C; exact O.hP
theorem CI.scr (C : CI σ P) (h : Scr σ τ) : CI τ P := by obtain ⟨B, W, T, O, K⟩ := C; exact ⟨B, W, T, O.scr h, K.scr h⟩
theorem cs_learn (C : CI σ P) (hO : pex xIO σ) (hA : pex xIA σ) (h : ∀ v τ, CI τ P → post v τ) : w_T_X7_learn post pex σ a b := by
  obtain ⟨B, W, T, O, K⟩ := C
  exact law_T_learn O (fun _ => hO) (fun _ _ _ _ => hA) (fun p hp _ _ => h _ _ (.of (O.up (by have := O.hP; unfold okPl; omega)) (K.kw (Kw.up (Or.inl (by have := O.hP; omega))))))
theorem cs_song (C : CI σ P) (hO : pex xIO σ) (hA : pex xIA σ) (h : ∀ v τ, CI τ P → post v τ) : w_T_X7_song post pex σ a b c d := by
  obtain ⟨B, W, T, O, K⟩ := C
  exact law_T_song (fun _ => hO) (fun _ _ _ _ => hA) (fun s hs _ _ => h _ _ (.of (O.song hs) (((K.kw (Kw.up (Or.inl (by omega)))).kw (Kw.up (Or.inl (by omega)))).kw (Kw.up (Or.inl (by omega))))))
theorem cs_feud (C : CI σ P) (hO : pex xIO σ) (hA : pex xIA σ) (h : ∀ v τ, CI τ P → post v τ) : w_T_X7_feud post pex σ a b c := by
  obtain ⟨B, W, T, O, K⟩ := C
  have hP := O.hP
  refine law_T_feud O (fun _ => hO) (fun _ _ _ _ => hA) (fun p q hp hq _ _ _ => h _ _ (.of (O.feud (by omega) (by omega)) ?_))
  unfold feudS
  split
  · exact K
  · exact (K.kw (Kw.up (Or.inl (by omega)))).kw (Kw.up (Or.inl (by omega)))
theorem kw_shB (x : MS) (o a i : Nat) (ha : a < 50) : Kw x (shB x o a i) := by
  unfold shB
  split
  · exact Kw.rf x
  · exact Kw.up (Or.inl (by omega))
theorem kw_shA (x : MS) (o a : Nat) (ha : a < 50) : ∀ n, Kw x (shA x o a n)
  | 0 => Kw.rf x
  | n + 1 => (kw_shA x o a ha n).tr (kw_shB _ o a n ha)
theorem kw_shO (x : MS) (o : Nat) : ∀ n, n ≤ 6 → Kw x (shO x o n)
  | 0, _ => Kw.rf x
  | n + 1, h => (kw_shO x o n (by omega)).tr (kw_shA _ o n (by omega) 6)
theorem kw_ov (x : MS) : ∀ n, Kw x (ovS x n)
  | 0 => Kw.rf x
  | n + 1 => (kw_ov x n).tr (kw_shO _ n 6 (by decide))
theorem kw_lyB (x : MS) {a : Nat} (ha : a < 6) : ∀ n, Kw x (lyB x a n)
  | 0 => Kw.rf x
  | n + 1 => (kw_lyB x ha n).tr (Kw.up (Or.inl (by omega)))
theorem kw_lyA (x : MS) : ∀ n, n ≤ 6 → Kw x (lyA x n)
  | 0, _ => Kw.rf x
  | n + 1, h => (kw_lyA x n (by omega)).tr (kw_lyB _ (by omega) 6)
theorem kw_lay (x : MS) {i j : Nat} {h : Int32} (hi : i < 6) (hj : j < 6) : Kw x (layS x i j h) := ((((Kw.up (Or.inl (by omega))).tr (Kw.up (Or.inl (by omega)))).tr (kw_lyA _ 6 (by decide))).tr (kw_ov _ 6))
theorem kw_tkI (x : MS) (b k : Nat) (hb : b < 6) : ∀ n, Kw x (tkI x b k n)
  | 0 => Kw.rf x
  | n + 1 => by
    have ih := kw_tkI x b k hb n
    unfold tkI
    split
    · exact ih
    · exact (ih.tr (Kw.up (Or.inl (by omega)))).tr (Kw.up (Or.inl (by omega)))
theorem kw_tkO (x : MS) (b : Nat) (a : Int32) (hb : b < 6) : ∀ n, Kw x (tkO x b a n).1
  | 0 => Kw.rf x
  | n + 1 => ((kw_tkO x b a hb n).tr (Kw.up (Or.inl (by omega)))).tr (kw_tkI _ b n hb _)
theorem kw_band (x : MS) {B m : Nat} (hB : B < 6) : Kw x (bandS x B m) := (kw_tkO x B _ hB 6).tr (Kw.up (Or.inl (by decide)))
theorem cs_road (C : CI σ P) (hO : pex xIO σ) (hA : pex xIA σ) (h : ∀ v τ, CI τ P → post v τ) : w_T_X7_road post pex σ a b c := by
  obtain ⟨B, W, T, O, K⟩ := C
  exact law_T_road (fun _ => hO) (fun _ _ _ _ _ _ _ => hA) (fun i j hi hj _ _ _ => h _ _ (.of (O.kp (Kp.lay σ hi hj)) (K.kw (kw_lay σ hi hj))))
theorem cs_band (C : CI σ P) (hA : pex xIA σ) (hS : pex xIS σ) (h : ∀ v τ, CI τ P → post v τ) : w_T_X7_band post pex σ a := by
  obtain ⟨B, W, T, O, K⟩ := C
  exact law_T_band O (fun _ => hA) (fun _ _ _ _ _ _ => hS) (fun m _ _ _ _ hB => h _ _ (.of (O.band1 hB) (K.kw (kw_band σ hB))))
theorem cs_ask (C : CI σ P) (hO : pex xIO σ) (hA : pex xIA σ) (hS : pex xIS σ) (h : ∀ v τ, CI τ P → post v τ) : w_T_X7_ask post pex σ a b c d e f := by
  obtain ⟨B, W, T, O, K⟩ := C
  refine law_T_ask O (fun _ => hO) (fun _ _ _ => hA) (fun _ _ _ _ => hS) (fun hb ht ok hW _ => h _ _ (.of (O.ask hb ht ok hW) ?_))
  unfold askS
  exact K.kw ((((((((Kw.up (Or.inr (by decide))).tr (Kw.up (Or.inr (by decide)))).tr (Kw.up (Or.inr (by decide)))).tr (Kw.up (Or.inr (by decide)))).tr (Kw.up (Or.inr (by decide)))).tr (Kw.up (Or.inr (by decide)))).tr (Kw.up (Or.inr (by decide)))).tr (Kw.up (Or.inl (by decide))))
theorem cs_fix (C : CI σ P) (hO : pex xIO σ) (hS : ∀ τ, CI τ P → pex xIS τ) (h : ∀ v τ, CI τ P → post v τ) : w_T_X7_fix post pex σ a := by
  have C0 := C
  obtain ⟨B, W, T, O, K⟩ := C
  exact law_T_fix O (fun _ => hO) (fun _ _ _ _ => hS _ C0) (fun w _ _ _ _ => hS _ (C0.scr (Scr.sn σ w P W))) (fun w hw _ _ hc => h _ _ (.of (O.fix (by have := O.hW; omega)) (K.fix O.hP hc)))
theorem cs_cancel (C : CI σ P) (hO : pex xIO σ) (hS : pex xIS σ) (h : ∀ v τ, CI τ P → post v τ) : w_T_X7_cancel post pex σ a := by
  obtain ⟨B, W, T, O, K⟩ := C
  exact law_T_cancel O (fun _ => hO) (fun _ _ _ _ => hS) (fun w hw _ _ => h _ _ (.of (O.can (by have := O.hW; omega)) K.can))
theorem cs_ill (C : CI σ P) (hO : pex xIO σ) (hA : pex xIA σ) (h : ∀ v τ, CI τ P → post v τ) : w_T_X7_ill post pex σ a b := by
  obtain ⟨B, W, T, O, K⟩ := C
  refine law_T_ill O (fun _ => hO) (fun _ _ _ _ => hA) (fun p d _ _ _ _ _ => h _ _ (.of (Ok.ill (O.off (p := p) (d := d)) W O.hW) (Pk.ill (W := W) ?_ (fun j hj => ?_) W (Nat.le_refl _))))
  · exact (K.scr (Scr.sw σ P W p (nI d) W)).kw (Kw.up (Or.inl (by decide)))
  · unfold offS
    rw [up2_ne (by decide)]
    exact sw_in O.hP K O.hW W j hj
theorem cs_late (C : CI σ P) (hO : pex xIO σ) (hA : pex xIA σ) (hS : pex xIS σ) (h : ∀ v τ, CI τ P → post v τ) : w_T_X7_late post pex σ a b := by
  obtain ⟨B, W, T, O, K⟩ := C
  exact law_T_late O (fun _ => hO) (fun _ _ _ _ => hA) (fun _ _ _ _ _ => hS) (fun w hw _ _ _ => h _ _ (.of (O.up (by have := O.hW; unfold okPl; omega)) (K.kw (Kw.up (Or.inr (by decide))))))
theorem cs_pass (C : CI σ P) (hA : pex xIA σ) (hS : pex xIS σ) (h : ∀ v τ, CI τ P → post v τ) : w_T_X7_pass post pex σ a := by
  obtain ⟨B, W, T, O, K⟩ := C
  exact law_T_pass O (fun _ => hA) (fun _ _ _ _ _ => hS) (fun d _ _ _ hd => h _ _ (.of (ok_psS O d hd) (K.kw (kw_psS σ P W d))))
theorem cs_ofPlayer (C : CI σ P) (hO : pex xIO σ) (hA : pex xIA σ) (h : ∀ v τ, CI τ P → post v τ) : w_T_X7_ofPlayer post pex σ a b := by
  have C0 := C
  obtain ⟨B, W, T, O, K⟩ := C
  exact law_T_ofPlayer O (fun _ => hO) (fun _ _ _ _ => hA) (fun _ _ _ _ _ _ => h _ _ C0)
theorem cs_ofSong (C : CI σ P) (hO : pex xIO σ) (hA : pex xIA σ) (h : ∀ v τ, CI τ P → post v τ) : w_T_X7_ofSong post pex σ a b := by
  have C0 := C
  obtain ⟨B, W, T, O, K⟩ := C
  exact law_T_ofSong O (fun _ => hO) (fun _ _ _ _ => hA) (fun _ _ _ _ _ _ => h _ _ C0)
theorem cs_ofBand (C : CI σ P) (hO : pex xIO σ) (hA : pex xIA σ) (h : ∀ v τ, CI τ P → post v τ) : w_T_X7_ofBand post pex σ a b := by
  have C0 := C
  obtain ⟨B, W, T, O, K⟩ := C
  exact law_T_ofBand O (fun _ => hO) (fun _ _ _ _ => hA) (fun _ _ _ _ _ _ => h _ _ C0)
theorem cs_ofWedding (C : CI σ P) (hO : pex xIO σ) (hA : pex xIA σ) (h : ∀ v τ, CI τ P → post v τ) : w_T_X7_ofWedding post pex σ a b := by
  have C0 := C
  obtain ⟨B, W, T, O, K⟩ := C
  exact law_T_ofWedding O (fun _ => hO) (fun _ _ _ _ => hA) (fun _ _ _ _ _ _ => h _ _ C0)
theorem cs_drive (C : CI σ P) (hO : pex xIO σ) (h : ∀ v τ, CI τ P → post v τ) : w_T_X7_drive post pex σ a b :=
  law_T_drive (fun _ => hO) (fun _ _ _ _ _ _ => h _ _ C)
theorem cs_free (C : CI σ P) (hO : pex xIO σ) (h : ∀ v τ, CI τ P → post v τ) : w_T_X7_free post pex σ a b := by
  have C0 := C
  obtain ⟨B, W, T, O, K⟩ := C
  exact law_T_free O (fun _ => hO) (fun _ _ _ _ _ _ => h _ _ (C0.scr (Scr.stg σ W)))
theorem cs_filling (C : CI σ P) (hO : pex xIO σ) (hA : pex xIA σ) (h : ∀ v τ, CI τ P → post v τ) : w_T_X7_filling post pex σ a b := by
  have C0 := C
  obtain ⟨B, W, T, O, K⟩ := C
  exact law_T_filling O (fun _ => hO) (fun _ _ _ _ => hA) (fun w _ _ _ _ _ => h _ _ (C0.scr (Scr.sn σ w P W)))
theorem cs_set (C : CI σ P) (hA : pex xIA σ) (h : ∀ v τ, CI τ P → post v τ) : w_T_X7_set post pex σ a b := by
  have C0 := C
  obtain ⟨B, W, T, O, K⟩ := C
  exact law_T_set O (fun _ => hA) (fun _ _ => h _ _ (C0.scr (Scr.set _ _ _)))
theorem cs_desk (C : CI σ P) (hA : pex xIA σ) (h : ∀ v τ, CI τ P → post v τ) : w_T_X7_desk post pex σ a := by
  have C0 := C
  obtain ⟨B, W, T, O, K⟩ := C
  exact law_T_desk O (fun _ => hA) (fun _ _ _ => h _ _ C0)
theorem cs_wouldLose (C : CI σ P) (hO : pex xIO σ) (hA : pex xIA σ) (h : ∀ v τ, CI τ P → post v τ) : w_T_X7_wouldLose post pex σ a b := by
  have C0 := C
  obtain ⟨B, W, T, O, K⟩ := C
  exact law_T_wouldLose O (fun _ => hO) (fun _ _ _ _ => hA) (fun p d _ _ _ _ _ => h _ _ (C0.scr (Scr.sw σ P W p (nI d) W)))
theorem cs_plan (C : CI σ P) (hA : pex xIA σ) (h : ∀ v τ, CI τ P → post v τ) : w_T_X7_plan post pex σ a b := by
  have C0 := C
  obtain ⟨B, W, T, O, K⟩ := C
  exact law_T_plan O (fun _ => hA) (fun _ _ _ => h _ _ (C0.scr (Scr.pl σ P W _ _)))
theorem cs_wouldCancel (C : CI σ P) (hO : pex xIO σ) (hS : pex xIS σ) (h : ∀ v τ, CI τ P → post v τ) : w_T_X7_wouldCancel post pex σ a := by
  have C0 := C
  obtain ⟨B, W, T, O, K⟩ := C
  exact law_T_wouldCancel O (fun _ => hO) (fun _ _ _ _ => hS) (fun _ _ _ _ => h _ _ C0)
theorem cs_key (C : CI σ P) (hO : pex xIO σ) (h : ∀ v τ, CI τ P → post v τ) : w_T_X7_key post pex σ a := by
  have C0 := C
  obtain ⟨B, W, T, O, K⟩ := C
  exact law_T_key O (fun _ => hO) (fun w _ _ => h _ _ (C0.scr (Scr.sn σ w P W)))
theorem cs_isSound (C : CI σ P) (h : ∀ v τ, CI τ P → post v τ) : w_X7_isSound post σ := by
  have C0 := C
  obtain ⟨B, W, T, O, K⟩ := C
  exact law_isSound O (h _ _ C0)
theorem cs_digest {post : Int64 → MS → Prop} (C : CI σ P) (h : ∀ v τ, CI τ P → post v τ) : w_N_X7_digest post σ := by
  have C0 := C
  obtain ⟨B, W, T, O, K⟩ := C
  exact law_N_digest O (K.ok O.hW) (fun τ hs => h _ _ (C0.scr hs))
theorem vp_nat {x : Int32} {n : Nat} (h : vp_in x n) (hn : n < 2 ^ 31) : ∃ v, v < n ∧ x = nI v := by
  have h0 : ¬ x < 0 := fun z => h (Or.inl z)
  obtain ⟨v, hv, rfl⟩ := nI_of h0
  have := vlt h
  rw [nI_clamp (by omega)] at this
  exact ⟨v, this, rfl⟩
theorem cs_tell {post : MS → Prop} (C : CI σ P) (hO : pex xIO σ) (h : ∀ τ, CI τ P → post τ) : w_T_X7_tell post pex σ a := by
  have C0 := C
  obtain ⟨B, W, T, O, K⟩ := C
  have hW := O.hW
  unfold w_T_X7_tell
  refine law_T_checkWedding O (fun w hw ew => ?_) (fun _ => hO)
  obtain ⟨dd, hd, ed⟩ := vp_nat (O.day w (by omega)) (by decide)
  obtain ⟨t, ht, et⟩ := vp_nat (O.town w (by omega)) (by decide)
  exact ⟨w, dd, t, P, by omega, ew, by omega, ed, by omega, et, O.hP, O.h6, h _ C0⟩
theorem cs_songs {post : MS → Prop} (C : CI σ P) (hO : pex xIO σ) (h : ∀ τ, CI τ P → post τ) : w_T_X7_songs post pex σ a := by
  have C0 := C
  obtain ⟨B, W, T, O, K⟩ := C
  have hW := O.hW
  unfold w_T_X7_songs
  refine law_T_checkWedding O (fun w hw ew => ⟨w, by omega, ew, law_playableFor O.h6 O.hP (law_choose ?_)⟩) (fun _ => hO)
  obtain ⟨l, hl, el, hr⟩ := cho_row σ (playF σ (σ (73 + w) 8) P)
  refine ⟨l, hl, el, fun j hj => ?_, h _ (C0.scr (Scr.cho _ _))⟩
  obtain ⟨v, hv, e⟩ := vp_nat (hr j hj) (by decide)
  exact ⟨v, by omega, e⟩
/-- player: which of the four it is -/
theorem cs_player (C : CI σ P)
    (hx : ¬ (0 ≤ c ∧ c < 6) → pex xIO σ) (hq : (0 ≤ c ∧ c < 6) → ¬ plOk a b d → pex xIA σ) (hf : (0 ≤ c ∧ c < 6) → plOk a b d → P = 10 → pex xIS σ)
    (h : ∀ τ, (0 ≤ c ∧ c < 6) → plOk a b d → P < 10 → CI τ (P + 1) → post (nI P) τ) : w_T_X7_player post pex σ a b c d := by
  obtain ⟨B, W, T, O, K⟩ := C
  refine law_T_player O hx hq hf (fun h1 h2 h3 => h _ h1 h2 h3 (.of (O.tel h1 h3) (fun w hw => inP_up h3 ?_)))
  unfold telP
  rw [up2_ne (by omega), up2_ne (by omega), up2_ne (by omega), up2_ne (by omega), up2_ne (by omega)]
  exact K w hw
end CSAFE
