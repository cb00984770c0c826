/-! TEXTS: the reference's calls beside a StringBuilder -/
section RGS
variable {p : Program} {l : Launch} {e : Env} {R : Room} {s : State} {m : MethodId} {args : Array Value} {below : List Frame} {meth : Method} {c : Code} {H H1 : Heap} {locs locs1 : List Loc} {cells slots : Nat} {Q : State → Prop}
variable {cc bytes : ByteArray} {pc nL maxL mc ms n index k kb ob : Nat} {ls : Array Slot} {ST rest As : List Value} {D : va_G} {cy : Nat → ClassId} {lay : Nat → Nat} {Γ : RG} {σ σ' : MS} {A : Nat → Prop} {Ts ws : List Cond} {own host : String} {y : MethodName} {ret : Option FieldType} {rm : Room}
theorem sb_sub (S : sbW D cy (gU lay k ob) (rX cy lay Γ tn σ) A s.heap H locs k kb n) (hk : 64 ≤ k) (hkb : 64 ≤ kb) : rG D cy lay Γ tn σ A s.heap H locs := by
  obtain ⟨L, m1, a, ml, hf1, hm, hnm, hL, G⟩ := S
  exact g_rg (fun i hi => sbX_o (by omega) (by omega)) (fun i hi => by rw [gU_out hL (by omega), gU_ne (by omega)]) G
/-- a call of the reference's, the StringBuilder stays -/
theorem sb_back0 (S : sbW D cy (gU lay k ob) (rX cy lay Γ tn σ) A s.heap H locs k kb n) (hk : 64 ≤ k) (hkb : 64 ≤ kb) (hk2 : k < 128) (hkb2 : kb < 128) (hne : kb ≠ k) {t : State} (hO : rO D cy lay Γ σ' t) (ht : t.heap = H1) (hkeep : ∀ q : Nat, q < H.size → ¬ rA cy lay Γ H.size q → H1[q]? = H[q]?) (hS : va_S A s.heap H1 locs1) :
    ∃ (L : Nat → Nat) (m : Nat) (a : Nat → Int32) (ml : Int32), sb_Fit a ∧ capOk m ∧ n ≤ m ∧ gU (gU lay k ob) kb (L kb) = L ∧ gG D L (sbX cy (rX cy lay Γ tn σ') k kb (L kb) m a (nI n) ml) A s.heap H1 locs1 ∧ ∀ i e, i < 128 → sbX cy (rX cy lay Γ tn σ') k kb (L kb) m a (nI n) ml i = some e → L i < H.size := by
  obtain ⟨L, m1, a, ml, hf1, hm, hnm, hL, G⟩ := S
  have lo : ∀ i, i < 64 → L i = lay i := fun i hi => by rw [gU_out hL (by omega), gU_ne (by omega)]
  have old : ∀ i e, sbX cy (rX cy lay Γ tn σ') k kb (L kb) m1 a (nI n) ml i = some e → ((i = k ∨ i = kb) ∧ sbX cy (rX cy lay Γ tn σ) k kb (L kb) m1 a (nI n) ml i = some e) ∨ (i < 64 ∧ rX cy lay Γ tn σ' i = some e ∧ ∃ e0, sbX cy (rX cy lay Γ tn σ) k kb (L kb) m1 a (nI n) ml i = some e0) := fun i e h => by
    by_cases c1 : i = k
    · subst c1
      rw [sbX_k] at h
      exact Or.inl ⟨Or.inl rfl, by rw [sbX_k]; exact h⟩
    · by_cases c2 : i = kb
      · subst c2
        rw [sbX_b hne] at h
        exact Or.inl ⟨Or.inr rfl, by rw [sbX_b hne]; exact h⟩
      · rw [sbX_o c1 c2] at h
        by_cases c3 : i < 64
        · refine Or.inr ⟨c3, h, ?_⟩
          rw [sbX_o c1 c2]
          have h1 : (rX cy lay Γ tn σ i).isSome = true := by
            rw [r_some (lay' := lay) (tm' := tn) (σ' := σ') c3, h]
            rfl
          exact Option.isSome_iff_exists.mp h1
        · rw [r_tm (by omega)] at h
          cases h
  have was : ∀ i e, sbX cy (rX cy lay Γ tn σ') k kb (L kb) m1 a (nI n) ml i = some e → ∃ e0, sbX cy (rX cy lay Γ tn σ) k kb (L kb) m1 a (nI n) ml i = some e0 := fun i e h => by
    rcases old i e h with ⟨_, h⟩ | ⟨_, _, h⟩
    · exact ⟨e, h⟩
    · exact h
  refine ⟨L, m1, a, ml, hf1, hm, hnm, hL, ⟨fun i e hi h => ?_, ⟨fun i j e f hi hj h1 h2 he => ?_, fun i e hi h => ?_⟩, hS⟩, fun i e hi h => ?_⟩
  · rcases old i e h with ⟨ci, h0⟩ | ⟨ci, h0, _⟩
    · have hat := G.1 i e hi h0
      refine hat.kept (hkeep _ hat.lt ?_)
      rintro (⟨j, hj, hx, hq⟩ | hq)
      · rw [r_some (lay' := lay) (tm' := tn) (σ' := σ) hj] at hx
        obtain ⟨e1, he1⟩ := Option.isSome_iff_exists.mp hx
        have := G.2.1.1 i j e e1 hi (by omega) h0 ((sbX_o (by omega) (by omega)).trans he1) (by rw [lo j hj]; exact hq)
        omega
      · have hlt : L i < H.size := hat.lt
        omega
    · have hat := hO.1 i e hi h0
      rw [ht] at hat
      rw [lo i ci]
      exact hat
  · obtain ⟨e0, h1⟩ := was i e h1
    obtain ⟨f0, h2⟩ := was j f h2
    exact G.2.1.1 i j e0 f0 hi hj h1 h2 he
  · obtain ⟨e0, h⟩ := was i e h
    exact G.2.1.2 i e0 hi h
  · obtain ⟨e0, h⟩ := was i e h
    exact (G.1 i e0 hi h).lt
/-- an element of a list, beside a StringBuilder -/
theorem sb_rr {post : Nat → MS → Prop} {f : Nat → Nat} {as : Array Value} (S : sbW D cy (gU lay k ob) (rX cy lay Γ tn σ) (rA cy lay Γ s.heap.size) s.heap H locs k kb n) (hk : 64 ≤ k) (hkb : 64 ≤ kb) (hk2 : k < 128) (hkb2 : kb < 128) (hne : kb ≠ k) (hr : va_Run p l e R s m args below meth c H locs cells slots mc ms (F0 m pc ls ST) rest (rQ post f D cy lay Γ (rA cy lay Γ H.size) as) (rA cy lay Γ H.size))
    (kk : ∀ (i : Nat) (σ' : MS) (H1 : Heap) (locs1 : List Loc), post i σ' → sbW D cy (gU lay k ob) (rX cy lay Γ tn σ') (rA cy lay Γ s.heap.size) s.heap H1 locs1 k kb n → W p l e R s m args below meth c H1 locs1 (cells + mc) (slots + ms) Q (F0 m (pc + 3) ls (.ref (f i) :: rest))) : W p l e R s m args below meth c H locs cells slots Q (F0 m pc ls ST) := by
  have hSS : va_S (rA cy lay Γ s.heap.size) s.heap H locs := (sb_sub S hk hkb).2.2
  refine va_callr hr hSS (fun q _ h => rA_le hSS.1 q h) (rA_le hSS.1) (fun u ra t H1 locs1 ht hvm hw hB hz hk3 hS => ?_)
  obtain ⟨e1, hO⟩ := hB
  rw [e1]
  obtain ⟨L, m1, a, ml, g1, g2, g3, g4, g5, -⟩ := sb_back0 S hk hkb hk2 hkb2 hne hO ht hk3 hS
  exact kk u.1 u.2 H1 locs1 hw ⟨L, m1, a, ml, g1, g2, g3, g4, g5⟩
/-- a new row, beside a StringBuilder -/
theorem sb_rA {post : Nat → (Nat → Int32) → MS → Prop} {as : Array Value} (S : sbW D cy (gU lay k ob) (rX cy lay Γ tn σ) (rA cy lay Γ s.heap.size) s.heap H locs k kb n) (hk : 64 ≤ k) (hkb : 64 ≤ kb) (hk2 : k < 128) (hkb2 : kb < 128) (hne : kb ≠ k) {kr : Nat} (hkr : 64 ≤ kr) (hkr2 : kr < 128) (hr1 : kr ≠ k) (hr2 : kr ≠ kb) (hr : va_Run p l e R s m args below meth c H locs cells slots mc ms (F0 m pc ls ST) rest (rQA post D cy lay Γ H.size (rA cy lay Γ H.size) as) (rA cy lay Γ H.size))
    (kk : ∀ (N : Nat) (f : Nat → Int32) (σ' : MS) (q : Nat) (H1 : Heap) (locs1 : List Loc), post N f σ' → sbW D cy (gU (gU lay k ob) kr q) (gU (rX cy lay Γ tn σ') kr (some (.inl (cy 0, N, .inl f)))) (rA cy lay Γ s.heap.size) s.heap H1 locs1 k kb n → W p l e R s m args below meth c H1 locs1 (cells + mc) (slots + ms) Q (F0 m (pc + 3) ls (.ref q :: rest))) : W p l e R s m args below meth c H locs cells slots Q (F0 m pc ls ST) := by
  have hSS : va_S (rA cy lay Γ s.heap.size) s.heap H locs := (sb_sub S hk hkb).2.2
  refine va_callr hr hSS (fun q _ h => rA_le hSS.1 q h) (rA_le hSS.1) (fun u ra t H1 locs1 ht hvm hw hB hz hk3 hS => ?_)
  obtain ⟨⟨hra, hat⟩, hO⟩ := hB
  obtain ⟨L, m1, a, ml, g1, g2, g3, g4, G, g6⟩ := sb_back0 S hk hkb hk2 hkb2 hne hO ht hk3 hS
  rw [ht] at hat
  refine kk u.1.1 u.1.2 u.2 ra H1 locs1 hw ⟨gU L kr ra, m1, a, ml, g1, g2, g3, ?_, ?_⟩
  · rw [gU_ne (Ne.symm hr2)]
    funext i
    by_cases c1 : i = kr
    · subst c1
      rw [gU_ne hr2, gU_eq, gU_eq]
    · rw [gU_ne c1]
      by_cases c2 : i = kb
      · subst c2
        rw [gU_eq]
      · rw [gU_ne c2, gU_ne c1, gU_out g4 c2]
  · rw [gU_ne (Ne.symm hr2)]
    have hX : ∀ i, i ≠ kr → sbX cy (gU (rX cy lay Γ tn u.2) kr (some (.inl (cy 0, u.1.1, .inl u.1.2)))) k kb (L kb) m1 a (nI n) ml i = sbX cy (rX cy lay Γ tn u.2) k kb (L kb) m1 a (nI n) ml i := fun i hi => by
      by_cases c1 : i = k
      · subst c1; rw [sbX_k, sbX_k]
      · by_cases c2 : i = kb
        · subst c2; rw [sbX_b hne, sbX_b hne]
        · rw [sbX_o c1 c2, sbX_o c1 c2, gU_ne hi]
    have hXr : sbX cy (gU (rX cy lay Γ tn u.2) kr (some (.inl (cy 0, u.1.1, .inl u.1.2)))) k kb (L kb) m1 a (nI n) ml kr = some (.inl (cy 0, u.1.1, .inl u.1.2)) := (sbX_o hr1 hr2).trans gU_eq
    refine ⟨fun i e hi h => ?_, ⟨fun i j e f hi hj h1 h2 he => ?_, fun i e hi h => ?_⟩, G.2.2⟩
    · by_cases c1 : i = kr
      · subst c1
        rw [hXr] at h
        cases h
        rw [gU_eq]
        exact hat
      · rw [hX i c1] at h
        rw [gU_ne c1]
        exact G.1 i e hi h
    · by_cases c1 : i = kr
      · by_cases c2 : j = kr
        · omega
        · subst c1
          rw [hX j c2] at h2
          rw [gU_eq, gU_ne c2] at he
          have := g6 j f hj h2
          omega
      · rw [hX i c1] at h1
        by_cases c2 : j = kr
        · subst c2
          rw [gU_eq, gU_ne c1] at he
          have := g6 i e hi h1
          omega
        · rw [hX j c2] at h2
          rw [gU_ne c1, gU_ne c2] at he
          exact G.2.1.1 i j e f hi hj h1 h2 he
    · by_cases c1 : i = kr
      · subst c1
        rw [gU_eq]
        exact rA_le hSS.1 ra (Or.inr hra)
      · rw [hX i c1] at h
        rw [gU_ne c1]
        exact G.2.1.2 i e hi h
theorem sb_alen {X : Nat → Option va_E} {j N : Nat} (hC : CallFix p m c cc nL s args Ts own) (hT : tB D cy A s s.heap) (S : sbW D cy lay X A s.heap H locs k kb n) (hj : j < 128) (hjk : j ≠ k) (hjb : j ≠ kb) {f : Nat → Int32} (he : X j = some (.inl (cy 0, N, .inl f))) (hdg : decode cc pc = .ok (.arraylength, 1))
    (kk : W p l e R s m args below meth c H locs cells slots Q (F0 m (pc + 1) ls (.int (nI N) :: rest))) : W p l e R s m args below meth c H locs cells slots Q (F0 m pc ls (.ref (lay j) :: rest)) := by
  obtain ⟨L, m1, a, ml, hf1, hm, hnm, hL, G⟩ := S
  rw [← gU_out hL hjb]
  obtain ⟨q0, hq⟩ := gW_pos (lay := L) hj ((sbX_o hjk hjb).trans he)
  exact va_alen hC.1 hC.2.1 hT.1 (gP_list G.1) q0 0 hq rfl rfl hdg kk
end RGS
