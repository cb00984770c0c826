/-! THE REFERENCE: a walker made; the same in the reference's world -/
theorem hdI_IT : yJx35411_init_45d68.cls ≠ "java/lang/invoke/MethodHandle" ∧ yJx35411_init_45d68.cls ≠ "java/lang/invoke/VarHandle" ∧ (parseMethodDescriptor yJx35411_init_45d68.desc).map (fun d => d.parameters.length) = some 1 := by decide +kernel
set_option maxHeartbeats 4000000 in
set_option maxRecDepth 100000 in
theorem c_it_init (l : Launch) (D : va_G) (cy : Nat → ClassId) (lay : Nat → Nat) (X : Nat → Option va_E) {ki kl : Nat} (hki : ki < 128) (hkl : kl < 128) (hne : kl ≠ ki) {mo n : Int32} {e : Value} (h1 : X ki = some (.inr (3, [.int 0, .int 0, .int 0, .null]))) (h2 : X kl = some (.inr (4, [.int mo, e, .int n]))) (sz : Nat) : Met l yJx35411_init_45d68 wsJx35411_init_45d68 rm_iti (va_Pc [.ref (lay ki), .ref (lay kl)] (hI D cy lay X sz)) (va_Qv (fun Y : GY => Y = (lay, gU X ki (some (itE lay kl 0 (-1) mo)))) (gO D (gA lay X sz)) (gA lay X sz)) 0 0 (gA lay X sz) := by
  refine h_ofW (cc := cJx35411_init_45d68) (maxL := 2) (ret := none) (own := RJx35411) (Qc := fun sz => va_Qv (fun Y : GY => Y = (lay, gU X ki (some (itE lay kl 0 (-1) mo)))) (gO D (gA lay X sz)) (gA lay X sz)) (by decide) rfl (Nat.le_of_ble_eq_true rfl) rfl ?_
  intro p e0 s m args below meth c ls hC hr hlocks hname hT G hl
  have hl : lv_has ls 2 [(0, .ref (lay ki)), (1, .ref (lay kl))] := hl
  refine lv_aload_n hC.1 hC.2.1 dJx35411_init_45d68_0 rfl (lv_at hl 0 rfl) ?_
  refine lv_aload_n hC.1 hC.2.1 dJx35411_init_45d68_1 rfl (lv_at hl 1 rfl) ?_
  refine g_putF hC hT.1 G hki h1 k_IT i_iti_I 3 (by decide) (wm 1 rfl) rfl hname rfl rfl rfl (by simp) dJx35411_init_45d68_2 (fun H locs G => ?_)
  have G : gG D lay (gU X ki (some (itE lay kl 0 0 0))) _ s.heap H locs := G
  refine lv_aload_n hC.1 hC.2.1 dJx35411_init_45d68_5 rfl (lv_at hl 0 rfl) ?_
  refine W.objInit hC.1 hC.2.1 hC.2.2.2.1 (hC.2.2.2.2 _ (wm 2 rfl)) (hC.2.2.2.2 _ (wm 3 rfl)) (hC.2.2.2.2 _ (wm 4 rfl)) rfl (by rw [hC.2.2.1]; exact hl.1) rfl dJx35411_init_45d68_6 (Nat.le_of_ble_eq_true rfl) (Nat.le_of_ble_eq_true rfl) ?_
  refine W.eq (g2 := F0 m 9 ls []) rfl ?_
  refine lv_aload_n hC.1 hC.2.1 dJx35411_init_45d68_9 rfl (lv_at hl 0 rfl) ?_
  refine lv_iconst (v := (-1)) hC.1 hC.2.1 dJx35411_init_45d68_10 (by decide) ?_
  refine g_put hC hT.1 G hki gU_eq k_IT i_iti_I 1 (by decide) (wm 5 rfl) rfl rfl rfl (by simp) dJx35411_init_45d68_11 (fun H locs G => ?_)
  have G : gG D lay (gU X ki (some (itE lay kl 0 (-1) 0))) _ s.heap H locs := gG_up2 G
  refine lv_aload_n hC.1 hC.2.1 dJx35411_init_45d68_14 rfl (lv_at hl 0 rfl) ?_
  refine lv_aload_n hC.1 hC.2.1 dJx35411_init_45d68_15 rfl (lv_at hl 0 rfl) ?_
  refine g_get hC hT.1 G hki gU_eq k_IT i_iti_I 3 (by decide) (wm 1 rfl) rfl dJx35411_init_45d68_16 ?_
  refine g_getS hC hT.1 G hkl ((gU_ne hne).trans h2) k_AL i_iti_L 0 (by decide) (wm 6 rfl) (wm 7 rfl) rfl dJx35411_init_45d68_19 ?_
  refine g_put hC hT.1 G hki gU_eq k_IT i_iti_I 2 (by decide) (wm 8 rfl) rfl rfl rfl (by simp) dJx35411_init_45d68_22 (fun H locs G => ?_)
  have G : gG D lay (gU X ki (some (itE lay kl 0 (-1) mo))) _ s.heap H locs := gG_up2 G
  exact g_vret (Y := (lay, gU X ki (some (itE lay kl 0 (-1) mo)))) hC hr hlocks G rfl dJx35411_init_45d68_25
set_option maxHeartbeats 4000000 in
set_option maxRecDepth 100000 in
theorem c_it_make (l : Launch) (D : va_G) (cy : Nat → ClassId) (lay : Nat → Nat) (X : Nat → Option va_E) {ki kl : Nat} (hki : ki < 128) (hkl : kl < 128) (hne : kl ≠ ki) {mo n : Int32} {e : Value} (h1 : X ki = none) (h2 : X kl = some (.inr (4, [.int mo, e, .int n]))) (sz : Nat) : Met l yJx4a65c_iterator_32c93 wsJx4a65c_iterator_32c93 rm_itr (va_Pc [.ref (lay kl)] (hI D cy lay X sz)) (va_Qr (S := GY) (fun Y => ∃ q, sz ≤ q ∧ Y = (gU lay ki q, gU X ki (some (itE lay kl 0 (-1) mo)))) (fun Y a t => a = Y.1 ki ∧ gO D (gA lay X sz) Y t) (gA lay X sz)) 1 4 (gA lay X sz) := by
  refine h_ofW (cc := cJx4a65c_iterator_32c93) (maxL := 1) (ret := some (.object "java/util/Iterator")) (own := RJx4a65c) (Qc := fun sz => va_Qr (S := GY) (fun Y => ∃ q, sz ≤ q ∧ Y = (gU lay ki q, gU X ki (some (itE lay kl 0 (-1) mo)))) (fun Y a t => a = Y.1 ki ∧ gO D (gA lay X sz) Y t) (gA lay X sz)) (by decide) rfl (Nat.le_of_ble_eq_true rfl) rfl ?_
  intro p e0 s m args below meth c ls hC hr hlocks hname hT G hl
  have hl : lv_has ls 1 [(0, .ref (lay kl))] := hl
  have hA : ∀ q, s.heap.size ≤ q → gA lay X s.heap.size q := fun _ h => Or.inr h
  refine va_new hC.1 hC.2.1 hC.2.2.2.2 i_itr_I tyJx35411 k_IT.2.1 hC.2.2.2.1 (hC.2.2.2.2 _ (wm 1 rfl)) (hC.2.2.2.2 _ (wm 2 rfl)) (hC.2.2.2.2 _ (wm 3 rfl)) hT.1 (gP_list G.1) (gI_list G.2.1) G.2.2 hA k_IT.1 (fs := [.int 0, .int 0, .int 0, .null]) (by decide) (Nat.le_of_ble_eq_true rfl) (Nat.le_of_ble_eq_true rfl) dJx4a65c_iterator_32c93_0 (fun q H hP hD hS => ?_)
  have hq : s.heap.size ≤ q := by
    rcases (gI_new G.2.1 h1 hD).2 ki _ hki gU_eq with ⟨j, x, hj, hx, hh⟩ | z
    · rw [gU_eq] at hh
      have hjk : j ≠ ki := fun z => by rw [z, h1] at hx; cases hx
      have := (gI_new G.2.1 h1 hD).1 ki j _ x hki hj gU_eq (by rw [gU_ne hjk]; exact hx) (by rw [gU_eq, gU_ne hjk]; exact hh)
      exact absurd this.symm hjk
    · rw [gU_eq] at z; exact z
  have G1 : gG D (gU lay ki q) (gU X ki (some (.inr (3, [.int 0, .int 0, .int 0, .null])))) (gA lay X s.heap.size) s.heap H [] := ⟨gP_new h1 hP, gI_new G.2.1 h1 hD, hS⟩
  refine lv_dup hC.1 hC.2.1 dJx4a65c_iterator_32c93_3 rfl ?_
  refine lv_aload_n hC.1 hC.2.1 dJx4a65c_iterator_32c93_4 rfl (lv_at hl 0 rfl) ?_
  have e1 : gU lay ki q ki = q := gU_eq
  have e2 : gU lay ki q kl = lay kl := gU_ne hne
  have hM := c_it_init l D cy (gU lay ki q) (gU X ki (some (.inr (3, [.int 0, .int 0, .int 0, .null])))) hki hkl hne gU_eq ((gU_ne hne).trans h2) H.size
  rw [e1, e2] at hM
  refine g_v G1 hA (h_runI (b := q) (As := [.ref (lay kl)]) (rest := [.ref q]) hC hT G1 hM ⟨callB_of 1 hC.2.2.2.2 ggJx4a65c_iterator_32c93_Jx35411_init_45d68 rfl rfl rfl (hC.2.2.2.2 (.initialized RJx35411) (wm 3 rfl)) (hC.2.2.2.2 (.methodLink RJx4a65c 269 yJx35411_init_45d68) (wm 4 rfl)) hdI_IT ⟨Nat.le_of_ble_eq_true rfl, Nat.le_of_ble_eq_true rfl⟩, rfl, hC.2.2.2.2 (.instanceMethod yJx35411_init_45d68) (wm 5 rfl)⟩ rfl hl.1 rfl (Nat.le_of_ble_eq_true rfl) dJx4a65c_iterator_32c93_5 ⟨Nat.le_of_ble_eq_true rfl, Nat.le_of_ble_eq_true rfl⟩) (fun Y H locs hY G => ?_)
  subst hY
  have G : gG D (gU lay ki q) (gU X ki (some (itE lay kl 0 (-1) mo))) (gA lay X s.heap.size) s.heap H locs := by
    have := gG_up2 G
    rw [show itE (gU lay ki q) kl 0 (-1) mo = itE lay kl 0 (-1) mo by unfold itE; rw [e2]] at this
    exact this
  exact W.aret (v := .ref q) hC.1 hC.2.1 hr (Or.inl ⟨_, rfl⟩) (Or.inr ⟨_, rfl⟩) (fun t ht hW => ⟨⟨(gU lay ki q, gU X ki (some (itE lay kl 0 (-1) mo))), q, rfl, ⟨q, hq, rfl⟩, e1.symm, by rw [ht]; exact G.1, G.2.1⟩, G.2.2.F ht⟩) G.2.2.2.2 dJx4a65c_iterator_32c93_8 hlocks
/-! in the reference's world: the walker over the weddings, in cell k -/
section RIT
variable {p : Program} {l : Launch} {e : Env} {R : Room} {s : State} {m : MethodId} {args : Array Value} {below : List Frame} {meth : Method} {c : Code} {H : Heap} {locs : List Loc} {cells slots : Nat} {Q : State → Prop}
variable {cc bytes : ByteArray} {pc nL maxL mc ms n index count : Nat} {ls : Array Slot} {ST rest As : List Value} {D : va_G} {cy : Nat → ClassId} {lay : Nat → Nat} {Γ : RG} {tm : Nat → Option (Nat × Nat)} {σ : MS} {Ts ws : List Cond} {own Cn host : String} {y : MethodName} {ret : Option FieldType} {rm : Room} {b : Addr}
variable {Qc : Array Value → State → Outcome → State → Prop} {free : Addr → Prop}
def itR (mo : Int32) : Nat → Int32 := fun j => if j = 1 then -1 else if j = 2 then mo else 0
theorem gA_rA (hT : rT D cy lay Γ s) (G : rG D cy lay Γ tm σ (rA cy lay Γ s.heap.size) s.heap H locs) : ∀ q, gA lay (rX cy lay Γ tm σ) H.size q → rA cy lay Γ s.heap.size q := gA_in G (fun _ h => Or.inr h)
theorem rg_iter {Q : (Nat → Nat) → State → Prop} (hQ : QL Q) (hC : CallFix p m c cc nL s args Ts own) (hT : rT D cy lay Γ s) (G : rG D cy lay Γ tm σ (rA cy lay Γ s.heap.size) s.heap H locs) (hO : tmO tm) {k : Nat} (hk : 64 ≤ k) (hk2 : k < 128) (hX : tm k = none) (cw : CallW R s args own RJx4a65c index yJx4a65c_iterator_32c93 cJx4a65c_iterator_32c93 1 (some (.object "java/util/Iterator")) wsJx4a65c_iterator_32c93 rm_itr 1 4 0)
    (hls : ls.size = nL) (hW : (rest.map fun v => v.category).sum ≤ 8) (hdg : decode cc pc = .ok (.invokevirtual index, 3)) (hf : cells + 1 ≤ R.cells ∧ slots + 4 ≤ R.slots)
    (kk : ∀ (lay' : Nat → Nat), (∀ j, j ≠ k → lay' j = lay j) → rT D cy lay' Γ s → ∀ (H1 : Heap) (locs1 : List Loc), rG D cy lay' Γ (gU tm k (some (2, 3))) (rw0 σ k (itR (σ 3 0))) (rA cy lay' Γ s.heap.size) s.heap H1 locs1 → W p l e R s m args below meth c H1 locs1 (cells + 1) (slots + 4) (Q lay') (F0 m (pc + 3) ls (.ref (lay' k) :: rest))) : W p l e R s m args below meth c H locs cells slots (Q lay) (F0 m pc ls (.ref (lay 3) :: rest)) := by
  have hX0 : rX cy lay Γ tm σ k = none := by rw [r_tm hk, hX]; rfl
  refine va_callr (h_runV (As := []) (rest := rest) hC ⟨hT.1, hT.2.1⟩ G (c_it_make l D cy lay (rX cy lay Γ tm σ) hk2 (by decide) (by omega) hX0 r_lw H.size) cw (rg_recv hT G (by decide) r_lw k_AL) rfl hls rfl hW hdg hf) G.2.2 (fun q _ h => gA_rA hT G q h) (gA_rA hT G) (fun Y ra t H1 locs1 ht hvm hw hB hz hk3 hS => ?_)
  obtain ⟨q, hq, rfl⟩ := hw
  obtain ⟨e1, hO1⟩ := hB
  have e1 : ra = q := e1.trans gU_eq
  subst e1
  have hl : ∀ j, j ≠ k → gU lay k ra j = lay j := fun j hj => gU_ne hj
  have hL : Lsm lay (gU lay k ra) := fun j hj => hl j (by omega)
  have hG : gG D (gU lay k ra) (gU (rX cy lay Γ tm σ) k (some (itE lay 3 0 (-1) (σ 3 0)))) (rA cy lay Γ s.heap.size) s.heap H1 locs1 := ⟨by rw [← ht]; exact hO1.1, gI_weak hO1.2 (gA_rA hT G), hS⟩
  have h := kk (gU lay k ra) hl (rT_lay hL hT) H1 locs1 (by
    rw [rA_lay hL]
    exact gG_eq (fun j _ => rX_new (t := (2, 3)) (f := itR (σ 3 0)) hT.2.2.2 hk (Or.inr (Nat.le_of_ble_eq_true rfl)) hl hO j) hG)
  rw [hQ lay _ hL, gU_eq] at h
  exact h
theorem r_it {k : Nat} (hk : 64 ≤ k) (h : tm k = some (2, 3)) : rX cy lay Γ tm σ k = some (itE lay 3 (σ k 0) (σ k 1) (σ k 2)) := by
  rw [r_tm hk, h]
  rfl
theorem rg_hasNext (hC : CallFix p m c cc nL s args Ts own) (hT : rT D cy lay Γ s) (G : rG D cy lay Γ tm σ (rA cy lay Γ s.heap.size) s.heap H locs) {k : Nat} (hk : 64 ≤ k) (hk2 : k < 128) (hX : tm k = some (2, 3)) (cw : va_CI R s args own RJx35411 index ⟨"java/util/Iterator", "hasNext", "()Z"⟩ yJx35411_hasNext_aae02 cJx35411_hasNext_aae02 1 (some .boolean) wsJx35411_hasNext_aae02 rm_it0 0 0 0)
    (hls : ls.size = nL) (hW : (rest.map fun v => v.category).sum ≤ 8) (hdg : decode cc pc = .ok (.invokeinterface index count, 5)) (hf : cells + 0 ≤ R.cells ∧ slots + 0 ≤ R.slots)
    (kk : ∀ (H1 : Heap) (locs1 : List Loc), rG D cy lay Γ tm σ (rA cy lay Γ s.heap.size) s.heap H1 locs1 → W p l e R s m args below meth c H1 locs1 (cells + 0) (slots + 0) Q (F0 m (pc + 5) ls (.int (b01 (!decide (σ k 0 = σ 3 2))) :: rest))) : W p l e R s m args below meth c H locs cells slots Q (F0 m pc ls (.ref (lay k) :: rest)) :=
  va_callFi (h_runF (As := []) (rest := rest) (hT.1.1 3 _ k_IT.1).2 hC ⟨hT.1, hT.2.1⟩ G (c_it_hasNext l D cy lay (rX cy lay Γ tm σ) hk2 (by decide) (r_it hk hX) r_lw H.size) cw (h_recv ⟨hT.1, hT.2.1⟩ G hk2 (r_it hk hX) k_IT) rfl hls rfl hW hdg hf) G.2.2 (fun q _ h => gA_rA hT G q h) (gA_rA hT G) (fun r Y t H1 locs1 ht hvm hw hB hz hk3 hS => by
    obtain ⟨e1, e2⟩ := hw
    subst e1
    subst e2
    exact kk H1 locs1 ⟨by rw [← ht]; exact hB.1, gI_weak hB.2 (gA_rA hT G), hS⟩)
theorem rg_next (hC : CallFix p m c cc nL s args Ts own) (hT : rT D cy lay Γ s) (G : rG D cy lay Γ tm σ (rA cy lay Γ s.heap.size) s.heap H locs) {k ci : Nat} (hk : 64 ≤ k) (hk2 : k < 128) (hX : tm k = some (2, 3)) (h0 : σ k 0 = nI ci ∧ ci < Γ.2.2.1) (h2 : σ k 2 = σ 3 0) (h3 : σ 3 2 = nI Γ.2.2.1) (cw : va_CI R s args own RJx35411 index ⟨"java/util/Iterator", "next", "()Ljava/lang/Object;"⟩ yJx35411_next_0502b cJx35411_next_0502b 3 (some (.object "java/lang/Object")) wsJx35411_next_0502b rm_itn 0 0 0)
    (hls : ls.size = nL) (hW : (rest.map fun v => v.category).sum ≤ 8) (hdg : decode cc pc = .ok (.invokeinterface index count, 5)) (hf : cells + 0 ≤ R.cells ∧ slots + 0 ≤ R.slots)
    (kk : ∀ (H1 : Heap) (locs1 : List Loc), rG D cy lay Γ tm (up2 (up2 σ k 0 (nI (ci + 1))) k 1 (nI ci)) (rA cy lay Γ s.heap.size) s.heap H1 locs1 → W p l e R s m args below meth c H1 locs1 (cells + 0) (slots + 0) Q (F0 m (pc + 5) ls (.ref (lay (33 + ci)) :: rest))) : W p l e R s m args below meth c H locs cells slots Q (F0 m pc ls (.ref (lay k) :: rest)) := by
  have hne : Γ.2.2.1 ≠ 0 := by omega
  have hB := hT.2.2.2.2.2
  have x1 : rX cy lay Γ tm σ k = some (itE lay 3 (nI ci) (σ k 1) (σ 3 0)) := by rw [r_it hk hX, h0.1, h2]
  have x2 : rX cy lay Γ tm σ 3 = some (.inr (4, [.int (σ 3 0), .ref (lay 6), .int (nI Γ.2.2.1)])) := by
    rw [r_lw, if_neg hne, h3]
  refine va_callFr (h_runF (As := []) (rest := rest) (hT.1.1 3 _ k_IT.1).2 hC ⟨hT.1, hT.2.1⟩ G (c_it_next l D cy lay (rX cy lay Γ tm σ) (q := lay (33 + ci)) hk2 (by decide) (by decide) (by omega) (by omega) x1 x2 (r_ew hne) h0.2 (by split <;> omega) (by split <;> omega) (if_pos h0.2) H.size) cw (h_recv ⟨hT.1, hT.2.1⟩ G hk2 x1 k_IT) rfl hls rfl hW hdg hf) G.2.2 (fun q _ h => gA_rA hT G q h) (gA_rA hT G) (fun Y ra t H1 locs1 ht hvm hw hB2 hz hk3 hS => ?_)
  subst hw
  obtain ⟨e1, hO1⟩ := hB2
  subst e1
  refine kk H1 locs1 ?_
  have hG : gG D lay (gU (rX cy lay Γ tm σ) k (some (itE lay 3 (nI (ci + 1)) (nI ci) (σ 3 0)))) (rA cy lay Γ s.heap.size) s.heap H1 locs1 := ⟨by rw [← ht]; exact hO1.1, gI_weak hO1.2 (gA_rA hT G), hS⟩
  refine gG_eq (fun j _ => ?_) hG
  by_cases hj : j = k
  · subst hj
    rw [gU_eq, r_it hk hX, up2_at (j' := 0) (by omega), up2_same, up2_same, up2_at (j' := 2) (by omega), up2_at (j' := 2) (by omega), h2]
  · rw [gU_ne hj]
    exact (r_loc ((up2_ne hj).trans (up2_ne hj))).symm
end RIT
theorem hdV_Jx4a65c_iterator_32c93 : yJx4a65c_iterator_32c93.cls = RJx4a65c ∧ yJx4a65c_iterator_32c93.cls ≠ "java/lang/invoke/MethodHandle" ∧ yJx4a65c_iterator_32c93.cls ≠ "java/lang/invoke/VarHandle" ∧ (parseMethodDescriptor yJx4a65c_iterator_32c93.desc).map (fun d => d.parameters.length) = some 0 := by decide +kernel
theorem hdF_hasNext : (⟨"java/util/Iterator", "hasNext", "()Z"⟩ : MethodName).cls ≠ "java/lang/invoke/MethodHandle" ∧ (⟨"java/util/Iterator", "hasNext", "()Z"⟩ : MethodName).cls ≠ "java/lang/invoke/VarHandle" ∧ (parseMethodDescriptor (⟨"java/util/Iterator", "hasNext", "()Z"⟩ : MethodName).desc).map (fun d => d.parameters.length) = some 0 := by decide +kernel
theorem hdF_next : (⟨"java/util/Iterator", "next", "()Ljava/lang/Object;"⟩ : MethodName).cls ≠ "java/lang/invoke/MethodHandle" ∧ (⟨"java/util/Iterator", "next", "()Ljava/lang/Object;"⟩ : MethodName).cls ≠ "java/lang/invoke/VarHandle" ∧ (parseMethodDescriptor (⟨"java/util/Iterator", "next", "()Ljava/lang/Object;"⟩ : MethodName).desc).map (fun d => d.parameters.length) = some 0 := by decide +kernel
