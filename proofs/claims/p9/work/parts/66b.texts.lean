/-! TEXTS: walks of StringBuilder, String (66b.texts) -/
set_option maxHeartbeats 4000000 in
set_option maxRecDepth 100000 in
/-- has -/
theorem c_hasS (l : Launch) (D : va_G) (cy : Nat → ClassId) (lay : Nat → Nat) (X : Nat → Option va_E) {a b : Int32} (sz : Nat) : Met l yX7_has wsX7_has (rmS 0 0 0) (va_Pc [.int a, .int b] (sI D cy none lay X sz)) (va_Qi (fun (r : Int32) (Y : GY) => Y = (lay, X)) (gO D (gA lay X sz)) (gA lay X sz)) 0 0 (gA lay X sz) := by
  refine s_ofW (cc := cX7_has) (maxL := 2) (ret := (some .boolean)) (own := RX7) (Qc := fun sz => va_Qi (fun (r : Int32) (Y : GY) => Y = (lay, X)) (gO D (gA lay X sz)) (gA lay X sz)) (by decide) rfl (Nat.le_of_ble_eq_true rfl) rfl ?_
  intro p e0 s m9 args below meth c ls hC hr hlocks hname hT hX G hl
  have hl : lv_has ls 2 [(0, .int a), (1, .int b)] := hl
  have hA : ∀ q, s.heap.size ≤ q → gA lay X s.heap.size q := fun _ h => Or.inr h
  refine lv_iload_n hC.1 hC.2.1 dX7_has_0 rfl (lv_at hl 0 rfl) ?_
  refine lv_iload_n hC.1 hC.2.1 dX7_has_1 rfl (lv_at hl 1 rfl) ?_
  refine lv_ishr hC.1 hC.2.1 dX7_has_2 ?_
  refine lv_iconst (v := 1) hC.1 hC.2.1 dX7_has_3 (by decide) ?_
  refine lv_iand hC.1 hC.2.1 dX7_has_4 ?_
  refine lv_if_eq (tgt := 12) hC.1 hC.2.1 dX7_has_5 (by decide) (fun _ => ?_) (fun _ => ?_)
  · refine lv_iconst (v := 0) hC.1 hC.2.1 dX7_has_12 (by decide) ?_
    exact W.zret (v := 0) hC.1 hC.2.1 hr rfl (fun t ht hW => ⟨⟨0, (lay, X), rfl, rfl, by rw [ht]; exact G.1, G.2.1⟩, G.2.2.F ht⟩) G.2.2.2.2 dX7_has_13 hlocks
  · refine lv_iconst (v := 1) hC.1 hC.2.1 dX7_has_8 (by decide) ?_
    refine lv_goto (tgt := 13) hC.1 hC.2.1 dX7_has_9 (by decide) ?_
    exact W.zret (v := 1) hC.1 hC.2.1 hr rfl (fun t ht hW => ⟨⟨1, (lay, X), rfl, rfl, by rw [ht]; exact G.1, G.2.1⟩, G.2.2.F ht⟩) G.2.2.2.2 dX7_has_13 hlocks
theorem c_nameOf (l : Launch) (D : va_G) (cy : Nat → ClassId) (lay : Nat → Nat) (X : Nat → Option va_E) (ad : Nat → Nat) {st : Int32} (sz : Nat) : Met l yX7_nameOfState wsX7_nameOfState (rmS 0 0 0) (va_Pc [.int st] (sK D cy RX7 cTx ad lay X sz)) (va_Qr (S := GY) (fun Y => Y = (lay, X)) (fun Y a t => (∃ i, 4 ≤ i ∧ i ≤ 7 ∧ a = ad i) ∧ gO D (gA lay X sz) Y t) (gA lay X sz)) 0 0 (gA lay X sz) := by
  refine sk_ofW (cc := cX7_nameOfState) (maxL := 1) (ret := (some (.object "java/lang/String"))) (own := RX7) (Qc := fun sz => va_Qr (S := GY) (fun Y => Y = (lay, X)) (fun Y a t => (∃ i, 4 ≤ i ∧ i ≤ 7 ∧ a = ad i) ∧ gO D (gA lay X sz) Y t) (gA lay X sz)) (by decide) rfl (Nat.le_of_ble_eq_true rfl) rfl ?_
  intro p e0 s m args below meth c ls hC hr hlocks hT hK G hl
  have hl : lv_has ls 1 [(0, .int st)] := hl
  refine lv_iload_n hC.1 hC.2.1 dX7_nameOfState_0 rfl (lv_at hl 0 rfl) ?_
  by_cases c0 : st = 0
  · refine lv_tableIn (off := 27) (tgt := 28) hC.1 hC.2.1 dX7_nameOfState_1 (by rw [c0]; decide) (by rw [c0]; decide) (by rw [c0]; rfl) (by decide) ?_
    refine va_ldcwS hC (hK 4 (543, "asked", 5) rfl).1 dX7_nameOfState_28 ?_
    exact W.aret (v := .ref (ad 4)) hC.1 hC.2.1 hr (Or.inl ⟨_, rfl⟩) (Or.inr ⟨_, rfl⟩) (fun t ht hW => ⟨⟨(lay, X), ad 4, rfl, rfl, ⟨4, by omega, by omega, rfl⟩, by rw [ht]; exact G.1, G.2.1⟩, G.2.2.F ht⟩) G.2.2.2.2 dX7_nameOfState_31 hlocks
  by_cases c1 : st = 1
  · refine lv_tableIn (off := 31) (tgt := 32) hC.1 hC.2.1 dX7_nameOfState_1 (by rw [c1]; decide) (by rw [c1]; decide) (by rw [c1]; rfl) (by decide) ?_
    refine va_ldcwS hC (hK 5 (545, "fixed", 5) rfl).1 dX7_nameOfState_32 ?_
    exact W.aret (v := .ref (ad 5)) hC.1 hC.2.1 hr (Or.inl ⟨_, rfl⟩) (Or.inr ⟨_, rfl⟩) (fun t ht hW => ⟨⟨(lay, X), ad 5, rfl, rfl, ⟨5, by omega, by omega, rfl⟩, by rw [ht]; exact G.1, G.2.1⟩, G.2.2.F ht⟩) G.2.2.2.2 dX7_nameOfState_35 hlocks
  by_cases c2 : st = 2
  · refine lv_tableIn (off := 35) (tgt := 36) hC.1 hC.2.1 dX7_nameOfState_1 (by rw [c2]; decide) (by rw [c2]; decide) (by rw [c2]; rfl) (by decide) ?_
    refine va_ldcwS hC (hK 6 (547, "played", 6) rfl).1 dX7_nameOfState_36 ?_
    exact W.aret (v := .ref (ad 6)) hC.1 hC.2.1 hr (Or.inl ⟨_, rfl⟩) (Or.inr ⟨_, rfl⟩) (fun t ht hW => ⟨⟨(lay, X), ad 6, rfl, rfl, ⟨6, by omega, by omega, rfl⟩, by rw [ht]; exact G.1, G.2.1⟩, G.2.2.F ht⟩) G.2.2.2.2 dX7_nameOfState_39 hlocks
  refine lv_tableOut (tgt := 40) hC.1 hC.2.1 dX7_nameOfState_1 (tsw_out 3 rfl (by decide) (fun k hk => ?_)) (by decide) ?_
  · rcases (show k = 0 ∨ k = 1 ∨ k = 2 by omega) with rfl | rfl | rfl
    · exact c0
    · exact c1
    · exact c2
  refine va_ldcwS hC (hK 7 (548, "lost", 4) rfl).1 dX7_nameOfState_40 ?_
  exact W.aret (v := .ref (ad 7)) hC.1 hC.2.1 hr (Or.inl ⟨_, rfl⟩) (Or.inr ⟨_, rfl⟩) (fun t ht hW => ⟨⟨(lay, X), ad 7, rfl, rfl, ⟨7, by omega, by omega, rfl⟩, by rw [ht]; exact G.1, G.2.1⟩, G.2.2.F ht⟩) G.2.2.2.2 dX7_nameOfState_43 hlocks
set_option maxHeartbeats 4000000 in
set_option maxRecDepth 100000 in
/-- the players of a set, behind what is there -/
theorem c_appP (l : Launch) (D : va_G) (cy : Nat → ClassId) (lay L : Nat → Nat) (X : Nat → Option va_E) (ad : Nat → Nat) {k kb kn : Nat} (hk : k < 128) (hkb : kb < 128) (hkn : kn < 128) (hne : kb ≠ k) (hnk : kn ≠ k) (hnb : kn ≠ kb) (h0k : 0 ≠ k) (h0b : 0 ≠ kb) (h3 : X kn = none) {fs : List Value} {P : Nat} (hX0 : X 0 = some (.inr (12, fs))) (hfs : fs[6]? = some (.int (nI P))) (hP : P ≤ 10) {n m : Nat} {a : Nat → Int32} {ml v : Int32} (hL : gU lay kb (L kb) = L) (hf : sb_Fit a) (hm : capOk m) (hnm : n ≤ m) (hn : n ≤ 36) (sz : Nat) : Met l yX7_appendPlayers wsX7_appendPlayers (rmS 6 20 1400) (va_Pc [.ref (L 0), .ref (L k), .int v] (sK D cy RX7 cTx ad L (sbX cy X k kb (L kb) m a (nI n) ml) sz)) (va_Qv (fun Y : GY => ∃ n' L' m' a' ml', n' ≤ n + 3 * P ∧ sb_Fit a' ∧ capOk m' ∧ n' ≤ m' ∧ gU lay kb (L' kb) = L' ∧ Y = (L', sbX cy X k kb (L' kb) m' a' (nI n') ml')) (gO D (gA L (sbX cy X k kb (L kb) m a (nI n) ml) sz)) (gA L (sbX cy X k kb (L kb) m a (nI n) ml) sz)) 20 1400 (gA L (sbX cy X k kb (L kb) m a (nI n) ml) sz) := by
  refine sk_ofW (cc := cX7_appendPlayers) (maxL := 5) (ret := none) (own := RX7) (Qc := fun sz => va_Qv (fun Y : GY => ∃ n' L' m' a' ml', n' ≤ n + 3 * P ∧ sb_Fit a' ∧ capOk m' ∧ n' ≤ m' ∧ gU lay kb (L' kb) = L' ∧ Y = (L', sbX cy X k kb (L' kb) m' a' (nI n') ml')) (gO D (gA L (sbX cy X k kb (L kb) m a (nI n) ml) sz)) (gA L (sbX cy X k kb (L kb) m a (nI n) ml) sz)) (by decide) rfl (Nat.le_of_ble_eq_true rfl) rfl ?_
  intro p e0 s m9 args below meth c ls hC hr hlocks hT hK G hl
  have hl : lv_has ls 5 [(0, .ref (L 0)), (1, .ref (L k)), (2, .int v)] := hl
  have hA : ∀ q, s.heap.size ≤ q → gA L (sbX cy X k kb (L kb) m a (nI n) ml) s.heap.size q := fun _ h => Or.inr h
  rw [gU_out hL h0b, gU_out hL (Ne.symm hne)] at hl
  have S0 : sbW D cy lay X (gA L (sbX cy X k kb (L kb) m a (nI n) ml) s.heap.size) s.heap s.heap [] k kb n := ⟨L, m, a, ml, hf, hm, hnm, hL, G⟩
  generalize hAA : gA L (sbX cy X k kb (L kb) m a (nI n) ml) s.heap.size = A at *
  have key : ∀ (d i : Nat), i + d = P → ∀ (n1 : Nat) (v3 : Int32) (H : Heap) (locs : List Loc) (ls : Array Slot), n1 ≤ n + 3 * i → sbW D cy lay X A s.heap H locs k kb n1 → lv_has ls 5 [(4, .int (nI i)), (3, .int v3), (0, .ref (lay 0)), (1, .ref (lay k)), (2, .int v)] → W p l e0 (rmS 6 20 1400) s m9 args below meth c H locs (2 * i) (140 * i) (MQ below (va_Qv (fun Y : GY => ∃ n' L' m' a' ml', n' ≤ n + 3 * P ∧ sb_Fit a' ∧ capOk m' ∧ n' ≤ m' ∧ gU lay kb (L' kb) = L' ∧ Y = (L', sbX cy X k kb (L' kb) m' a' (nI n') ml')) (gO D A) A) args s 20 1400 A) (F0 m9 5 ls []) := by
    intro d
    induction d with
    | zero =>
      intro i hi n1 v3 H locs ls hn1 S hl
      obtain rfl : i = P := by omega
      refine lv_iload hC.1 hC.2.1 dX7_appendPlayers_5 (lv_at hl 0 rfl) ?_
      refine lv_aload_n hC.1 hC.2.1 dX7_appendPlayers_7 rfl (lv_at hl 2 rfl) ?_
      refine sb_get hC hT S (by decide) h0k h0b hX0 k_X7 (fun _ h => List.mem_cons_of_mem _ (List.mem_append_left _ (List.mem_append_left _ (List.mem_append_right _ h)))) 6 (by decide) (wm 1 rfl) hfs dX7_appendPlayers_8 ?_
      refine lv_icmp_ge (tgt := 54) hC.1 hC.2.1 dX7_appendPlayers_11 (by decide) (fun _ => ?_) (fun c1 => absurd (le_self _) c1)
      refine W.widen (k := 20) (n := 1400) (by omega) (by omega) ?_
      obtain ⟨L', m', a', ml', g1, g2, g3, g4, G⟩ := S
      subst hAA
      exact g_vret (Y := (L', sbX cy X k kb (L' kb) m' a' (nI n1) ml')) hC hr hlocks G ⟨n1, L', m', a', ml', hn1, g1, g2, g3, g4, rfl⟩ dX7_appendPlayers_54
    | succ d ih =>
      intro i hi n1 v3 H locs ls hn1 S hl
      have next : ∀ (n2 : Nat) (v4 : Int32) (H : Heap) (locs : List Loc) (ls : Array Slot), n2 ≤ n + 3 * (i + 1) → sbW D cy lay X A s.heap H locs k kb n2 → lv_has ls 5 [(4, .int (nI i)), (3, .int v4), (0, .ref (lay 0)), (1, .ref (lay k)), (2, .int v)] → W p l e0 (rmS 6 20 1400) s m9 args below meth c H locs (2 * (i + 1)) (140 * (i + 1)) (MQ below (va_Qv (fun Y : GY => ∃ n' L' m' a' ml', n' ≤ n + 3 * P ∧ sb_Fit a' ∧ capOk m' ∧ n' ≤ m' ∧ gU lay kb (L' kb) = L' ∧ Y = (L', sbX cy X k kb (L' kb) m' a' (nI n') ml')) (gO D A) A) args s 20 1400 A) (F0 m9 48 ls []) := by
        intro n2 v4 H locs ls hn2 S hl
        refine lv_iinc (k := 0) (v := nI (i + 1)) (lv' := [(4, .int (nI (i + 1))), (3, .int v4), (0, .ref (lay 0)), (1, .ref (lay k)), (2, .int v)]) hC.1 hC.2.1 dX7_appendPlayers_48 hl rfl (by rw [show Int32.ofInt 1 = 1 by decide]; exact nI_1 i) (by decide) rfl (fun ls hl => ?_)
        refine lv_goto (tgt := 5) hC.1 hC.2.1 dX7_appendPlayers_51 (by decide) ?_
        exact ih (i + 1) (by omega) n2 v4 H locs ls hn2 S hl
      refine lv_iload hC.1 hC.2.1 dX7_appendPlayers_5 (lv_at hl 0 rfl) ?_
      refine lv_aload_n hC.1 hC.2.1 dX7_appendPlayers_7 rfl (lv_at hl 2 rfl) ?_
      refine sb_get hC hT S (by decide) h0k h0b hX0 k_X7 (fun _ h => List.mem_cons_of_mem _ (List.mem_append_left _ (List.mem_append_left _ (List.mem_append_right _ h)))) 6 (by decide) (wm 1 rfl) hfs dX7_appendPlayers_8 ?_
      refine lv_icmp_ge (tgt := 54) hC.1 hC.2.1 dX7_appendPlayers_11 (by decide) (fun c1 => absurd c1 (nI_ge (by omega) (by omega))) (fun _ => ?_)
      refine lv_iload_n hC.1 hC.2.1 dX7_appendPlayers_14 rfl (lv_at hl 4 rfl) ?_
      refine lv_iload hC.1 hC.2.1 dX7_appendPlayers_15 (lv_at hl 0 rfl) ?_
      obtain ⟨L1, m1, a1, ml1, g1, g2, g3, g4, G⟩ := S
      refine g_i G hA (s_runS (As := [.int v, .int (nI i)]) (rest := []) (tx := none) hC hT hA G (fun _ h => by cases h) (c_hasS l D cy L1 (sbX cy X k kb (L1 kb) m1 a1 (nI n1) ml1) _) (va_cwS 2 hC.2.2.2.2 gX7_appendPlayers_X7_has rfl rfl rfl hdS_X7_has ⟨Nat.le_of_ble_eq_true rfl, Nat.le_of_ble_eq_true rfl⟩) rfl hl.1 rfl (Nat.le_of_ble_eq_true rfl) dX7_appendPlayers_17 ⟨by show _ ≤ 20; omega, by show _ ≤ 1400; omega⟩) (fun r Y H locs hY G => ?_)
      subst hY
      have S : sbW D cy lay X A s.heap H locs k kb n1 := ⟨L1, m1, a1, ml1, g1, g2, g3, g4, G⟩
      refine lv_if_eq (tgt := 48) hC.1 hC.2.1 dX7_appendPlayers_20 (by decide) (fun _ => ?_) (fun _ => ?_)
      · refine W.widen (k := 2 * (i + 1)) (n := 140 * (i + 1)) (by omega) (by omega) ?_
        exact next n1 v3 H locs ls (by omega) S hl
      have fin : ∀ (sa w : Nat), tX sa w A s s.heap → w ≤ 2 → W p l e0 (rmS 6 20 1400) s m9 args below meth c H locs (2 * i) (140 * i) (MQ below (va_Qv (fun Y : GY => ∃ n' L' m' a' ml', n' ≤ n + 3 * P ∧ sb_Fit a' ∧ capOk m' ∧ n' ≤ m' ∧ gU lay kb (L' kb) = L' ∧ Y = (L', sbX cy X k kb (L' kb) m' a' (nI n') ml')) (gO D A) A) args s 20 1400 A) (F0 m9 37 ls [.ref sa, .ref (lay k)]) := by
        intro sa w hw hw2
        refine sb_apS (rest := []) hC hT hA S hk hkb hkn hne hnk hnb h3 hw (by omega) (by omega) (cwV 1 hC.2.2.2.2 gX7_appendPlayers_J4_append_15ec4 rfl rfl rfl hdV_J4_append_15ec4 ⟨Nat.le_of_ble_eq_true rfl, Nat.le_of_ble_eq_true rfl⟩) hl.1 (Nat.le_of_ble_eq_true rfl) dX7_appendPlayers_37 ⟨by show _ ≤ 20; omega, by show _ ≤ 1400; omega⟩ (fun H locs S => ?_)
        refine lv_iload hC.1 hC.2.1 dX7_appendPlayers_40 (lv_at hl 0 rfl) ?_
        refine sb_apI (rest := []) hC hT hA S hk hkb hkn hne hnk hnb h3 (v := i) (by omega) (by omega) (cwV 1 hC.2.2.2.2 gX7_appendPlayers_J4_append_bf812 rfl rfl rfl hdV_J4_append_bf812 ⟨Nat.le_of_ble_eq_true rfl, Nat.le_of_ble_eq_true rfl⟩) hl.1 (Nat.le_of_ble_eq_true rfl) dX7_appendPlayers_42 ⟨by show _ ≤ 20; omega, by show _ ≤ 1400; omega⟩ (fun H locs S => ?_)
        refine lv_pop hC.1 hC.2.1 dX7_appendPlayers_45 rfl ?_
        refine lv_iconst (v := 0) hC.1 hC.2.1 dX7_appendPlayers_46 (by decide) ?_
        refine lv_istore_n (lv' := [(3, .int 0), (4, .int (nI i)), (0, .ref (lay 0)), (1, .ref (lay k)), (2, .int v)]) hC.1 hC.2.1 dX7_appendPlayers_47 rfl hl (by decide) rfl (fun ls hl => ?_)
        have hd : dg i = 1 := if_pos (by omega)
        refine W.widen (k := 2 * (i + 1)) (n := 140 * (i + 1)) (by omega) (by omega) ?_
        refine next (n1 + w + dg i) 0 H locs ls (by omega) S (lv_sub hl [1, 0, 2, 3, 4] rfl)
      refine lv_aload_n hC.1 hC.2.1 dX7_appendPlayers_23 rfl (lv_at hl 3 rfl) ?_
      refine lv_iload_n hC.1 hC.2.1 dX7_appendPlayers_24 rfl (lv_at hl 1 rfl) ?_
      refine lv_if_eq (tgt := 34) hC.1 hC.2.1 dX7_appendPlayers_25 (by decide) (fun _ => ?_) (fun _ => ?_)
      · refine va_ldcwS hC (hK 9 (552, ",", 1) rfl).1 dX7_appendPlayers_34 ?_
        exact fin _ _ (hK 9 (552, ",", 1) rfl).2 (by decide)
      refine va_ldcwS hC (hK 8 (550, ": ", 2) rfl).1 dX7_appendPlayers_28 ?_
      refine lv_goto (tgt := 37) hC.1 hC.2.1 dX7_appendPlayers_31 (by decide) ?_
      exact fin _ _ (hK 8 (550, ": ", 2) rfl).2 (by decide)
  refine lv_iconst (v := 1) hC.1 hC.2.1 dX7_appendPlayers_0 (by decide) ?_
  refine lv_istore_n (lv' := [(3, .int 1), (0, .ref (lay 0)), (1, .ref (lay k)), (2, .int v)]) hC.1 hC.2.1 dX7_appendPlayers_1 rfl hl (by decide) rfl (fun ls hl => ?_)
  refine lv_iconst (v := 0) hC.1 hC.2.1 dX7_appendPlayers_2 (by decide) ?_
  refine lv_istore (lv' := [(4, .int 0), (3, .int 1), (0, .ref (lay 0)), (1, .ref (lay k)), (2, .int v)]) hC.1 hC.2.1 dX7_appendPlayers_3 hl (by decide) rfl (fun ls hl => ?_)
  have hl : lv_has ls 5 [(4, .int (nI 0)), (3, .int 1), (0, .ref (lay 0)), (1, .ref (lay k)), (2, .int v)] := hl
  exact key P 0 (by omega) n 1 _ _ _ (by omega) S0 hl
