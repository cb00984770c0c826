/-! TEXTS: walks of StringBuilder, String (65d.sb) -/
set_option maxHeartbeats 4000000 in
set_option maxRecDepth 100000 in
/-- AbstractStringBuilder.append(int) -/
theorem c_apI5 (l : Launch) (D : va_G) (cy : Nat → ClassId) (lay : Nat → Nat) (X : Nat → Option va_E) {k kb kn : Nat} (hk : k < 128) (hkb : kb < 128) (hkn : kn < 128) (hne : kb ≠ k) {n m : Nat} {a : Nat → Int32} {ml : Int32} (h1 : X k = some (sbE (lay kb) (nI n) ml)) (h2 : X kb = some (bsE cy m a)) (h3 : X kn = none) (hf : sb_Fit a) (hm : capOk m) (hnm : n ≤ m) {v : Nat} (hv : v < 1000) (hn : n + 3 ≤ 70) (sz : Nat) : Met l yJ5_append_c97b9 wsJ5_append_c97b9 (rmS 4 1 70) (va_Pc [.ref (lay k), .int (nI v)] (sI D cy none lay X sz)) (va_Qr (S := GY) (fun Y => ∃ o m' a', sb_Fit a' ∧ capOk m' ∧ n + dg v ≤ m' ∧ Y = (gU lay kb o, sbX cy X k kb o m' a' (nI (n + dg v)) ml)) (fun Y a t => a = lay k ∧ gO D (gA lay X sz) Y t) (gA lay X sz)) 1 70 (gA lay X sz) := by
  refine s_ofW (cc := cJ5_append_c97b9) (maxL := 4) (ret := (some (.object "java/lang/AbstractStringBuilder"))) (own := RJ5) (Qc := fun sz => va_Qr (S := GY) (fun Y => ∃ o m' a', sb_Fit a' ∧ capOk m' ∧ n + dg v ≤ m' ∧ Y = (gU lay kb o, sbX cy X k kb o m' a' (nI (n + dg v)) ml)) (fun Y a t => a = lay k ∧ gO D (gA lay X sz) Y t) (gA lay X sz)) (by decide) rfl (Nat.le_of_ble_eq_true rfl) rfl ?_
  intro p e0 s m9 args below meth c ls hC hr hlocks hname hT hX G hl
  have hl : lv_has ls 4 [(0, .ref (lay k)), (1, .int (nI v))] := hl
  have hA : ∀ q, s.heap.size ≤ q → gA lay X s.heap.size q := fun _ h => Or.inr h
  have hd3 : dg v ≤ 3 := by unfold dg; split <;> (try split) <;> omega
  have hcap : m < 100 := by unfold capOk at hm; omega
  refine lv_aload_n hC.1 hC.2.1 dJ5_append_c97b9_0 rfl (lv_at hl 0 rfl) ?_
  refine g_get hC hT.1 G hk h1 k_SB (fun _ h => List.mem_cons_of_mem _ (List.mem_append_right _ h)) 3 (by decide) (wm 1 rfl) rfl dJ5_append_c97b9_1 ?_
  refine lv_istore_n (lv' := [(2, .int (nI n)), (0, .ref (lay k)), (1, .int (nI v))]) hC.1 hC.2.1 dJ5_append_c97b9_4 rfl hl (by decide) rfl (fun ls hl => ?_)
  refine lv_iload_n hC.1 hC.2.1 dJ5_append_c97b9_5 rfl (lv_at hl 0 rfl) ?_
  refine lv_iload_n hC.1 hC.2.1 dJ5_append_c97b9_6 rfl (lv_at hl 2 rfl) ?_
  refine g_i G hA (s_runS (As := [.int (nI v)]) (rest := [.int (nI n)]) hC hT hA G (fun _ h => by cases h) (c_ssz l D cy lay X hv _) (va_cwS 1 hC.2.2.2.2 gJ5_append_c97b9_J6_stringSize_0f7a4 rfl rfl rfl hdS_J6_stringSize_0f7a4 ⟨Nat.le_of_ble_eq_true rfl, Nat.le_of_ble_eq_true rfl⟩) rfl hl.1 rfl (Nat.le_of_ble_eq_true rfl) dJ5_append_c97b9_7 ⟨Nat.le_of_ble_eq_true rfl, Nat.le_of_ble_eq_true rfl⟩) (fun r Y H locs hY G => ?_)
  obtain ⟨rfl, rfl⟩ := hY
  refine lv_iadd hC.1 hC.2.1 dJ5_append_c97b9_10 ?_
  rw [nI_add]
  refine lv_istore_n (lv' := [(3, .int (nI (n + dg v))), (2, .int (nI n)), (0, .ref (lay k)), (1, .int (nI v))]) hC.1 hC.2.1 dJ5_append_c97b9_11 rfl hl (by decide) rfl (fun ls hl => ?_)
  refine lv_aload_n hC.1 hC.2.1 dJ5_append_c97b9_12 rfl (lv_at hl 2 rfl) ?_
  refine lv_iload_n hC.1 hC.2.1 dJ5_append_c97b9_13 rfl (lv_at hl 0 rfl) ?_
  refine g_v G hA (s_runU (As := [.int (nI (n + dg v))]) (rest := []) hC hT hA G (fun _ h => by cases h) (c_ensure l D cy lay X hk hkb hkn hne h1 h2 h3 hf hm (q := n + dg v) (by omega) (by omega) _) (va_cwU 1 hC.2.2.2.2 gJ5_append_c97b9_J5_ensureCapacityInternal_d00df_u100J4 rfl rfl rfl rfl hdU_J5_ensureCapacityInternal_d00df ⟨Nat.le_of_ble_eq_true rfl, Nat.le_of_ble_eq_true rfl⟩) (s_recv hT G hk h1 k_SB) rfl hl.1 rfl (Nat.le_of_ble_eq_true rfl) dJ5_append_c97b9_14 ⟨Nat.le_of_ble_eq_true rfl, Nat.le_of_ble_eq_true rfl⟩) (fun Y H locs hY G => ?_)
  obtain ⟨o, m1, a1, hf1, hm1, hq1, hmm1, rfl⟩ := hY
  have e1 : gU lay kb o k = lay k := gU_ne (Ne.symm hne)
  have e2 : gU lay kb o kb = o := gU_eq
  dsimp only at G
  generalize hL : gU lay kb o = L at e1 e2 G
  subst e2
  rw [← e1] at hl
  have hm100 : m1 < 100 := by unfold capOk at hm1; omega
  refine lv_aload_n hC.1 hC.2.1 dJ5_append_c97b9_17 rfl (lv_at hl 2 rfl) ?_
  refine g_i G hA (s_runU (As := []) (rest := []) hC hT hA G (fun _ h => by cases h) (c_isL l D cy L (sbX cy X k kb (L kb) m1 a1 (nI n) ml) hk sbX_k _) (va_cwU 0 hC.2.2.2.2 gJ5_append_c97b9_J5_isLatin1_aae02_u83J4 rfl rfl rfl rfl hdU_J5_isLatin1_aae02 ⟨Nat.le_of_ble_eq_true rfl, Nat.le_of_ble_eq_true rfl⟩) (s_recv hT G hk sbX_k k_SB) rfl hl.1 rfl (Nat.le_of_ble_eq_true rfl) dJ5_append_c97b9_18 ⟨Nat.le_of_ble_eq_true rfl, Nat.le_of_ble_eq_true rfl⟩) (fun r Y H locs hY G => ?_)
  obtain ⟨rfl, rfl⟩ := hY
  refine lv_if_eq (tgt := 37) hC.1 hC.2.1 dJ5_append_c97b9_21 (by decide) (fun c1 => absurd c1 (by decide)) (fun _ => ?_)
  refine lv_iload_n hC.1 hC.2.1 dJ5_append_c97b9_24 rfl (lv_at hl 3 rfl) ?_
  refine lv_iload_n hC.1 hC.2.1 dJ5_append_c97b9_25 rfl (lv_at hl 0 rfl) ?_
  refine lv_aload_n hC.1 hC.2.1 dJ5_append_c97b9_26 rfl (lv_at hl 2 rfl) ?_
  refine g_get hC hT.1 G hk sbX_k k_SB (fun _ h => List.mem_cons_of_mem _ (List.mem_append_right _ h)) 0 (by decide) (wm 2 rfl) rfl dJ5_append_c97b9_27 ?_
  refine g_i G hA (s_runS (As := [.int (nI v), .int (nI (n + dg v)), .ref (L kb)]) (rest := []) hC hT hA G (fun _ h => by cases h) (c_gch l D cy L (sbX cy X k kb (L kb) m1 a1 (nI n) ml) hkb (sbX_b hne) hf1 hm100 hv (pp := n + dg v) (by omega) hq1 _) (va_cwS 3 hC.2.2.2.2 gJ5_append_c97b9_J6_getChars_ba4f3 rfl rfl rfl hdS_J6_getChars_ba4f3 ⟨Nat.le_of_ble_eq_true rfl, Nat.le_of_ble_eq_true rfl⟩) rfl hl.1 rfl (Nat.le_of_ble_eq_true rfl) dJ5_append_c97b9_30 ⟨Nat.le_of_ble_eq_true rfl, Nat.le_of_ble_eq_true rfl⟩) (fun r Y H locs hY G => ?_)
  obtain ⟨a2, hf2, rfl⟩ := hY
  have G : gG D L (sbX cy X k kb (L kb) m1 a2 (nI n) ml) (gA lay X s.heap.size) s.heap H locs := by rw [← sbX_pb hne]; exact G
  refine lv_pop hC.1 hC.2.1 dJ5_append_c97b9_33 rfl ?_
  refine lv_goto (tgt := 48) hC.1 hC.2.1 dJ5_append_c97b9_34 (by decide) ?_
  refine lv_aload_n hC.1 hC.2.1 dJ5_append_c97b9_48 rfl (lv_at hl 2 rfl) ?_
  refine lv_iload_n hC.1 hC.2.1 dJ5_append_c97b9_49 rfl (lv_at hl 0 rfl) ?_
  refine g_put hC hT.1 G hk sbX_k k_SB (fun _ h => List.mem_cons_of_mem _ (List.mem_append_right _ h)) 3 (by decide) (wm 1 rfl) rfl rfl rfl (by simp) dJ5_append_c97b9_50 (fun H locs G => ?_)
  have G : gG D L (sbX cy X k kb (L kb) m1 a2 (nI (n + dg v)) ml) (gA lay X s.heap.size) s.heap H locs := by rw [← sbX_pk (o := L kb) (n := nI n) (ml := ml)]; exact G
  refine lv_aload_n hC.1 hC.2.1 dJ5_append_c97b9_53 rfl (lv_at hl 2 rfl) ?_
  exact W.aret (v := .ref (L k)) hC.1 hC.2.1 hr (Or.inl ⟨_, rfl⟩) (Or.inr ⟨_, rfl⟩) (fun t ht hW => ⟨⟨(L, sbX cy X k kb (L kb) m1 a2 (nI (n + dg v)) ml), L k, rfl, ⟨L kb, m1, a2, hf2, hm1, hq1, by rw [hL]⟩, e1, by rw [ht]; exact G.1, G.2.1⟩, G.2.2.F ht⟩) G.2.2.2.2 dJ5_append_c97b9_54 hlocks
set_option maxHeartbeats 4000000 in
set_option maxRecDepth 100000 in
/-- c_apI -/
theorem c_apI (l : Launch) (D : va_G) (cy : Nat → ClassId) (lay : Nat → Nat) (X : Nat → Option va_E) {k kb kn : Nat} (hk : k < 128) (hkb : kb < 128) (hkn : kn < 128) (hne : kb ≠ k) {n m : Nat} {a : Nat → Int32} {ml : Int32} (h1 : X k = some (sbE (lay kb) (nI n) ml)) (h2 : X kb = some (bsE cy m a)) (h3 : X kn = none) (hf : sb_Fit a) (hm : capOk m) (hnm : n ≤ m) {v : Nat} (hv : v < 1000) (hn : n + 3 ≤ 70) (sz : Nat) : Met l yJ4_append_bf812 wsJ4_append_bf812 (rmS 5 1 70) (va_Pc [.ref (lay k), .int (nI v)] (sI D cy none lay X sz)) (va_Qr (S := GY) (fun Y => ∃ o m' a', sb_Fit a' ∧ capOk m' ∧ n + dg v ≤ m' ∧ Y = (gU lay kb o, sbX cy X k kb o m' a' (nI (n + dg v)) ml)) (fun Y a t => a = lay k ∧ gO D (gA lay X sz) Y t) (gA lay X sz)) 1 70 (gA lay X sz) := by
  refine s_ofW (cc := cJ4_append_bf812) (maxL := 2) (ret := (some (.object "java/lang/StringBuilder"))) (own := RJ4) (Qc := fun sz => va_Qr (S := GY) (fun Y => ∃ o m' a', sb_Fit a' ∧ capOk m' ∧ n + dg v ≤ m' ∧ Y = (gU lay kb o, sbX cy X k kb o m' a' (nI (n + dg v)) ml)) (fun Y a t => a = lay k ∧ gO D (gA lay X sz) Y t) (gA lay X sz)) (by decide) rfl (Nat.le_of_ble_eq_true rfl) rfl ?_
  intro p e0 s m9 args below meth c ls hC hr hlocks hname hT hX G hl
  have hl : lv_has ls 2 [(0, .ref (lay k)), (1, .int (nI v))] := hl
  have hA : ∀ q, s.heap.size ≤ q → gA lay X s.heap.size q := fun _ h => Or.inr h
  refine lv_aload_n hC.1 hC.2.1 dJ4_append_bf812_0 rfl (lv_at hl 0 rfl) ?_
  refine lv_iload_n hC.1 hC.2.1 dJ4_append_bf812_1 rfl (lv_at hl 1 rfl) ?_
  refine k_r (f := fun _ => lay k) G hA (s_runSU (As := [.int (nI v)]) (rest := []) hC hT hA G (fun _ h => by cases h) (c_apI5 l D cy lay X hk hkb hkn hne h1 h2 h3 hf hm hnm hv hn _) (va_cwSU 1 hC.2.2.2.2 gJ4_append_bf812_J5_append_c97b9_s53 rfl rfl rfl hdX_J5_append_c97b9 ⟨Nat.le_of_ble_eq_true rfl, Nat.le_of_ble_eq_true rfl⟩) (s_recv hT G hk h1 k_SB) rfl hl.1 rfl (Nat.le_of_ble_eq_true rfl) dJ4_append_bf812_2 ⟨Nat.le_of_ble_eq_true rfl, Nat.le_of_ble_eq_true rfl⟩) (fun Y H locs hY G => ?_)
  obtain ⟨o, m1, a1, hf1, hm1, hq1, rfl⟩ := hY
  refine lv_pop hC.1 hC.2.1 dJ4_append_bf812_5 rfl ?_
  refine lv_aload_n hC.1 hC.2.1 dJ4_append_bf812_6 rfl (lv_at hl 0 rfl) ?_
  exact W.aret (v := .ref (lay k)) hC.1 hC.2.1 hr (Or.inl ⟨_, rfl⟩) (Or.inr ⟨_, rfl⟩) (fun t ht hW => ⟨⟨(gU lay kb o, sbX cy X k kb o m1 a1 (nI (n + dg v)) ml), lay k, rfl, ⟨o, m1, a1, hf1, hm1, hq1, rfl⟩, rfl, by rw [ht]; exact G.1, G.2.1⟩, G.2.2.F ht⟩) G.2.2.2.2 dJ4_append_bf812_7 hlocks
set_option maxHeartbeats 4000000 in
set_option maxRecDepth 100000 in
/-- canEncode -/
theorem c_canEnc (l : Launch) (D : va_G) (cy : Nat → ClassId) (lay : Nat → Nat) (X : Nat → Option va_E) {v : Int32} (hv : ¬ 255 < v) (sz : Nat) : Met l yJ1_canEncode_fc78d wsJ1_canEncode_fc78d (rmS 0 0 0) (va_Pc [.int v] (sI D cy none lay X sz)) (va_Qi (fun (r : Int32) (Y : GY) => r = 1 ∧ Y = (lay, X)) (gO D (gA lay X sz)) (gA lay X sz)) 0 0 (gA lay X sz) := by
  refine s_ofW (cc := cJ1_canEncode_fc78d) (maxL := 1) (ret := (some .boolean)) (own := RJ1) (Qc := fun sz => va_Qi (fun (r : Int32) (Y : GY) => r = 1 ∧ Y = (lay, X)) (gO D (gA lay X sz)) (gA lay X sz)) (by decide) rfl (Nat.le_of_ble_eq_true rfl) rfl ?_
  intro p e0 s m9 args below meth c ls hC hr hlocks hname hT hX G hl
  have hl : lv_has ls 1 [(0, .int v)] := hl
  have hA : ∀ q, s.heap.size ≤ q → gA lay X s.heap.size q := fun _ h => Or.inr h
  refine lv_iload_n hC.1 hC.2.1 dJ1_canEncode_fc78d_0 rfl (lv_at hl 0 rfl) ?_
  refine lv_sipush (v := 255) hC.1 hC.2.1 dJ1_canEncode_fc78d_1 (by decide) ?_
  refine lv_icmp_gt (tgt := 11) hC.1 hC.2.1 dJ1_canEncode_fc78d_4 (by decide) (fun c1 => absurd c1 hv) (fun _ => ?_)
  refine lv_iconst (v := 1) hC.1 hC.2.1 dJ1_canEncode_fc78d_7 (by decide) ?_
  refine lv_goto (tgt := 12) hC.1 hC.2.1 dJ1_canEncode_fc78d_8 (by decide) ?_
  exact W.zret (v := 1) hC.1 hC.2.1 hr rfl (fun t ht hW => ⟨⟨1, (lay, X), rfl, ⟨rfl, rfl⟩, by rw [ht]; exact G.1, G.2.1⟩, G.2.2.F ht⟩) G.2.2.2.2 dJ1_canEncode_fc78d_12 hlocks
set_option maxHeartbeats 4000000 in
set_option maxRecDepth 100000 in
/-- AbstractStringBuilder.append(char) -/
theorem c_apC5 (l : Launch) (D : va_G) (cy : Nat → ClassId) (lay : Nat → Nat) (X : Nat → Option va_E) {k kb kn : Nat} (hk : k < 128) (hkb : kb < 128) (hkn : kn < 128) (hne : kb ≠ k) {n m : Nat} {a : Nat → Int32} {ml : Int32} (h1 : X k = some (sbE (lay kb) (nI n) ml)) (h2 : X kb = some (bsE cy m a)) (h3 : X kn = none) (hf : sb_Fit a) (hm : capOk m) (hnm : n ≤ m) {v : Int32} (hv : ¬ 255 < v) (hn : n + 1 ≤ 70) (sz : Nat) : Met l yJ5_append_3fe6f wsJ5_append_3fe6f (rmS 4 1 70) (va_Pc [.ref (lay k), .int v] (sI D cy none lay X sz)) (va_Qr (S := GY) (fun Y => ∃ o m' a', sb_Fit a' ∧ capOk m' ∧ n + 1 ≤ m' ∧ Y = (gU lay kb o, sbX cy X k kb o m' a' (nI (n + 1)) ml)) (fun Y a t => a = lay k ∧ gO D (gA lay X sz) Y t) (gA lay X sz)) 1 70 (gA lay X sz) := by
  refine s_ofW (cc := cJ5_append_3fe6f) (maxL := 2) (ret := (some (.object "java/lang/AbstractStringBuilder"))) (own := RJ5) (Qc := fun sz => va_Qr (S := GY) (fun Y => ∃ o m' a', sb_Fit a' ∧ capOk m' ∧ n + 1 ≤ m' ∧ Y = (gU lay kb o, sbX cy X k kb o m' a' (nI (n + 1)) ml)) (fun Y a t => a = lay k ∧ gO D (gA lay X sz) Y t) (gA lay X sz)) (by decide) rfl (Nat.le_of_ble_eq_true rfl) rfl ?_
  intro p e0 s m9 args below meth c ls hC hr hlocks hname hT hX G hl
  have hl : lv_has ls 2 [(0, .ref (lay k)), (1, .int v)] := hl
  have hA : ∀ q, s.heap.size ≤ q → gA lay X s.heap.size q := fun _ h => Or.inr h
  have hcap : m < 100 := by unfold capOk at hm; omega
  refine lv_aload_n hC.1 hC.2.1 dJ5_append_3fe6f_0 rfl (lv_at hl 0 rfl) ?_
  refine lv_aload_n hC.1 hC.2.1 dJ5_append_3fe6f_1 rfl (lv_at hl 0 rfl) ?_
  refine g_get hC hT.1 G hk h1 k_SB (fun _ h => List.mem_cons_of_mem _ (List.mem_append_right _ h)) 3 (by decide) (wm 1 rfl) rfl dJ5_append_3fe6f_2 ?_
  refine lv_iconst (v := 1) hC.1 hC.2.1 dJ5_append_3fe6f_5 (by decide) ?_
  refine lv_iadd hC.1 hC.2.1 dJ5_append_3fe6f_6 ?_
  rw [nI_1]
  refine g_v G hA (s_runU (As := [.int (nI (n + 1))]) (rest := []) hC hT hA G (fun _ h => by cases h) (c_ensure l D cy lay X hk hkb hkn hne h1 h2 h3 hf hm (q := n + 1) (by omega) (by omega) _) (va_cwU 1 hC.2.2.2.2 gJ5_append_3fe6f_J5_ensureCapacityInternal_d00df_u100J4 rfl rfl rfl rfl hdU_J5_ensureCapacityInternal_d00df ⟨Nat.le_of_ble_eq_true rfl, Nat.le_of_ble_eq_true rfl⟩) (s_recv hT G hk h1 k_SB) rfl hl.1 rfl (Nat.le_of_ble_eq_true rfl) dJ5_append_3fe6f_7 ⟨Nat.le_of_ble_eq_true rfl, Nat.le_of_ble_eq_true rfl⟩) (fun Y H locs hY G => ?_)
  obtain ⟨o, m1, a1, hf1, hm1, hq1, hmm1, rfl⟩ := hY
  have e1 : gU lay kb o k = lay k := gU_ne (Ne.symm hne)
  have e2 : gU lay kb o kb = o := gU_eq
  dsimp only at G
  generalize hL : gU lay kb o = L at e1 e2 G
  subst e2
  rw [← e1] at hl
  have hm100 : m1 < 100 := by unfold capOk at hm1; omega
  refine lv_aload_n hC.1 hC.2.1 dJ5_append_3fe6f_10 rfl (lv_at hl 0 rfl) ?_
  refine g_i G hA (s_runU (As := []) (rest := []) hC hT hA G (fun _ h => by cases h) (c_isL l D cy L (sbX cy X k kb (L kb) m1 a1 (nI n) ml) hk sbX_k _) (va_cwU 0 hC.2.2.2.2 gJ5_append_3fe6f_J5_isLatin1_aae02_u83J4 rfl rfl rfl rfl hdU_J5_isLatin1_aae02 ⟨Nat.le_of_ble_eq_true rfl, Nat.le_of_ble_eq_true rfl⟩) (s_recv hT G hk sbX_k k_SB) rfl hl.1 rfl (Nat.le_of_ble_eq_true rfl) dJ5_append_3fe6f_11 ⟨Nat.le_of_ble_eq_true rfl, Nat.le_of_ble_eq_true rfl⟩) (fun r Y H locs hY G => ?_)
  obtain ⟨rfl, rfl⟩ := hY
  refine lv_if_eq (tgt := 45) hC.1 hC.2.1 dJ5_append_3fe6f_14 (by decide) (fun c1 => absurd c1 (by decide)) (fun _ => ?_)
  refine lv_iload_n hC.1 hC.2.1 dJ5_append_3fe6f_17 rfl (lv_at hl 1 rfl) ?_
  refine g_i G hA (s_runS (As := [.int v]) (rest := []) hC hT hA G (fun _ h => by cases h) (c_canEnc l D cy L (sbX cy X k kb (L kb) m1 a1 (nI n) ml) hv _) (va_cwS 1 hC.2.2.2.2 gJ5_append_3fe6f_J1_canEncode_fc78d rfl rfl rfl hdS_J1_canEncode_fc78d ⟨Nat.le_of_ble_eq_true rfl, Nat.le_of_ble_eq_true rfl⟩) rfl hl.1 rfl (Nat.le_of_ble_eq_true rfl) dJ5_append_3fe6f_18 ⟨Nat.le_of_ble_eq_true rfl, Nat.le_of_ble_eq_true rfl⟩) (fun r Y H locs hY G => ?_)
  obtain ⟨rfl, rfl⟩ := hY
  refine lv_if_eq (tgt := 45) hC.1 hC.2.1 dJ5_append_3fe6f_21 (by decide) (fun c1 => absurd c1 (by decide)) (fun _ => ?_)
  refine lv_aload_n hC.1 hC.2.1 dJ5_append_3fe6f_24 rfl (lv_at hl 0 rfl) ?_
  refine g_get hC hT.1 G hk sbX_k k_SB (fun _ h => List.mem_cons_of_mem _ (List.mem_append_right _ h)) 0 (by decide) (wm 2 rfl) rfl dJ5_append_3fe6f_25 ?_
  refine lv_aload_n hC.1 hC.2.1 dJ5_append_3fe6f_28 rfl (lv_at hl 0 rfl) ?_
  refine lv_dup hC.1 hC.2.1 dJ5_append_3fe6f_29 rfl ?_
  refine g_get hC hT.1 G hk sbX_k k_SB (fun _ h => List.mem_cons_of_mem _ (List.mem_append_right _ h)) 3 (by decide) (wm 1 rfl) rfl dJ5_append_3fe6f_30 ?_
  refine lv_dup_x1 hC.1 hC.2.1 dJ5_append_3fe6f_33 rfl rfl ?_
  refine lv_iconst (v := 1) hC.1 hC.2.1 dJ5_append_3fe6f_34 (by decide) ?_
  refine lv_iadd hC.1 hC.2.1 dJ5_append_3fe6f_35 ?_
  rw [nI_1]
  refine g_put hC hT.1 G hk sbX_k k_SB (fun _ h => List.mem_cons_of_mem _ (List.mem_append_right _ h)) 3 (by decide) (wm 1 rfl) rfl rfl rfl (by simp) dJ5_append_3fe6f_36 (fun H locs G => ?_)
  have G : gG D L (sbX cy X k kb (L kb) m1 a1 (nI (n + 1)) ml) (gA lay X s.heap.size) s.heap H locs := by rw [← sbX_pk (o := L kb) (n := nI n) (ml := ml)]; exact G
  refine lv_iload_n hC.1 hC.2.1 dJ5_append_3fe6f_39 rfl (lv_at hl 1 rfl) ?_
  refine lv_i2b hC.1 hC.2.1 dJ5_append_3fe6f_40 rfl ?_
  refine g_bast hC hT.1 G hkb rfl (sbX_b hne) (show vp_in (nI n) m1 from vp_in_nI (by omega) (by omega)) dJ5_append_3fe6f_41 (fun H locs G => ?_)
  have G : gG D L (sbX cy X k kb (L kb) m1 (upd a1 (nI n).toNatClampNeg (vp_nar .byte v.toInt8.toInt32)) (nI (n + 1)) ml) (gA lay X s.heap.size) s.heap H locs := by rw [← sbX_pb hne]; exact G
  refine lv_goto (tgt := 75) hC.1 hC.2.1 dJ5_append_3fe6f_42 (by decide) ?_
  refine lv_aload_n hC.1 hC.2.1 dJ5_append_3fe6f_75 rfl (lv_at hl 0 rfl) ?_
  exact W.aret (v := .ref (L k)) hC.1 hC.2.1 hr (Or.inl ⟨_, rfl⟩) (Or.inr ⟨_, rfl⟩) (fun t ht hW => ⟨⟨(L, sbX cy X k kb (L kb) m1 (upd a1 (nI n).toNatClampNeg (vp_nar .byte v.toInt8.toInt32)) (nI (n + 1)) ml), L k, rfl, ⟨L kb, m1, _, sb_fitU (x := vp_nar .byte v.toInt8.toInt32) hf1 (by rw [pk_vb]; exact pk_fb _), hm1, hq1, by rw [hL]⟩, e1, by rw [ht]; exact G.1, G.2.1⟩, G.2.2.F ht⟩) G.2.2.2.2 dJ5_append_3fe6f_76 hlocks
set_option maxHeartbeats 4000000 in
set_option maxRecDepth 100000 in
/-- c_apC -/
theorem c_apC (l : Launch) (D : va_G) (cy : Nat → ClassId) (lay : Nat → Nat) (X : Nat → Option va_E) {k kb kn : Nat} (hk : k < 128) (hkb : kb < 128) (hkn : kn < 128) (hne : kb ≠ k) {n m : Nat} {a : Nat → Int32} {ml : Int32} (h1 : X k = some (sbE (lay kb) (nI n) ml)) (h2 : X kb = some (bsE cy m a)) (h3 : X kn = none) (hf : sb_Fit a) (hm : capOk m) (hnm : n ≤ m) {v : Int32} (hv : ¬ 255 < v) (hn : n + 1 ≤ 70) (sz : Nat) : Met l yJ4_append_cf468 wsJ4_append_cf468 (rmS 5 1 70) (va_Pc [.ref (lay k), .int v] (sI D cy none lay X sz)) (va_Qr (S := GY) (fun Y => ∃ o m' a', sb_Fit a' ∧ capOk m' ∧ n + 1 ≤ m' ∧ Y = (gU lay kb o, sbX cy X k kb o m' a' (nI (n + 1)) ml)) (fun Y a t => a = lay k ∧ gO D (gA lay X sz) Y t) (gA lay X sz)) 1 70 (gA lay X sz) := by
  refine s_ofW (cc := cJ4_append_cf468) (maxL := 2) (ret := (some (.object "java/lang/StringBuilder"))) (own := RJ4) (Qc := fun sz => va_Qr (S := GY) (fun Y => ∃ o m' a', sb_Fit a' ∧ capOk m' ∧ n + 1 ≤ m' ∧ Y = (gU lay kb o, sbX cy X k kb o m' a' (nI (n + 1)) ml)) (fun Y a t => a = lay k ∧ gO D (gA lay X sz) Y t) (gA lay X sz)) (by decide) rfl (Nat.le_of_ble_eq_true rfl) rfl ?_
  intro p e0 s m9 args below meth c ls hC hr hlocks hname hT hX G hl
  have hl : lv_has ls 2 [(0, .ref (lay k)), (1, .int v)] := hl
  have hA : ∀ q, s.heap.size ≤ q → gA lay X s.heap.size q := fun _ h => Or.inr h
  refine lv_aload_n hC.1 hC.2.1 dJ4_append_cf468_0 rfl (lv_at hl 0 rfl) ?_
  refine lv_iload_n hC.1 hC.2.1 dJ4_append_cf468_1 rfl (lv_at hl 1 rfl) ?_
  refine k_r (f := fun _ => lay k) G hA (s_runSU (As := [.int v]) (rest := []) hC hT hA G (fun _ h => by cases h) (c_apC5 l D cy lay X hk hkb hkn hne h1 h2 h3 hf hm hnm hv hn _) (va_cwSU 1 hC.2.2.2.2 gJ4_append_cf468_J5_append_3fe6f_s50 rfl rfl rfl hdX_J5_append_3fe6f ⟨Nat.le_of_ble_eq_true rfl, Nat.le_of_ble_eq_true rfl⟩) (s_recv hT G hk h1 k_SB) rfl hl.1 rfl (Nat.le_of_ble_eq_true rfl) dJ4_append_cf468_2 ⟨Nat.le_of_ble_eq_true rfl, Nat.le_of_ble_eq_true rfl⟩) (fun Y H locs hY G => ?_)
  obtain ⟨o, m1, a1, hf1, hm1, hq1, rfl⟩ := hY
  refine lv_pop hC.1 hC.2.1 dJ4_append_cf468_5 rfl ?_
  refine lv_aload_n hC.1 hC.2.1 dJ4_append_cf468_6 rfl (lv_at hl 0 rfl) ?_
  exact W.aret (v := .ref (lay k)) hC.1 hC.2.1 hr (Or.inl ⟨_, rfl⟩) (Or.inr ⟨_, rfl⟩) (fun t ht hW => ⟨⟨(gU lay kb o, sbX cy X k kb o m1 a1 (nI (n + 1)) ml), lay k, rfl, ⟨o, m1, a1, hf1, hm1, hq1, rfl⟩, rfl, by rw [ht]; exact G.1, G.2.1⟩, G.2.2.F ht⟩) G.2.2.2.2 dJ4_append_cf468_7 hlocks
