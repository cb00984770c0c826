section
/-! TEXTS: walks of StringBuilder, String (65b.sb) -/
set_option maxHeartbeats 4000000 in
set_option maxRecDepth 100000 in
/-- isLatin1: it is -/
theorem c_isL (l : Launch) (D : va_G) (cy : Nat → ClassId) (lay : Nat → Nat) (X : Nat → Option va_E) {k : Nat} (hk : k < 128) {o : Nat} {n ml : Int32} (h1 : X k = some (sbE o n ml)) (sz : Nat) : Met l yJ5_isLatin1_aae02 wsJ5_isLatin1_aae02 (rmS 0 0 0) (va_Pc [.ref (lay k)] (sI D cy none lay X sz)) (va_Qi (fun (r : Int32) (Y : GY) => r = 1 ∧ Y = (lay, X)) (gO D (gA lay X sz)) (gA lay X sz)) 0 0 (gA lay X sz) := by
  refine s_ofW (cc := cJ5_isLatin1_aae02) (maxL := 1) (ret := (some .boolean)) (own := RJ5) (Qc := fun sz => va_Qi (fun (r : Int32) (Y : GY) => r = 1 ∧ Y = (lay, X)) (gO D (gA lay X sz)) (gA lay X sz)) (by decide) rfl (Nat.le_of_ble_eq_true rfl) rfl ?_
  intro p e0 s m9 args below meth c ls hC hr hlocks hname hT hX G hl
  have hl : lv_has ls 1 [(0, .ref (lay k))] := hl
  have hA : ∀ q, s.heap.size ≤ q → gA lay X s.heap.size q := fun _ h => Or.inr h
  refine va_gets hC.1 hC.2.1 hT.2.2.1 G.2.2 hC.2.2.2.1 (hC.2.2.2.2 _ (wm 1 rfl)) (fun _ h => h) dJ5_isLatin1_aae02_0 ?_
  refine lv_if_eq (tgt := 17) hC.1 hC.2.1 dJ5_isLatin1_aae02_3 (by decide) (fun c1 => absurd c1 (by decide)) (fun _ => ?_)
  refine lv_aload_n hC.1 hC.2.1 dJ5_isLatin1_aae02_6 rfl (lv_at hl 0 rfl) ?_
  refine g_get hC hT.1 G hk h1 k_SB (fun _ h => List.mem_cons_of_mem _ (List.mem_append_right _ h)) 1 (by decide) (wm 2 rfl) rfl dJ5_isLatin1_aae02_7 ?_
  refine lv_if_ne (tgt := 17) hC.1 hC.2.1 dJ5_isLatin1_aae02_10 (by decide) (fun c1 => absurd rfl c1) (fun _ => ?_)
  refine lv_iconst (v := 1) hC.1 hC.2.1 dJ5_isLatin1_aae02_13 (by decide) ?_
  refine lv_goto (tgt := 18) hC.1 hC.2.1 dJ5_isLatin1_aae02_14 (by decide) ?_
  exact W.zret (v := 1) hC.1 hC.2.1 hr rfl (fun t ht hW => ⟨⟨1, (lay, X), rfl, ⟨rfl, rfl⟩, by rw [ht]; exact G.1, G.2.1⟩, G.2.2.F ht⟩) G.2.2.2.2 dJ5_isLatin1_aae02_18 hlocks
set_option maxHeartbeats 4000000 in
set_option maxRecDepth 100000 in
/-- coder of a text: Latin-1 -/
theorem c_coder (l : Launch) (D : va_G) (cy : Nat → ClassId) (lay : Nat → Nat) (X : Nat → Option va_E) {sa w : Nat} (sz : Nat) : Met l yJ0_coder_7d493 wsJ0_coder_7d493 (rmS 0 0 0) (va_Pc [.ref sa] (sI D cy (some (sa, w)) lay X sz)) (va_Qi (fun (r : Int32) (Y : GY) => r = 0 ∧ Y = (lay, X)) (gO D (gA lay X sz)) (gA lay X sz)) 0 0 (gA lay X sz) := by
  refine s_ofW (cc := cJ0_coder_7d493) (maxL := 1) (ret := (some .byte)) (own := RJ0) (Qc := fun sz => va_Qi (fun (r : Int32) (Y : GY) => r = 0 ∧ Y = (lay, X)) (gO D (gA lay X sz)) (gA lay X sz)) (by decide) rfl (Nat.le_of_ble_eq_true rfl) rfl ?_
  intro p e0 s m9 args below meth c ls hC hr hlocks hname hT hX G hl
  have hl : lv_has ls 1 [(0, .ref sa)] := hl
  have hA : ∀ q, s.heap.size ≤ q → gA lay X s.heap.size q := fun _ h => Or.inr h
  obtain ⟨-, x2, -⟩ := hX _ rfl
  refine va_gets hC.1 hC.2.1 hT.2.2.1 G.2.2 hC.2.2.2.1 (hC.2.2.2.2 _ (wm 1 rfl)) (fun _ h => h) dJ0_coder_7d493_0 ?_
  refine lv_if_eq (tgt := 13) hC.1 hC.2.1 dJ0_coder_7d493_3 (by decide) (fun c1 => absurd c1 (by decide)) (fun _ => ?_)
  refine lv_aload_n hC.1 hC.2.1 dJ0_coder_7d493_6 rfl (lv_at hl 0 rfl) ?_
  refine vk_getf hC.1 hC.2.1 x2 G.2.2 hC.2.2.2.1 (hC.2.2.2.2 _ (wm 2 rfl)) (fun _ h => h) dJ0_coder_7d493_7 ?_
  refine lv_goto (tgt := 14) hC.1 hC.2.1 dJ0_coder_7d493_10 (by decide) ?_
  exact W.zret (v := 0) hC.1 hC.2.1 hr rfl (fun t ht hW => ⟨⟨0, (lay, X), rfl, ⟨rfl, rfl⟩, by rw [ht]; exact G.1, G.2.1⟩, G.2.2.F ht⟩) G.2.2.2.2 dJ0_coder_7d493_14 hlocks
set_option maxHeartbeats 4000000 in
set_option maxRecDepth 100000 in
/-- length of a text -/
theorem c_slen (l : Launch) (D : va_G) (cy : Nat → ClassId) (lay : Nat → Nat) (X : Nat → Option va_E) {sa w : Nat} (hw : w < 2 ^ 31) (sz : Nat) : Met l yJ0_length_8abf5 wsJ0_length_8abf5 (rmS 1 0 0) (va_Pc [.ref sa] (sI D cy (some (sa, w)) lay X sz)) (va_Qi (fun (r : Int32) (Y : GY) => r = nI w ∧ Y = (lay, X)) (gO D (gA lay X sz)) (gA lay X sz)) 0 0 (gA lay X sz) := by
  refine s_ofW (cc := cJ0_length_8abf5) (maxL := 1) (ret := (some .int)) (own := RJ0) (Qc := fun sz => va_Qi (fun (r : Int32) (Y : GY) => r = nI w ∧ Y = (lay, X)) (gO D (gA lay X sz)) (gA lay X sz)) (by decide) rfl (Nat.le_of_ble_eq_true rfl) rfl ?_
  intro p e0 s m9 args below meth c ls hC hr hlocks hname hT hX G hl
  have hl : lv_has ls 1 [(0, .ref sa)] := hl
  have hA : ∀ q, s.heap.size ≤ q → gA lay X s.heap.size q := fun _ h => Or.inr h
  obtain ⟨x1, x2, ra, g, x3, x4, x5⟩ := hX _ rfl
  refine lv_aload_n hC.1 hC.2.1 dJ0_length_8abf5_0 rfl (lv_at hl 0 rfl) ?_
  refine vk_getf hC.1 hC.2.1 x3 G.2.2 hC.2.2.2.1 (hC.2.2.2.2 _ (wm 1 rfl)) (fun _ h => h) dJ0_length_8abf5_1 ?_
  refine va_tlen hC.1 hC.2.1 x4 G.2.2 rfl dJ0_length_8abf5_4 ?_
  refine lv_aload_n hC.1 hC.2.1 dJ0_length_8abf5_5 rfl (lv_at hl 0 rfl) ?_
  refine g_i G hA (s_runV (As := []) (rest := [.int (nI w)]) (b := sa) hC hT hA G hX (c_coder l D cy lay X (sa := sa) (w := w) _) (cwV 0 hC.2.2.2.2 gJ0_length_8abf5_J0_coder_7d493 rfl rfl rfl hdV_J0_coder_7d493 ⟨Nat.le_of_ble_eq_true rfl, Nat.le_of_ble_eq_true rfl⟩) (t_recv (hX _ rfl) G.2.2) rfl hl.1 rfl (Nat.le_of_ble_eq_true rfl) dJ0_length_8abf5_6 ⟨Nat.le_of_ble_eq_true rfl, Nat.le_of_ble_eq_true rfl⟩) (fun r Y H locs hY G => ?_)
  obtain ⟨rfl, rfl⟩ := hY
  refine lv_ishr hC.1 hC.2.1 dJ0_length_8abf5_9 ?_
  rw [sb_shr0]
  exact W.iret (v := nI w) hC.1 hC.2.1 hr (fun t ht hW => ⟨⟨nI w, (lay, X), rfl, ⟨rfl, rfl⟩, by rw [ht]; exact G.1, G.2.1⟩, G.2.2.F ht⟩) G.2.2.2.2 dJ0_length_8abf5_10 hlocks
set_option maxHeartbeats 4000000 in
set_option maxRecDepth 100000 in
/-- ArraysSupport.newLength: twice and two -/
theorem c_sbNL (l : Launch) (D : va_G) (cy : Nat → ClassId) (lay : Nat → Nat) (X : Nat → Option va_E) {m g : Nat} (hm : m < 100) (hg : g ≤ m + 2) (sz : Nat) : Met l yJ8_newLength_cabcc wsJ8_newLength_cabcc (rmS 1 0 0) (va_Pc [.int (nI m), .int (nI g), .int (nI (m + 2))] (sI D cy none lay X sz)) (va_Qi (fun (r : Int32) (Y : GY) => r = nI (2 * m + 2) ∧ Y = (lay, X)) (gO D (gA lay X sz)) (gA lay X sz)) 0 0 (gA lay X sz) := by
  refine s_ofW (cc := cJ8_newLength_cabcc) (maxL := 4) (ret := (some .int)) (own := RJ8) (Qc := fun sz => va_Qi (fun (r : Int32) (Y : GY) => r = nI (2 * m + 2) ∧ Y = (lay, X)) (gO D (gA lay X sz)) (gA lay X sz)) (by decide) rfl (Nat.le_of_ble_eq_true rfl) rfl ?_
  intro p e0 s m9 args below meth c ls hC hr hlocks hname hT hX G hl
  have hl : lv_has ls 4 [(0, .int (nI m)), (1, .int (nI g)), (2, .int (nI (m + 2)))] := hl
  have hA : ∀ q, s.heap.size ≤ q → gA lay X s.heap.size q := fun _ h => Or.inr h
  refine lv_iload_n hC.1 hC.2.1 dJ8_newLength_cabcc_0 rfl (lv_at hl 0 rfl) ?_
  refine lv_iload_n hC.1 hC.2.1 dJ8_newLength_cabcc_1 rfl (lv_at hl 1 rfl) ?_
  refine lv_iload_n hC.1 hC.2.1 dJ8_newLength_cabcc_2 rfl (lv_at hl 2 rfl) ?_
  refine va_mmax hC.1 hC.2.1 (hC.2.2.1.trans hl.1.symm) hC.2.2.2.1 (hC.2.2.2.2 _ (wm 1 rfl)) (hC.2.2.2.2 _ (wm 2 rfl)) (hC.2.2.2.2 _ (wm 3 rfl)) (hC.2.2.2.2 _ (wm 4 rfl)) (Nat.le_of_ble_eq_true rfl) (Nat.le_of_ble_eq_true rfl) (Nat.le_of_ble_eq_true rfl) (Nat.le_of_ble_eq_true rfl) dJ8_newLength_cabcc_3 ?_
  have e1 : (if nI g < nI (m + 2) then nI (m + 2) else nI g) = nI (m + 2) := by
    by_cases c : nI g < nI (m + 2)
    · rw [if_pos c]
    · rw [if_neg c]
      have : g = m + 2 := by
        rcases Nat.lt_or_ge g (m + 2) with q | q
        · exact absurd (nI_lt q (by omega)) c
        · omega
      rw [this]
  rw [e1]
  refine lv_iadd hC.1 hC.2.1 dJ8_newLength_cabcc_6 ?_
  rw [nI_add, show m + (m + 2) = 2 * m + 2 by omega]
  refine lv_istore_n (lv' := [(3, .int (nI (2 * m + 2))), (0, .int (nI m)), (1, .int (nI g)), (2, .int (nI (m + 2)))]) hC.1 hC.2.1 dJ8_newLength_cabcc_7 rfl hl (by decide) rfl (fun ls hl => ?_)
  refine lv_iconst (v := 0) hC.1 hC.2.1 dJ8_newLength_cabcc_8 (by decide) ?_
  refine lv_iload_n hC.1 hC.2.1 dJ8_newLength_cabcc_9 rfl (lv_at hl 0 rfl) ?_
  refine lv_icmp_ge (tgt := 21) hC.1 hC.2.1 dJ8_newLength_cabcc_10 (by decide) (fun c1 => absurd (show (0 : Int32) < nI (2 * m + 2) from nI_lt (a := 0) (by omega) (by omega)) (Int32.not_lt.mpr c1)) (fun _ => ?_)
  refine lv_iload_n hC.1 hC.2.1 dJ8_newLength_cabcc_13 rfl (lv_at hl 0 rfl) ?_
  refine lv_ldc (v := 2147483639) hC.1 hC.2.1 hC.2.2.2.1 (hC.2.2.2.2 _ (wm 5 rfl)) dJ8_newLength_cabcc_14 ?_
  refine lv_icmp_gt (tgt := 21) hC.1 hC.2.1 dJ8_newLength_cabcc_16 (by decide) (fun c1 => absurd c1 (show ¬ nI 2147483639 < nI (2 * m + 2) from nI_nlt (by omega) (by decide))) (fun _ => ?_)
  refine lv_iload_n hC.1 hC.2.1 dJ8_newLength_cabcc_19 rfl (lv_at hl 0 rfl) ?_
  exact W.iret (v := nI (2 * m + 2)) hC.1 hC.2.1 hr (fun t ht hW => ⟨⟨nI (2 * m + 2), (lay, X), rfl, ⟨rfl, rfl⟩, by rw [ht]; exact G.1, G.2.1⟩, G.2.2.F ht⟩) G.2.2.2.2 dJ8_newLength_cabcc_20 hlocks
set_option maxHeartbeats 4000000 in
set_option maxRecDepth 100000 in
/-- newCapacity -/
theorem c_newCap (l : Launch) (D : va_G) (cy : Nat → ClassId) (lay : Nat → Nat) (X : Nat → Option va_E) {k kb : Nat} (hk : k < 128) (hkb : kb < 128) (hne : kb ≠ k) {m : Nat} {a : Nat → Int32} {n ml : Int32} (h1 : X k = some (sbE (lay kb) n ml)) (h2 : X kb = some (bsE cy m a)) {q : Nat} (hm : m < 100) (hq : m < q) (hq2 : q ≤ 2 * m + 2) (sz : Nat) : Met l yJ5_newCapacity_0f7a4 wsJ5_newCapacity_0f7a4 (rmS 2 0 0) (va_Pc [.ref (lay k), .int (nI q)] (sI D cy none lay X sz)) (va_Qi (fun (r : Int32) (Y : GY) => r = nI (2 * m + 2) ∧ Y = (lay, X)) (gO D (gA lay X sz)) (gA lay X sz)) 0 0 (gA lay X sz) := by
  refine s_ofW (cc := cJ5_newCapacity_0f7a4) (maxL := 6) (ret := (some .int)) (own := RJ5) (Qc := fun sz => va_Qi (fun (r : Int32) (Y : GY) => r = nI (2 * m + 2) ∧ Y = (lay, X)) (gO D (gA lay X sz)) (gA lay X sz)) (by decide) rfl (Nat.le_of_ble_eq_true rfl) rfl ?_
  intro p e0 s m9 args below meth c ls hC hr hlocks hname hT hX G hl
  have hl : lv_has ls 6 [(0, .ref (lay k)), (1, .int (nI q))] := hl
  have hA : ∀ q, s.heap.size ≤ q → gA lay X s.heap.size q := fun _ h => Or.inr h
  refine lv_aload_n hC.1 hC.2.1 dJ5_newCapacity_0f7a4_0 rfl (lv_at hl 0 rfl) ?_
  refine g_get hC hT.1 G hk h1 k_SB (fun _ h => List.mem_cons_of_mem _ (List.mem_append_right _ h)) 0 (by decide) (wm 1 rfl) rfl dJ5_newCapacity_0f7a4_1 ?_
  obtain ⟨q4, hq4⟩ := gW_pos (lay := lay) hkb h2
  refine va_alen hC.1 hC.2.1 hT.1 (gP_list G.1) q4 8 hq4 rfl rfl dJ5_newCapacity_0f7a4_4 ?_
  refine lv_istore_n (lv' := [(2, .int (nI m)), (0, .ref (lay k)), (1, .int (nI q))]) hC.1 hC.2.1 dJ5_newCapacity_0f7a4_5 rfl hl (by decide) rfl (fun ls hl => ?_)
  refine lv_iload_n hC.1 hC.2.1 dJ5_newCapacity_0f7a4_6 rfl (lv_at hl 2 rfl) ?_
  refine lv_aload_n hC.1 hC.2.1 dJ5_newCapacity_0f7a4_7 rfl (lv_at hl 1 rfl) ?_
  refine g_get hC hT.1 G hk h1 k_SB (fun _ h => List.mem_cons_of_mem _ (List.mem_append_right _ h)) 1 (by decide) (wm 2 rfl) rfl dJ5_newCapacity_0f7a4_8 ?_
  refine lv_ishl hC.1 hC.2.1 dJ5_newCapacity_0f7a4_11 ?_
  rw [sb_shl0]
  refine lv_istore_n (lv' := [(3, .int (nI q)), (2, .int (nI m)), (0, .ref (lay k)), (1, .int (nI q))]) hC.1 hC.2.1 dJ5_newCapacity_0f7a4_12 rfl hl (by decide) rfl (fun ls hl => ?_)
  refine lv_iload_n hC.1 hC.2.1 dJ5_newCapacity_0f7a4_13 rfl (lv_at hl 0 rfl) ?_
  refine lv_iload_n hC.1 hC.2.1 dJ5_newCapacity_0f7a4_14 rfl (lv_at hl 1 rfl) ?_
  refine lv_isub hC.1 hC.2.1 dJ5_newCapacity_0f7a4_15 ?_
  rw [show nI q - nI m = nI (q - m) from pk_sub (by omega)]
  refine lv_istore (lv' := [(4, .int (nI (q - m))), (3, .int (nI q)), (2, .int (nI m)), (0, .ref (lay k)), (1, .int (nI q))]) hC.1 hC.2.1 dJ5_newCapacity_0f7a4_16 hl (by decide) rfl (fun ls hl => ?_)
  refine lv_iload_n hC.1 hC.2.1 dJ5_newCapacity_0f7a4_18 rfl (lv_at hl 2 rfl) ?_
  refine lv_iload hC.1 hC.2.1 dJ5_newCapacity_0f7a4_19 (lv_at hl 0 rfl) ?_
  refine lv_iload_n hC.1 hC.2.1 dJ5_newCapacity_0f7a4_21 rfl (lv_at hl 2 rfl) ?_
  refine lv_iconst (v := 2) hC.1 hC.2.1 dJ5_newCapacity_0f7a4_22 (by decide) ?_
  refine lv_aload_n hC.1 hC.2.1 dJ5_newCapacity_0f7a4_23 rfl (lv_at hl 3 rfl) ?_
  refine g_get hC hT.1 G hk h1 k_SB (fun _ h => List.mem_cons_of_mem _ (List.mem_append_right _ h)) 1 (by decide) (wm 2 rfl) rfl dJ5_newCapacity_0f7a4_24 ?_
  refine lv_ishl hC.1 hC.2.1 dJ5_newCapacity_0f7a4_27 ?_
  rw [sb_shl0]
  refine lv_iadd hC.1 hC.2.1 dJ5_newCapacity_0f7a4_28 ?_
  rw [show nI m + 2 = nI (m + 2) from nI_add m 2]
  refine g_i G hA (s_runS (As := [.int (nI m), .int (nI (q - m)), .int (nI (m + 2))]) (rest := []) hC hT hA G (fun _ h => by cases h) (c_sbNL l D cy lay X hm (g := q - m) (by omega) _) (va_cwS 3 hC.2.2.2.2 gJ5_newCapacity_0f7a4_J8_newLength_cabcc rfl rfl rfl hdS_J8_newLength_cabcc ⟨Nat.le_of_ble_eq_true rfl, Nat.le_of_ble_eq_true rfl⟩) rfl hl.1 rfl (Nat.le_of_ble_eq_true rfl) dJ5_newCapacity_0f7a4_29 ⟨Nat.le_of_ble_eq_true rfl, Nat.le_of_ble_eq_true rfl⟩) (fun r Y H locs hY G => ?_)
  obtain ⟨rfl, rfl⟩ := hY
  refine lv_istore (lv' := [(5, .int (nI (2 * m + 2))), (4, .int (nI (q - m))), (3, .int (nI q)), (2, .int (nI m)), (0, .ref (lay k)), (1, .int (nI q))]) hC.1 hC.2.1 dJ5_newCapacity_0f7a4_32 hl (by decide) rfl (fun ls hl => ?_)
  refine lv_iload hC.1 hC.2.1 dJ5_newCapacity_0f7a4_34 (lv_at hl 0 rfl) ?_
  refine lv_ldc (v := 2147483647) hC.1 hC.2.1 hC.2.2.2.1 (hC.2.2.2.2 _ (wm 3 rfl)) dJ5_newCapacity_0f7a4_36 ?_
  refine lv_icmp_ne (tgt := 51) hC.1 hC.2.1 dJ5_newCapacity_0f7a4_38 (by decide) (fun _ => ?_) (fun c1 => absurd ((nI_eq (by omega) (by decide)).mp (show nI (2 * m + 2) = nI 2147483647 from c1)) (by omega))
  refine lv_iload hC.1 hC.2.1 dJ5_newCapacity_0f7a4_51 (lv_at hl 0 rfl) ?_
  refine lv_aload_n hC.1 hC.2.1 dJ5_newCapacity_0f7a4_53 rfl (lv_at hl 4 rfl) ?_
  refine g_get hC hT.1 G hk h1 k_SB (fun _ h => List.mem_cons_of_mem _ (List.mem_append_right _ h)) 1 (by decide) (wm 2 rfl) rfl dJ5_newCapacity_0f7a4_54 ?_
  refine lv_ishr hC.1 hC.2.1 dJ5_newCapacity_0f7a4_57 ?_
  rw [sb_shr0]
  exact W.iret (v := nI (2 * m + 2)) hC.1 hC.2.1 hr (fun t ht hW => ⟨⟨nI (2 * m + 2), (lay, X), rfl, ⟨rfl, rfl⟩, by rw [ht]; exact G.1, G.2.1⟩, G.2.2.F ht⟩) G.2.2.2.2 dJ5_newCapacity_0f7a4_58 hlocks
set_option maxHeartbeats 4000000 in
set_option maxRecDepth 100000 in
/-- Arrays.copyOf: a longer row -/
theorem c_copyOf (l : Launch) (D : va_G) (cy : Nat → ClassId) (lay : Nat → Nat) (X : Nat → Option va_E) {kb kn : Nat} (hkb : kb < 128) (hkn : kn < 128) {m q : Nat} {a : Nat → Int32} (h2 : X kb = some (bsE cy m a)) (h3 : X kn = none) (hf : sb_Fit a) (hm : m < q) (hq : q ≤ 70) (sz : Nat) : Met l yJ7_copyOf_9075b wsJ7_copyOf_9075b (rmS 1 1 70) (va_Pc [.ref (lay kb), .int (nI q)] (sI D cy none lay X sz)) (va_Qr (S := GY) (fun Y => ∃ o a', sb_Fit a' ∧ Y = (gU lay kn o, gU X kn (some (bsE cy q a')))) (fun Y a t => a = Y.1 kn ∧ gO D (gA lay X sz) Y t) (gA lay X sz)) 1 70 (gA lay X sz) := by
  refine s_ofW (cc := cJ7_copyOf_9075b) (maxL := 3) (ret := (some (.array .byte))) (own := RJ7) (Qc := fun sz => va_Qr (S := GY) (fun Y => ∃ o a', sb_Fit a' ∧ Y = (gU lay kn o, gU X kn (some (bsE cy q a')))) (fun Y a t => a = Y.1 kn ∧ gO D (gA lay X sz) Y t) (gA lay X sz)) (by decide) rfl (Nat.le_of_ble_eq_true rfl) rfl ?_
  intro p e0 s m9 args below meth c ls hC hr hlocks hname hT hX G hl
  have hl : lv_has ls 3 [(0, .ref (lay kb)), (1, .int (nI q))] := hl
  have hA : ∀ q, s.heap.size ≤ q → gA lay X s.heap.size q := fun _ h => Or.inr h
  have hne : kb ≠ kn := fun e => by rw [e, h3] at h2; cases h2
  refine lv_iload_n hC.1 hC.2.1 dJ7_copyOf_9075b_0 rfl (lv_at hl 1 rfl) ?_
  refine lv_aload_n hC.1 hC.2.1 dJ7_copyOf_9075b_1 rfl (lv_at hl 0 rfl) ?_
  obtain ⟨q2, hq2⟩ := gW_pos (lay := lay) hkb h2
  refine va_alen hC.1 hC.2.1 hT.1 (gP_list G.1) q2 8 hq2 rfl rfl dJ7_copyOf_9075b_2 ?_
  refine lv_icmp_ne (tgt := 14) hC.1 hC.2.1 dJ7_copyOf_9075b_3 (by decide) (fun _ => ?_) (fun c1 => absurd ((nI_eq (by omega) (by omega)).mp (show nI q = nI m from c1)) (by omega))
  refine lv_iload_n hC.1 hC.2.1 dJ7_copyOf_9075b_14 rfl (lv_at hl 1 rfl) ?_
  refine g_newa_b (k := kn) (N := q) hC hT.1 G hA h3 (wm 7 rfl) (nI_pos (by omega)) (nI_clamp (by omega)) (by show q * 1 ≤ _; omega) (Nat.le_of_ble_eq_true rfl) (by show 0 + q ≤ 70; omega) dJ7_copyOf_9075b_15 (fun o H G => ?_)
  have f1 : gU lay kn o kb = lay kb := gU_ne hne
  have f2 : gU lay kn o kn = o := gU_eq
  have g1 : gU X kn (some (bsE cy q (fun _ => 0))) kb = some (bsE cy m a) := (gU_ne hne).trans h2
  have g2 : gU X kn (some (bsE cy q (fun _ => 0))) kn = some (bsE cy q (fun _ => 0)) := gU_eq
  refine lv_astore_n (lv' := [(2, .ref o), (0, .ref (lay kb)), (1, .int (nI q))]) hC.1 hC.2.1 dJ7_copyOf_9075b_17 rfl hl (by decide) rfl (fun ls hl => ?_)
  refine lv_aload_n hC.1 hC.2.1 dJ7_copyOf_9075b_18 rfl (lv_at hl 1 rfl) ?_
  refine lv_iconst (v := 0) hC.1 hC.2.1 dJ7_copyOf_9075b_19 (by decide) ?_
  refine lv_aload_n hC.1 hC.2.1 dJ7_copyOf_9075b_20 rfl (lv_at hl 0 rfl) ?_
  refine lv_iconst (v := 0) hC.1 hC.2.1 dJ7_copyOf_9075b_21 (by decide) ?_
  refine lv_aload_n hC.1 hC.2.1 dJ7_copyOf_9075b_22 rfl (lv_at hl 1 rfl) ?_
  obtain ⟨q23, hq23⟩ := gW_pos (lay := gU lay kn o) hkb g1
  rw [f1] at hq23
  refine va_alen hC.1 hC.2.1 hT.1 (gP_list G.1) q23 8 hq23 rfl rfl dJ7_copyOf_9075b_23 ?_
  refine lv_iload_n hC.1 hC.2.1 dJ7_copyOf_9075b_24 rfl (lv_at hl 2 rfl) ?_
  refine va_mmin hC.1 hC.2.1 (hC.2.2.1.trans hl.1.symm) hC.2.2.2.1 (hC.2.2.2.2 _ (wm 8 rfl)) (hC.2.2.2.2 _ (wm 9 rfl)) (hC.2.2.2.2 _ (wm 10 rfl)) (hC.2.2.2.2 _ (wm 11 rfl)) (Nat.le_of_ble_eq_true rfl) (Nat.le_of_ble_eq_true rfl) (Nat.le_of_ble_eq_true rfl) (by show 0 + q ≤ 70; omega) dJ7_copyOf_9075b_25 ?_
  rw [show (if nI q < Int32.ofNat m then nI q else Int32.ofNat m) = nI m from if_neg (nI_nlt (by omega) (by omega))]
  refine g_bcopy hC hl.1 hT.1 G (wm 12 rfl) (wm 13 rfl) (wm 14 rfl) (wm 15 rfl) f1 f2 hkb hkn g1 g2 hf (n := m) (by omega) (Nat.le_refl _) (by omega) (Nat.le_of_ble_eq_true rfl) (Nat.le_of_ble_eq_true rfl) dJ7_copyOf_9075b_28 (fun H locs G => ?_)
  rw [gU_gU] at G
  refine lv_aload_n hC.1 hC.2.1 dJ7_copyOf_9075b_31 rfl (lv_at hl 0 rfl) ?_
  refine W.widen (k := 1) (n := 70) (Nat.le_of_ble_eq_true rfl) (by show 0 + q ≤ 70; omega) ?_
  exact W.aret (v := .ref o) hC.1 hC.2.1 hr (Or.inr ⟨_, rfl⟩) (Or.inr ⟨_, rfl⟩) (fun t ht hW => ⟨⟨(gU lay kn o, gU X kn (some (bsE cy q (va_cpy a (fun _ => 0) 0 0 m)))), o, rfl, ⟨o, _, sb_fitC hf sb_fit0, rfl⟩, gU_eq.symm, by rw [ht]; exact G.1, G.2.1⟩, G.2.2.F ht⟩) G.2.2.2.2 dJ7_copyOf_9075b_32 hlocks
set_option maxHeartbeats 4000000 in
set_option maxRecDepth 100000 in
/-- ensureCapacityInternal -/
theorem c_ensure (l : Launch) (D : va_G) (cy : Nat → ClassId) (lay : Nat → Nat) (X : Nat → Option va_E) {k kb kn : Nat} (hk : k < 128) (hkb : kb < 128) (hkn : kn < 128) (hne : kb ≠ k) {m : Nat} {a : Nat → Int32} {n ml : Int32} (h1 : X k = some (sbE (lay kb) n ml)) (h2 : X kb = some (bsE cy m a)) (h3 : X kn = none) (hf : sb_Fit a) (hm : capOk m) {q : Nat} (hq : q ≤ m + 18) (hq2 : q ≤ 70) (sz : Nat) : Met l yJ5_ensureCapacityInternal_d00df wsJ5_ensureCapacityInternal_d00df (rmS 3 1 70) (va_Pc [.ref (lay k), .int (nI q)] (sI D cy none lay X sz)) (va_Qv (fun Y : GY => ∃ o m' a', sb_Fit a' ∧ capOk m' ∧ q ≤ m' ∧ m ≤ m' ∧ Y = (gU lay kb o, sbX cy X k kb o m' a' n ml)) (gO D (gA lay X sz)) (gA lay X sz)) 1 70 (gA lay X sz) := by
  refine s_ofW (cc := cJ5_ensureCapacityInternal_d00df) (maxL := 3) (ret := none) (own := RJ5) (Qc := fun sz => va_Qv (fun Y : GY => ∃ o m' a', sb_Fit a' ∧ capOk m' ∧ q ≤ m' ∧ m ≤ m' ∧ Y = (gU lay kb o, sbX cy X k kb o m' a' n ml)) (gO D (gA lay X sz)) (gA lay X sz)) (by decide) rfl (Nat.le_of_ble_eq_true rfl) rfl ?_
  intro p e0 s m9 args below meth c ls hC hr hlocks hname hT hX G hl
  have hl : lv_has ls 3 [(0, .ref (lay k)), (1, .int (nI q))] := hl
  have hA : ∀ q, s.heap.size ≤ q → gA lay X s.heap.size q := fun _ h => Or.inr h
  have hm100 : m < 100 := by unfold capOk at hm; omega
  have hnk : k ≠ kn := fun e => by rw [e, h3] at h1; cases h1
  have hnb : kb ≠ kn := fun e => by rw [e, h3] at h2; cases h2
  refine lv_aload_n hC.1 hC.2.1 dJ5_ensureCapacityInternal_d00df_0 rfl (lv_at hl 0 rfl) ?_
  refine g_get hC hT.1 G hk h1 k_SB (fun _ h => List.mem_cons_of_mem _ (List.mem_append_right _ h)) 0 (by decide) (wm 1 rfl) rfl dJ5_ensureCapacityInternal_d00df_1 ?_
  obtain ⟨q4, hq4⟩ := gW_pos (lay := lay) hkb h2
  refine va_alen hC.1 hC.2.1 hT.1 (gP_list G.1) q4 8 hq4 rfl rfl dJ5_ensureCapacityInternal_d00df_4 ?_
  refine lv_aload_n hC.1 hC.2.1 dJ5_ensureCapacityInternal_d00df_5 rfl (lv_at hl 0 rfl) ?_
  refine g_get hC hT.1 G hk h1 k_SB (fun _ h => List.mem_cons_of_mem _ (List.mem_append_right _ h)) 1 (by decide) (wm 2 rfl) rfl dJ5_ensureCapacityInternal_d00df_6 ?_
  refine lv_ishr hC.1 hC.2.1 dJ5_ensureCapacityInternal_d00df_9 ?_
  rw [sb_shr0]
  refine lv_istore_n (lv' := [(2, .int (nI m)), (0, .ref (lay k)), (1, .int (nI q))]) hC.1 hC.2.1 dJ5_ensureCapacityInternal_d00df_10 rfl hl (by decide) rfl (fun ls hl => ?_)
  refine lv_iload_n hC.1 hC.2.1 dJ5_ensureCapacityInternal_d00df_11 rfl (lv_at hl 2 rfl) ?_
  refine lv_iload_n hC.1 hC.2.1 dJ5_ensureCapacityInternal_d00df_12 rfl (lv_at hl 0 rfl) ?_
  refine lv_isub hC.1 hC.2.1 dJ5_ensureCapacityInternal_d00df_13 ?_
  have e1 : (nI q - nI m).toInt = (q : Int) - m := pk_sub_toInt (by omega) (by omega)
  refine lv_if_le (tgt := 38) hC.1 hC.2.1 dJ5_ensureCapacityInternal_d00df_14 (by decide) (fun c1 => ?_) (fun c1 => ?_)
  · have hqm : q ≤ m := by
      rw [Int32.le_iff_toInt_le, e1, Int32.toInt_zero] at c1
      omega
    refine W.widen (k := 1) (n := 70) (by decide) (by decide) ?_
    exact g_vret (Y := (lay, X)) hC hr hlocks G ⟨lay kb, m, a, hf, hm, hqm, Nat.le_refl _, by rw [gU_self rfl, sbX_id h1 h2]⟩ dJ5_ensureCapacityInternal_d00df_38
  have hqm : m < q := by
    rw [Int32.le_iff_toInt_le, e1, Int32.toInt_zero] at c1
    omega
  have hc2 : capOk (2 * m + 2) := by unfold capOk at hm ⊢; omega
  have hm70 : 2 * m + 2 ≤ 70 := by unfold capOk at hm; omega
  have hm16 : 16 ≤ m := by unfold capOk at hm; omega
  refine lv_aload_n hC.1 hC.2.1 dJ5_ensureCapacityInternal_d00df_17 rfl (lv_at hl 1 rfl) ?_
  refine lv_aload_n hC.1 hC.2.1 dJ5_ensureCapacityInternal_d00df_18 rfl (lv_at hl 1 rfl) ?_
  refine g_get hC hT.1 G hk h1 k_SB (fun _ h => List.mem_cons_of_mem _ (List.mem_append_right _ h)) 0 (by decide) (wm 1 rfl) rfl dJ5_ensureCapacityInternal_d00df_19 ?_
  refine lv_aload_n hC.1 hC.2.1 dJ5_ensureCapacityInternal_d00df_22 rfl (lv_at hl 1 rfl) ?_
  refine lv_iload_n hC.1 hC.2.1 dJ5_ensureCapacityInternal_d00df_23 rfl (lv_at hl 2 rfl) ?_
  refine g_i G hA (s_runU (As := [.int (nI q)]) (rest := [.ref (lay kb), .ref (lay k)]) hC hT hA G (fun _ h => by cases h) (c_newCap l D cy lay X hk hkb hne h1 h2 hm100 hqm (by unfold capOk at hm; omega) _) (va_cwU 1 hC.2.2.2.2 gJ5_ensureCapacityInternal_d00df_J5_newCapacity_0f7a4_u104J4 rfl rfl rfl rfl hdU_J5_newCapacity_0f7a4 ⟨Nat.le_of_ble_eq_true rfl, Nat.le_of_ble_eq_true rfl⟩) (s_recv hT G hk h1 k_SB) rfl hl.1 rfl (Nat.le_of_ble_eq_true rfl) dJ5_ensureCapacityInternal_d00df_24 ⟨Nat.le_of_ble_eq_true rfl, Nat.le_of_ble_eq_true rfl⟩) (fun r Y H locs hY G => ?_)
  obtain ⟨rfl, rfl⟩ := hY
  refine lv_aload_n hC.1 hC.2.1 dJ5_ensureCapacityInternal_d00df_27 rfl (lv_at hl 1 rfl) ?_
  refine g_get hC hT.1 G hk h1 k_SB (fun _ h => List.mem_cons_of_mem _ (List.mem_append_right _ h)) 1 (by decide) (wm 2 rfl) rfl dJ5_ensureCapacityInternal_d00df_28 ?_
  refine lv_ishl hC.1 hC.2.1 dJ5_ensureCapacityInternal_d00df_31 ?_
  rw [sb_shl0]
  refine k_r (f := fun Y => Y.1 kn) G hA (s_runS (As := [.ref (lay kb), .int (nI (2 * m + 2))]) (rest := [.ref (lay k)]) hC hT hA G (fun _ h => by cases h) (c_copyOf l D cy lay X hkb hkn h2 h3 hf (q := 2 * m + 2) (by omega) hm70 _) (va_cwS 2 hC.2.2.2.2 gJ5_ensureCapacityInternal_d00df_J7_copyOf_9075b rfl rfl rfl hdS_J7_copyOf_9075b ⟨Nat.le_of_ble_eq_true rfl, Nat.le_of_ble_eq_true rfl⟩) rfl hl.1 rfl (Nat.le_of_ble_eq_true rfl) dJ5_ensureCapacityInternal_d00df_32 ⟨Nat.le_of_ble_eq_true rfl, Nat.le_of_ble_eq_true rfl⟩) (fun Y H locs hY G => ?_)
  obtain ⟨o, a', hfa, rfl⟩ := hY
  have G : gG D (gU lay kn o) (gU X kn (some (bsE cy (2 * m + 2) a'))) (gA lay X s.heap.size) s.heap H locs := G
  have e2 : gU lay kn o k = lay k := gU_ne hnk
  have e3 : gU lay kn o kn = o := gU_eq
  show W _ _ _ _ _ _ _ _ _ _ _ _ _ _ _ (F0 _ _ _ (.ref (gU lay kn o kn) :: _))
  rw [e3]
  refine g_putA (a := lay k) e2 hC hT.1 G hk ((gU_ne hnk).trans h1) k_SB (fun _ h => List.mem_cons_of_mem _ (List.mem_append_right _ h)) 0 (by decide) (wm 1 rfl) rfl rfl rfl (by simp) dJ5_ensureCapacityInternal_d00df_35 (fun H locs G => ?_)
  have G : gG D (gU lay kn o) (gU (gU X kn (some (bsE cy (2 * m + 2) a'))) k (some (sbE o n ml))) (gA lay X s.heap.size) s.heap H locs := G
  have G : gG D (gU lay kb o) (sbX cy X k kb o (2 * m + 2) a' n ml) (gA lay X s.heap.size) s.heap H locs := by
    refine gG_move (ke := kb) (kn := kn) (e1 := bsE cy (2 * m + 2) a') hkn ((gU_ne (Ne.symm hnk)).trans gU_eq) ?_ (fun i hi hj => ?_) (sbX_b hne) ?_ (fun i hi hj => ?_) G
    · rw [gU_eq, gU_eq]
    · rw [gU_ne hi, gU_ne hj]
    · rw [sbX_o (Ne.symm hnk) (Ne.symm hnb)]
      exact h3
    · by_cases hik : i = k
      · subst hik
        rw [sbX_k, gU_eq]
      · rw [sbX_o hik hi, gU_ne hik, gU_ne hj]
  exact g_vret (Y := (gU lay kb o, sbX cy X k kb o (2 * m + 2) a' n ml)) hC hr hlocks G ⟨o, 2 * m + 2, a', hfa, hc2, by omega, by omega, rfl⟩ dJ5_ensureCapacityInternal_d00df_38
end
section
/-! TEXTS: walks of StringBuilder, String (65c.sb) -/
set_option maxHeartbeats 4000000 in
set_option maxRecDepth 100000 in
/-- Integer.stringSize -/
theorem c_ssz (l : Launch) (D : va_G) (cy : Nat → ClassId) (lay : Nat → Nat) (X : Nat → Option va_E) {v : Nat} (hv : v < 1000) (sz : Nat) : Met l yJ6_stringSize_0f7a4 wsJ6_stringSize_0f7a4 (rmS 0 0 0) (va_Pc [.int (nI v)] (sI D cy none lay X sz)) (va_Qi (fun (r : Int32) (Y : GY) => r = nI (dg v) ∧ Y = (lay, X)) (gO D (gA lay X sz)) (gA lay X sz)) 0 0 (gA lay X sz) := by
  refine s_ofW (cc := cJ6_stringSize_0f7a4) (maxL := 4) (ret := (some .int)) (own := RJ6) (Qc := fun sz => va_Qi (fun (r : Int32) (Y : GY) => r = nI (dg v) ∧ Y = (lay, X)) (gO D (gA lay X sz)) (gA lay X sz)) (by decide) rfl (Nat.le_of_ble_eq_true rfl) rfl ?_
  intro p e0 s m9 args below meth c ls hC hr hlocks hname hT hX G hl
  have hl : lv_has ls 4 [(0, .int (nI v))] := hl
  have hA : ∀ q, s.heap.size ≤ q → gA lay X s.heap.size q := fun _ h => Or.inr h
  refine lv_iconst (v := 1) hC.1 hC.2.1 dJ6_stringSize_0f7a4_0 (by decide) ?_
  refine lv_istore_n (lv' := [(1, .int 1), (0, .int (nI v))]) hC.1 hC.2.1 dJ6_stringSize_0f7a4_1 rfl hl (by decide) rfl (fun ls hl => ?_)
  refine lv_iload_n hC.1 hC.2.1 dJ6_stringSize_0f7a4_2 rfl (lv_at hl 1 rfl) ?_
  refine lv_if_lt (tgt := 11) hC.1 hC.2.1 dJ6_stringSize_0f7a4_3 (by decide) (fun c1 => absurd c1 (nI_pos (by omega))) (fun _ => ?_)
  refine lv_iconst (v := 0) hC.1 hC.2.1 dJ6_stringSize_0f7a4_6 (by decide) ?_
  refine lv_istore_n (lv' := [(1, .int 0), (0, .int (nI v))]) hC.1 hC.2.1 dJ6_stringSize_0f7a4_7 rfl hl (by decide) rfl (fun ls hl => ?_)
  refine lv_iload_n hC.1 hC.2.1 dJ6_stringSize_0f7a4_8 rfl (lv_at hl 1 rfl) ?_
  refine lv_ineg hC.1 hC.2.1 dJ6_stringSize_0f7a4_9 ?_
  refine lv_istore_n (lv' := [(0, .int (-(nI v))), (1, .int 0)]) hC.1 hC.2.1 dJ6_stringSize_0f7a4_10 rfl hl (by decide) rfl (fun ls hl => ?_)
  refine lv_bipush (v := (-10)) hC.1 hC.2.1 dJ6_stringSize_0f7a4_11 (by decide) ?_
  refine lv_istore_n (lv' := [(2, .int (-10)), (0, .int (-(nI v))), (1, .int 0)]) hC.1 hC.2.1 dJ6_stringSize_0f7a4_13 rfl hl (by decide) rfl (fun ls hl => ?_)
  refine lv_iconst (v := 1) hC.1 hC.2.1 dJ6_stringSize_0f7a4_14 (by decide) ?_
  refine lv_istore_n (lv' := [(3, .int 1), (2, .int (-10)), (0, .int (-(nI v))), (1, .int 0)]) hC.1 hC.2.1 dJ6_stringSize_0f7a4_15 rfl hl (by decide) rfl (fun ls hl => ?_)
  refine lv_iload_n hC.1 hC.2.1 dJ6_stringSize_0f7a4_16 rfl (lv_at hl 0 rfl) ?_
  refine lv_bipush (v := 10) hC.1 hC.2.1 dJ6_stringSize_0f7a4_17 (by decide) ?_
  refine lv_icmp_ge (tgt := 42) hC.1 hC.2.1 dJ6_stringSize_0f7a4_19 (by decide) (fun c1 => absurd c1 (by decide)) (fun _ => ?_)
  refine lv_iload_n hC.1 hC.2.1 dJ6_stringSize_0f7a4_22 rfl (lv_at hl 2 rfl) ?_
  refine lv_iload_n hC.1 hC.2.1 dJ6_stringSize_0f7a4_23 rfl (lv_at hl 1 rfl) ?_
  refine lv_icmp_le (tgt := 31) hC.1 hC.2.1 dJ6_stringSize_0f7a4_24 (by decide) (fun c1 => ?_) (fun c1 => ?_)
  rotate_left
  · skip
    have hlt : v < 10 := Nat.lt_of_not_le fun q => c1 ((ng_le (a := v) (b := 10) (by omega) (by decide)).mpr q)
    have hd : nI 1 + 0 = nI (dg v) := by
      rw [show dg v = 1 from by unfold dg; split <;> (try split) <;> omega]
      rfl
    refine lv_iload_n hC.1 hC.2.1 dJ6_stringSize_0f7a4_27 rfl (lv_at hl 0 rfl) ?_
    refine lv_iload_n hC.1 hC.2.1 dJ6_stringSize_0f7a4_28 rfl (lv_at hl 3 rfl) ?_
    refine lv_iadd hC.1 hC.2.1 dJ6_stringSize_0f7a4_29 ?_
    rw [show (1 : Int32) + 0 = nI (dg v) from hd]
    exact W.iret (v := nI (dg v)) hC.1 hC.2.1 hr (fun t ht hW => ⟨⟨nI (dg v), (lay, X), rfl, ⟨rfl, rfl⟩, by rw [ht]; exact G.1, G.2.1⟩, G.2.2.F ht⟩) G.2.2.2.2 dJ6_stringSize_0f7a4_30 hlocks
  have hge1 : 10 ≤ v := (ng_le (a := v) (b := 10) (by omega) (by decide)).mp c1
  refine lv_bipush (v := 10) hC.1 hC.2.1 dJ6_stringSize_0f7a4_31 (by decide) ?_
  refine lv_iload_n hC.1 hC.2.1 dJ6_stringSize_0f7a4_33 rfl (lv_at hl 1 rfl) ?_
  refine lv_imul hC.1 hC.2.1 dJ6_stringSize_0f7a4_34 ?_
  rw [show (10 : Int32) * (-10) = -100 from by decide]
  refine lv_istore_n (lv' := [(2, .int (-100)), (3, .int 1), (0, .int (-(nI v))), (1, .int 0)]) hC.1 hC.2.1 dJ6_stringSize_0f7a4_35 rfl hl (by decide) rfl (fun ls hl => ?_)
  refine lv_iinc (k := 1) (v := 2) (lv' := [(3, .int 2), (2, .int (-100)), (0, .int (-(nI v))), (1, .int 0)]) hC.1 hC.2.1 dJ6_stringSize_0f7a4_36 hl rfl (by decide) (by decide) rfl (fun ls hl => ?_)
  refine lv_goto (tgt := 16) hC.1 hC.2.1 dJ6_stringSize_0f7a4_39 (by decide) ?_
  refine lv_iload_n hC.1 hC.2.1 dJ6_stringSize_0f7a4_16 rfl (lv_at hl 0 rfl) ?_
  refine lv_bipush (v := 10) hC.1 hC.2.1 dJ6_stringSize_0f7a4_17 (by decide) ?_
  refine lv_icmp_ge (tgt := 42) hC.1 hC.2.1 dJ6_stringSize_0f7a4_19 (by decide) (fun c1 => absurd c1 (by decide)) (fun _ => ?_)
  refine lv_iload_n hC.1 hC.2.1 dJ6_stringSize_0f7a4_22 rfl (lv_at hl 2 rfl) ?_
  refine lv_iload_n hC.1 hC.2.1 dJ6_stringSize_0f7a4_23 rfl (lv_at hl 1 rfl) ?_
  refine lv_icmp_le (tgt := 31) hC.1 hC.2.1 dJ6_stringSize_0f7a4_24 (by decide) (fun c1 => ?_) (fun c1 => ?_)
  rotate_left
  · skip
    have hlt : v < 100 := Nat.lt_of_not_le fun q => c1 ((ng_le (a := v) (b := 100) (by omega) (by decide)).mpr q)
    have hd : nI 2 + 0 = nI (dg v) := by
      rw [show dg v = 2 from by unfold dg; split <;> (try split) <;> omega]
      rfl
    refine lv_iload_n hC.1 hC.2.1 dJ6_stringSize_0f7a4_27 rfl (lv_at hl 0 rfl) ?_
    refine lv_iload_n hC.1 hC.2.1 dJ6_stringSize_0f7a4_28 rfl (lv_at hl 3 rfl) ?_
    refine lv_iadd hC.1 hC.2.1 dJ6_stringSize_0f7a4_29 ?_
    rw [show (2 : Int32) + 0 = nI (dg v) from hd]
    exact W.iret (v := nI (dg v)) hC.1 hC.2.1 hr (fun t ht hW => ⟨⟨nI (dg v), (lay, X), rfl, ⟨rfl, rfl⟩, by rw [ht]; exact G.1, G.2.1⟩, G.2.2.F ht⟩) G.2.2.2.2 dJ6_stringSize_0f7a4_30 hlocks
  have hge2 : 100 ≤ v := (ng_le (a := v) (b := 100) (by omega) (by decide)).mp c1
  refine lv_bipush (v := 10) hC.1 hC.2.1 dJ6_stringSize_0f7a4_31 (by decide) ?_
  refine lv_iload_n hC.1 hC.2.1 dJ6_stringSize_0f7a4_33 rfl (lv_at hl 1 rfl) ?_
  refine lv_imul hC.1 hC.2.1 dJ6_stringSize_0f7a4_34 ?_
  rw [show (10 : Int32) * (-100) = -1000 from by decide]
  refine lv_istore_n (lv' := [(2, .int (-1000)), (3, .int 2), (0, .int (-(nI v))), (1, .int 0)]) hC.1 hC.2.1 dJ6_stringSize_0f7a4_35 rfl hl (by decide) rfl (fun ls hl => ?_)
  refine lv_iinc (k := 1) (v := 3) (lv' := [(3, .int 3), (2, .int (-1000)), (0, .int (-(nI v))), (1, .int 0)]) hC.1 hC.2.1 dJ6_stringSize_0f7a4_36 hl rfl (by decide) (by decide) rfl (fun ls hl => ?_)
  refine lv_goto (tgt := 16) hC.1 hC.2.1 dJ6_stringSize_0f7a4_39 (by decide) ?_
  refine lv_iload_n hC.1 hC.2.1 dJ6_stringSize_0f7a4_16 rfl (lv_at hl 0 rfl) ?_
  refine lv_bipush (v := 10) hC.1 hC.2.1 dJ6_stringSize_0f7a4_17 (by decide) ?_
  refine lv_icmp_ge (tgt := 42) hC.1 hC.2.1 dJ6_stringSize_0f7a4_19 (by decide) (fun c1 => absurd c1 (by decide)) (fun _ => ?_)
  refine lv_iload_n hC.1 hC.2.1 dJ6_stringSize_0f7a4_22 rfl (lv_at hl 2 rfl) ?_
  refine lv_iload_n hC.1 hC.2.1 dJ6_stringSize_0f7a4_23 rfl (lv_at hl 1 rfl) ?_
  refine lv_icmp_le (tgt := 31) hC.1 hC.2.1 dJ6_stringSize_0f7a4_24 (by decide) (fun c1 => absurd ((ng_le (a := v) (b := 1000) (by omega) (by decide)).mp c1) (by omega)) (fun c1 => ?_)
  have hge : 100 ≤ v := hge2
  have hd : nI 3 + 0 = nI (dg v) := by
    rw [show dg v = 3 from by unfold dg; split <;> (try split) <;> omega]
    rfl
  refine lv_iload_n hC.1 hC.2.1 dJ6_stringSize_0f7a4_27 rfl (lv_at hl 0 rfl) ?_
  refine lv_iload_n hC.1 hC.2.1 dJ6_stringSize_0f7a4_28 rfl (lv_at hl 3 rfl) ?_
  refine lv_iadd hC.1 hC.2.1 dJ6_stringSize_0f7a4_29 ?_
  rw [show (3 : Int32) + 0 = nI (dg v) from hd]
  exact W.iret (v := nI (dg v)) hC.1 hC.2.1 hr (fun t ht hW => ⟨⟨nI (dg v), (lay, X), rfl, ⟨rfl, rfl⟩, by rw [ht]; exact G.1, G.2.1⟩, G.2.2.F ht⟩) G.2.2.2.2 dJ6_stringSize_0f7a4_30 hlocks
set_option maxHeartbeats 4000000 in
set_option maxRecDepth 100000 in
theorem l_gc_72 {p : Program} {l : Launch} {e : Env} {s : State} {m0 : MethodId} {args : Array Value} {below : List Frame} {meth : Method} {c : Code} {D : va_G} {cy : Nat → ClassId} {lay : Nat → Nat} {X : Nat → Option va_E} {kb m : Nat} (hC : CallFix p m0 c cJ6_getChars_ba4f3 7 s args wsJ6_getChars_ba4f3 RJ6) (hr : meth.sig.returnType = some .int) (hlocks : meth.locks = false) (hT : tB D cy (gA lay X s.heap.size) s s.heap) (hkb : kb < 128) (hm : m < 100) :
    ∀ (u pp : Nat) (b : Nat → Int32) (H : Heap) (locs : List Loc) (ls : Array Slot), u < 100 → (if u < 10 then 1 else 2) ≤ pp → pp ≤ m → sb_Fit b → gG D lay (gU X kb (some (bsE cy m b))) (gA lay X s.heap.size) s.heap H locs → lv_has ls 7 [(5, .int (nI pp)), (0, .int (-(nI u))), (6, .int 0), (2, .ref (lay kb))] →
      W p l e (rmS 0 0 0) s m0 args below meth c H locs 0 0 (MQ below (va_Qi (fun (r : Int32) (Y : GY) => ∃ a', sb_Fit a' ∧ Y = (lay, gU X kb (some (bsE cy m a')))) (gO D (gA lay X s.heap.size)) (gA lay X s.heap.size)) args s 0 0 (gA lay X s.heap.size)) (F0 m0 72 ls []) := by
  intro u pp b H locs ls hu hpp hpm hb G hl
  have hp1 : 1 ≤ pp := by
    split at hpp <;> omega
  obtain ⟨-, -, -, q1, q2, f1, f2, z1, t1, z2, t2⟩ := id hT
  refine lv_aload_n hC.1 hC.2.1 dJ6_getChars_ba4f3_72 rfl (lv_at hl 3 rfl) ?_
  refine lv_iinc (k := 0) (v := nI (pp - 1)) (lv' := [(5, .int (nI (pp - 1))), (0, .int (-(nI u))), (6, .int 0), (2, .ref (lay kb))]) hC.1 hC.2.1 dJ6_getChars_ba4f3_73 hl rfl (iinc_m1 (by omega)) (by decide) rfl (fun ls hl => ?_)
  refine lv_iload hC.1 hC.2.1 dJ6_getChars_ba4f3_76 (lv_at hl 0 rfl) ?_
  refine va_gets hC.1 hC.2.1 z1 G.2.2 hC.2.2.2.1 (hC.2.2.2.2 _ (wm 1 rfl)) (fun _ h => h) dJ6_getChars_ba4f3_78 ?_
  refine lv_iload_n hC.1 hC.2.1 dJ6_getChars_ba4f3_81 rfl (lv_at hl 1 rfl) ?_
  refine lv_ineg hC.1 hC.2.1 dJ6_getChars_ba4f3_82 ?_
  rw [ng_ng]
  refine va_tb hC.1 hC.2.1 t1 G.2.2 (show vp_in (nI u) 100 from vp_in_nI hu (by decide)) rfl dJ6_getChars_ba4f3_83 ?_
  refine g_bast hC hT.1 G hkb rfl gU_eq (show vp_in (nI (pp - 1)) m from vp_in_nI (by omega) (by omega)) dJ6_getChars_ba4f3_84 (fun H locs G => ?_)
  rw [gU_gU] at G
  refine lv_iload_n hC.1 hC.2.1 dJ6_getChars_ba4f3_85 rfl (lv_at hl 1 rfl) ?_
  refine lv_bipush (v := (-9)) hC.1 hC.2.1 dJ6_getChars_ba4f3_86 (by decide) ?_
  refine lv_icmp_ge (tgt := 104) hC.1 hC.2.1 dJ6_getChars_ba4f3_88 (by decide) (fun c1 => ?_) (fun c1 => ?_)
  · skip
    refine lv_iload hC.1 hC.2.1 dJ6_getChars_ba4f3_104 (lv_at hl 2 rfl) ?_
    refine lv_if_eq (tgt := 118) hC.1 hC.2.1 dJ6_getChars_ba4f3_106 (by decide) (fun _ => ?_) (fun c1 => absurd rfl c1)
    refine lv_iload hC.1 hC.2.1 dJ6_getChars_ba4f3_118 (lv_at hl 0 rfl) ?_
    exact W.iret (v := nI (pp - 1)) hC.1 hC.2.1 hr (fun t ht hW => ⟨⟨nI (pp - 1), (lay, gU X kb (some (bsE cy m (upd b (nI (pp - 1)).toNatClampNeg (vp_nar .byte (f1 (nI u).toNatClampNeg)))))), rfl, ⟨_, sb_fitU hb (pk_fb _), rfl⟩, by rw [ht]; exact G.1, G.2.1⟩, G.2.2.F ht⟩) G.2.2.2.2 dJ6_getChars_ba4f3_120 hlocks
  have hu10 : 10 ≤ u := by
    rcases Nat.lt_or_ge u 10 with q | q
    · exact absurd ((ng_le (a := 9) (b := u) (by decide) (by omega)).mpr (by omega)) c1
    · exact q
  rw [if_neg (by omega)] at hpp
  refine lv_aload_n hC.1 hC.2.1 dJ6_getChars_ba4f3_91 rfl (lv_at hl 3 rfl) ?_
  refine lv_iinc (k := 0) (v := nI (pp - 1 - 1)) (lv' := [(5, .int (nI (pp - 1 - 1))), (0, .int (-(nI u))), (6, .int 0), (2, .ref (lay kb))]) hC.1 hC.2.1 dJ6_getChars_ba4f3_92 hl rfl (iinc_m1 (by omega)) (by decide) rfl (fun ls hl => ?_)
  refine lv_iload hC.1 hC.2.1 dJ6_getChars_ba4f3_95 (lv_at hl 0 rfl) ?_
  refine va_gets hC.1 hC.2.1 z2 G.2.2 hC.2.2.2.1 (hC.2.2.2.2 _ (wm 2 rfl)) (fun _ h => h) dJ6_getChars_ba4f3_97 ?_
  refine lv_iload_n hC.1 hC.2.1 dJ6_getChars_ba4f3_100 rfl (lv_at hl 1 rfl) ?_
  refine lv_ineg hC.1 hC.2.1 dJ6_getChars_ba4f3_101 ?_
  rw [ng_ng]
  refine va_tb hC.1 hC.2.1 t2 G.2.2 (show vp_in (nI u) 100 from vp_in_nI hu (by decide)) rfl dJ6_getChars_ba4f3_102 ?_
  refine g_bast hC hT.1 G hkb rfl gU_eq (show vp_in (nI (pp - 1 - 1)) m from vp_in_nI (by omega) (by omega)) dJ6_getChars_ba4f3_103 (fun H locs G => ?_)
  rw [gU_gU] at G
  refine lv_iload hC.1 hC.2.1 dJ6_getChars_ba4f3_104 (lv_at hl 2 rfl) ?_
  refine lv_if_eq (tgt := 118) hC.1 hC.2.1 dJ6_getChars_ba4f3_106 (by decide) (fun _ => ?_) (fun c1 => absurd rfl c1)
  refine lv_iload hC.1 hC.2.1 dJ6_getChars_ba4f3_118 (lv_at hl 0 rfl) ?_
  exact W.iret (v := nI (pp - 1 - 1)) hC.1 hC.2.1 hr (fun t ht hW => ⟨⟨nI (pp - 1 - 1), (lay, gU X kb (some (bsE cy m (upd (upd b (nI (pp - 1)).toNatClampNeg (vp_nar .byte (f1 (nI u).toNatClampNeg))) (nI (pp - 1 - 1)).toNatClampNeg (vp_nar .byte (f2 (nI u).toNatClampNeg)))))), rfl, ⟨_, sb_fitU (sb_fitU hb (pk_fb _)) (pk_fb _), rfl⟩, by rw [ht]; exact G.1, G.2.1⟩, G.2.2.F ht⟩) G.2.2.2.2 dJ6_getChars_ba4f3_120 hlocks
set_option maxHeartbeats 4000000 in
set_option maxRecDepth 100000 in
/-- Integer.getChars -/
theorem c_gch (l : Launch) (D : va_G) (cy : Nat → ClassId) (lay : Nat → Nat) (X : Nat → Option va_E) {kb : Nat} (hkb : kb < 128) {m v pp : Nat} {a : Nat → Int32} (h2 : X kb = some (bsE cy m a)) (hf : sb_Fit a) (hm : m < 100) (hv : v < 1000) (hp : dg v ≤ pp) (hpm : pp ≤ m) (sz : Nat) : Met l yJ6_getChars_ba4f3 wsJ6_getChars_ba4f3 (rmS 0 0 0) (va_Pc [.int (nI v), .int (nI pp), .ref (lay kb)] (sI D cy none lay X sz)) (va_Qi (fun (r : Int32) (Y : GY) => ∃ a', sb_Fit a' ∧ Y = (lay, gU X kb (some (bsE cy m a')))) (gO D (gA lay X sz)) (gA lay X sz)) 0 0 (gA lay X sz) := by
  refine s_ofW (cc := cJ6_getChars_ba4f3) (maxL := 7) (ret := (some .int)) (own := RJ6) (Qc := fun sz => va_Qi (fun (r : Int32) (Y : GY) => ∃ a', sb_Fit a' ∧ Y = (lay, gU X kb (some (bsE cy m a')))) (gO D (gA lay X sz)) (gA lay X sz)) (by decide) rfl (Nat.le_of_ble_eq_true rfl) rfl ?_
  intro p e0 s m9 args below meth c ls hC hr hlocks hname hT hX G hl
  have hl : lv_has ls 7 [(0, .int (nI v)), (1, .int (nI pp)), (2, .ref (lay kb))] := hl
  have hA : ∀ q, s.heap.size ≤ q → gA lay X s.heap.size q := fun _ h => Or.inr h
  obtain ⟨-, -, -, q1, q2, f1, f2, z1, t1, z2, t2⟩ := id hT
  refine lv_iload_n hC.1 hC.2.1 dJ6_getChars_ba4f3_0 rfl (lv_at hl 1 rfl) ?_
  refine lv_istore (lv' := [(5, .int (nI pp)), (0, .int (nI v)), (1, .int (nI pp)), (2, .ref (lay kb))]) hC.1 hC.2.1 dJ6_getChars_ba4f3_1 hl (by decide) rfl (fun ls hl => ?_)
  refine lv_iload_n hC.1 hC.2.1 dJ6_getChars_ba4f3_3 rfl (lv_at hl 1 rfl) ?_
  refine lv_if_ge (tgt := 11) hC.1 hC.2.1 dJ6_getChars_ba4f3_4 (by decide) (fun _ => ?_) (fun c1 => absurd (show (0 : Int32) ≤ nI v from nI_le (a := 0) (by omega) (by omega)) c1)
  refine lv_iconst (v := 0) hC.1 hC.2.1 dJ6_getChars_ba4f3_11 (by decide) ?_
  refine lv_istore (lv' := [(6, .int 0), (5, .int (nI pp)), (0, .int (nI v)), (1, .int (nI pp)), (2, .ref (lay kb))]) hC.1 hC.2.1 dJ6_getChars_ba4f3_12 hl (by decide) rfl (fun ls hl => ?_)
  refine lv_iload hC.1 hC.2.1 dJ6_getChars_ba4f3_14 (lv_at hl 0 rfl) ?_
  refine lv_if_ne (tgt := 22) hC.1 hC.2.1 dJ6_getChars_ba4f3_16 (by decide) (fun c1 => absurd rfl c1) (fun _ => ?_)
  refine lv_iload_n hC.1 hC.2.1 dJ6_getChars_ba4f3_19 rfl (lv_at hl 2 rfl) ?_
  refine lv_ineg hC.1 hC.2.1 dJ6_getChars_ba4f3_20 ?_
  refine lv_istore_n (lv' := [(0, .int (-(nI v))), (6, .int 0), (5, .int (nI pp)), (1, .int (nI pp)), (2, .ref (lay kb))]) hC.1 hC.2.1 dJ6_getChars_ba4f3_21 rfl hl (by decide) rfl (fun ls hl => ?_)
  refine lv_iload_n hC.1 hC.2.1 dJ6_getChars_ba4f3_22 rfl (lv_at hl 0 rfl) ?_
  refine lv_bipush (v := (-100)) hC.1 hC.2.1 dJ6_getChars_ba4f3_23 (by decide) ?_
  have G : gG D lay (gU X kb (some (bsE cy m a))) (gA lay X s.heap.size) s.heap s.heap [] := by rw [gU_self h2]; exact G
  refine lv_icmp_gt (tgt := 72) hC.1 hC.2.1 dJ6_getChars_ba4f3_25 (by decide) (fun c1 => ?_) (fun c1 => ?_)
  · have hv100 : v < 100 := (ng_lt (a := 100) (b := v) (by decide) (by omega)).mp c1
    exact l_gc_72 hC hr hlocks hT hkb hm v pp a _ _ _ hv100 (by unfold dg at hp; split at hp <;> split <;> first | omega | (split at hp <;> omega)) hpm hf G (lv_sub hl [2, 0, 1, 4] rfl)
  have hv100 : 100 ≤ v := Nat.le_of_not_lt fun q => c1 ((ng_lt (a := 100) (b := v) (by decide) (by omega)).mpr q)
  have hp3 : 3 ≤ pp := by
    unfold dg at hp
    rw [if_neg (by omega), if_neg (by omega)] at hp
    exact hp
  refine lv_iload_n hC.1 hC.2.1 dJ6_getChars_ba4f3_28 rfl (lv_at hl 0 rfl) ?_
  refine lv_bipush (v := 100) hC.1 hC.2.1 dJ6_getChars_ba4f3_29 (by decide) ?_
  refine lv_idiv hC.1 hC.2.1 dJ6_getChars_ba4f3_31 (by decide) ?_
  rw [ng_d v hv]
  refine lv_istore_n (lv' := [(3, .int (-(nI (v / 100)))), (0, .int (-(nI v))), (6, .int 0), (5, .int (nI pp)), (1, .int (nI pp)), (2, .ref (lay kb))]) hC.1 hC.2.1 dJ6_getChars_ba4f3_32 rfl hl (by decide) rfl (fun ls hl => ?_)
  refine lv_iload_n hC.1 hC.2.1 dJ6_getChars_ba4f3_33 rfl (lv_at hl 0 rfl) ?_
  refine lv_bipush (v := 100) hC.1 hC.2.1 dJ6_getChars_ba4f3_34 (by decide) ?_
  refine lv_imul hC.1 hC.2.1 dJ6_getChars_ba4f3_36 ?_
  refine lv_iload_n hC.1 hC.2.1 dJ6_getChars_ba4f3_37 rfl (lv_at hl 1 rfl) ?_
  refine lv_isub hC.1 hC.2.1 dJ6_getChars_ba4f3_38 ?_
  rw [ng_r v hv]
  refine lv_istore (lv' := [(4, .int (nI (v % 100))), (3, .int (-(nI (v / 100)))), (0, .int (-(nI v))), (6, .int 0), (5, .int (nI pp)), (1, .int (nI pp)), (2, .ref (lay kb))]) hC.1 hC.2.1 dJ6_getChars_ba4f3_39 hl (by decide) rfl (fun ls hl => ?_)
  refine lv_iload_n hC.1 hC.2.1 dJ6_getChars_ba4f3_41 rfl (lv_at hl 1 rfl) ?_
  refine lv_istore_n (lv' := [(0, .int (-(nI (v / 100)))), (4, .int (nI (v % 100))), (3, .int (-(nI (v / 100)))), (6, .int 0), (5, .int (nI pp)), (1, .int (nI pp)), (2, .ref (lay kb))]) hC.1 hC.2.1 dJ6_getChars_ba4f3_42 rfl hl (by decide) rfl (fun ls hl => ?_)
  refine lv_aload_n hC.1 hC.2.1 dJ6_getChars_ba4f3_43 rfl (lv_at hl 6 rfl) ?_
  refine lv_iinc (k := 4) (v := nI (pp - 1)) (lv' := [(5, .int (nI (pp - 1))), (0, .int (-(nI (v / 100)))), (4, .int (nI (v % 100))), (3, .int (-(nI (v / 100)))), (6, .int 0), (1, .int (nI pp)), (2, .ref (lay kb))]) hC.1 hC.2.1 dJ6_getChars_ba4f3_44 hl rfl (iinc_m1 (by omega)) (by decide) rfl (fun ls hl => ?_)
  refine lv_iload hC.1 hC.2.1 dJ6_getChars_ba4f3_47 (lv_at hl 0 rfl) ?_
  refine va_gets hC.1 hC.2.1 z1 G.2.2 hC.2.2.2.1 (hC.2.2.2.2 _ (wm 1 rfl)) (fun _ h => h) dJ6_getChars_ba4f3_49 ?_
  refine lv_iload hC.1 hC.2.1 dJ6_getChars_ba4f3_52 (lv_at hl 2 rfl) ?_
  refine va_tb hC.1 hC.2.1 t1 G.2.2 (show vp_in (nI (v % 100)) 100 from vp_in_nI (by omega) (by decide)) rfl dJ6_getChars_ba4f3_54 ?_
  refine g_bast hC hT.1 G hkb rfl gU_eq (show vp_in (nI (pp - 1)) m from vp_in_nI (by omega) (by omega)) dJ6_getChars_ba4f3_55 (fun H locs G => ?_)
  rw [gU_gU] at G
  refine lv_aload_n hC.1 hC.2.1 dJ6_getChars_ba4f3_56 rfl (lv_at hl 6 rfl) ?_
  refine lv_iinc (k := 0) (v := nI (pp - 1 - 1)) (lv' := [(5, .int (nI (pp - 1 - 1))), (0, .int (-(nI (v / 100)))), (4, .int (nI (v % 100))), (3, .int (-(nI (v / 100)))), (6, .int 0), (1, .int (nI pp)), (2, .ref (lay kb))]) hC.1 hC.2.1 dJ6_getChars_ba4f3_57 hl rfl (iinc_m1 (by omega)) (by decide) rfl (fun ls hl => ?_)
  refine lv_iload hC.1 hC.2.1 dJ6_getChars_ba4f3_60 (lv_at hl 0 rfl) ?_
  refine va_gets hC.1 hC.2.1 z2 G.2.2 hC.2.2.2.1 (hC.2.2.2.2 _ (wm 2 rfl)) (fun _ h => h) dJ6_getChars_ba4f3_62 ?_
  refine lv_iload hC.1 hC.2.1 dJ6_getChars_ba4f3_65 (lv_at hl 2 rfl) ?_
  refine va_tb hC.1 hC.2.1 t2 G.2.2 (show vp_in (nI (v % 100)) 100 from vp_in_nI (by omega) (by decide)) rfl dJ6_getChars_ba4f3_67 ?_
  refine g_bast hC hT.1 G hkb rfl gU_eq (show vp_in (nI (pp - 1 - 1)) m from vp_in_nI (by omega) (by omega)) dJ6_getChars_ba4f3_68 (fun H locs G => ?_)
  rw [gU_gU] at G
  refine lv_goto (tgt := 22) hC.1 hC.2.1 dJ6_getChars_ba4f3_69 (by decide) ?_
  refine lv_iload_n hC.1 hC.2.1 dJ6_getChars_ba4f3_22 rfl (lv_at hl 1 rfl) ?_
  refine lv_bipush (v := (-100)) hC.1 hC.2.1 dJ6_getChars_ba4f3_23 (by decide) ?_
  refine lv_icmp_gt (tgt := 72) hC.1 hC.2.1 dJ6_getChars_ba4f3_25 (by decide) (fun _ => ?_) (fun c2 => absurd ((ng_lt (a := 100) (b := v / 100) (by decide) (by omega)).mpr (by omega)) c2)
  exact l_gc_72 hC hr hlocks hT hkb hm (v / 100) (pp - 1 - 1) _ _ _ _ (by omega) (by rw [if_pos (by omega)]; omega) (by omega) (sb_fitU (sb_fitU hf (pk_fb _)) (pk_fb _)) G (lv_sub hl [0, 1, 4, 6] rfl)
end
section
/-! TEXTS: walks of StringBuilder, String (65d.sb) -/
set_option maxHeartbeats 4000000 in
set_option maxRecDepth 100000 in
/-- AbstractStringBuilder.append(int) -/
theorem c_apI5 (l : Launch) (D : va_G) (cy : Nat → ClassId) (lay : Nat → Nat) (X : Nat → Option va_E) {k kb kn : Nat} (hk : k < 128) (hkb : kb < 128) (hkn : kn < 128) (hne : kb ≠ k) {n m : Nat} {a : Nat → Int32} {ml : Int32} (h1 : X k = some (sbE (lay kb) (nI n) ml)) (h2 : X kb = some (bsE cy m a)) (h3 : X kn = none) (hf : sb_Fit a) (hm : capOk m) (hnm : n ≤ m) {v : Nat} (hv : v < 1000) (hn : n + 3 ≤ 70) (sz : Nat) : Met l yJ5_append_c97b9 wsJ5_append_c97b9 (rmS 4 1 70) (va_Pc [.ref (lay k), .int (nI v)] (sI D cy none lay X sz)) (va_Qr (S := GY) (fun Y => ∃ o m' a', sb_Fit a' ∧ capOk m' ∧ n + dg v ≤ m' ∧ Y = (gU lay kb o, sbX cy X k kb o m' a' (nI (n + dg v)) ml)) (fun Y a t => a = lay k ∧ gO D (gA lay X sz) Y t) (gA lay X sz)) 1 70 (gA lay X sz) := by
  refine s_ofW (cc := cJ5_append_c97b9) (maxL := 4) (ret := (some (.object "java/lang/AbstractStringBuilder"))) (own := RJ5) (Qc := fun sz => va_Qr (S := GY) (fun Y => ∃ o m' a', sb_Fit a' ∧ capOk m' ∧ n + dg v ≤ m' ∧ Y = (gU lay kb o, sbX cy X k kb o m' a' (nI (n + dg v)) ml)) (fun Y a t => a = lay k ∧ gO D (gA lay X sz) Y t) (gA lay X sz)) (by decide) rfl (Nat.le_of_ble_eq_true rfl) rfl ?_
  intro p e0 s m9 args below meth c ls hC hr hlocks hname hT hX G hl
  have hl : lv_has ls 4 [(0, .ref (lay k)), (1, .int (nI v))] := hl
  have hA : ∀ q, s.heap.size ≤ q → gA lay X s.heap.size q := fun _ h => Or.inr h
  have hd3 : dg v ≤ 3 := by unfold dg; split <;> (try split) <;> omega
  have hcap : m < 100 := by unfold capOk at hm; omega
  refine lv_aload_n hC.1 hC.2.1 dJ5_append_c97b9_0 rfl (lv_at hl 0 rfl) ?_
  refine g_get hC hT.1 G hk h1 k_SB (fun _ h => List.mem_cons_of_mem _ (List.mem_append_right _ h)) 3 (by decide) (wm 1 rfl) rfl dJ5_append_c97b9_1 ?_
  refine lv_istore_n (lv' := [(2, .int (nI n)), (0, .ref (lay k)), (1, .int (nI v))]) hC.1 hC.2.1 dJ5_append_c97b9_4 rfl hl (by decide) rfl (fun ls hl => ?_)
  refine lv_iload_n hC.1 hC.2.1 dJ5_append_c97b9_5 rfl (lv_at hl 0 rfl) ?_
  refine lv_iload_n hC.1 hC.2.1 dJ5_append_c97b9_6 rfl (lv_at hl 2 rfl) ?_
  refine g_i G hA (s_runS (As := [.int (nI v)]) (rest := [.int (nI n)]) hC hT hA G (fun _ h => by cases h) (c_ssz l D cy lay X hv _) (va_cwS 1 hC.2.2.2.2 gJ5_append_c97b9_J6_stringSize_0f7a4 rfl rfl rfl hdS_J6_stringSize_0f7a4 ⟨Nat.le_of_ble_eq_true rfl, Nat.le_of_ble_eq_true rfl⟩) rfl hl.1 rfl (Nat.le_of_ble_eq_true rfl) dJ5_append_c97b9_7 ⟨Nat.le_of_ble_eq_true rfl, Nat.le_of_ble_eq_true rfl⟩) (fun r Y H locs hY G => ?_)
  obtain ⟨rfl, rfl⟩ := hY
  refine lv_iadd hC.1 hC.2.1 dJ5_append_c97b9_10 ?_
  rw [nI_add]
  refine lv_istore_n (lv' := [(3, .int (nI (n + dg v))), (2, .int (nI n)), (0, .ref (lay k)), (1, .int (nI v))]) hC.1 hC.2.1 dJ5_append_c97b9_11 rfl hl (by decide) rfl (fun ls hl => ?_)
  refine lv_aload_n hC.1 hC.2.1 dJ5_append_c97b9_12 rfl (lv_at hl 2 rfl) ?_
  refine lv_iload_n hC.1 hC.2.1 dJ5_append_c97b9_13 rfl (lv_at hl 0 rfl) ?_
  refine g_v G hA (s_runU (As := [.int (nI (n + dg v))]) (rest := []) hC hT hA G (fun _ h => by cases h) (c_ensure l D cy lay X hk hkb hkn hne h1 h2 h3 hf hm (q := n + dg v) (by omega) (by omega) _) (va_cwU 1 hC.2.2.2.2 gJ5_append_c97b9_J5_ensureCapacityInternal_d00df_u100J4 rfl rfl rfl rfl hdU_J5_ensureCapacityInternal_d00df ⟨Nat.le_of_ble_eq_true rfl, Nat.le_of_ble_eq_true rfl⟩) (s_recv hT G hk h1 k_SB) rfl hl.1 rfl (Nat.le_of_ble_eq_true rfl) dJ5_append_c97b9_14 ⟨Nat.le_of_ble_eq_true rfl, Nat.le_of_ble_eq_true rfl⟩) (fun Y H locs hY G => ?_)
  obtain ⟨o, m1, a1, hf1, hm1, hq1, hmm1, rfl⟩ := hY
  have e1 : gU lay kb o k = lay k := gU_ne (Ne.symm hne)
  have e2 : gU lay kb o kb = o := gU_eq
  dsimp only at G
  generalize hL : gU lay kb o = L at e1 e2 G
  subst e2
  rw [← e1] at hl
  have hm100 : m1 < 100 := by unfold capOk at hm1; omega
  refine lv_aload_n hC.1 hC.2.1 dJ5_append_c97b9_17 rfl (lv_at hl 2 rfl) ?_
  refine g_i G hA (s_runU (As := []) (rest := []) hC hT hA G (fun _ h => by cases h) (c_isL l D cy L (sbX cy X k kb (L kb) m1 a1 (nI n) ml) hk sbX_k _) (va_cwU 0 hC.2.2.2.2 gJ5_append_c97b9_J5_isLatin1_aae02_u83J4 rfl rfl rfl rfl hdU_J5_isLatin1_aae02 ⟨Nat.le_of_ble_eq_true rfl, Nat.le_of_ble_eq_true rfl⟩) (s_recv hT G hk sbX_k k_SB) rfl hl.1 rfl (Nat.le_of_ble_eq_true rfl) dJ5_append_c97b9_18 ⟨Nat.le_of_ble_eq_true rfl, Nat.le_of_ble_eq_true rfl⟩) (fun r Y H locs hY G => ?_)
  obtain ⟨rfl, rfl⟩ := hY
  refine lv_if_eq (tgt := 37) hC.1 hC.2.1 dJ5_append_c97b9_21 (by decide) (fun c1 => absurd c1 (by decide)) (fun _ => ?_)
  refine lv_iload_n hC.1 hC.2.1 dJ5_append_c97b9_24 rfl (lv_at hl 3 rfl) ?_
  refine lv_iload_n hC.1 hC.2.1 dJ5_append_c97b9_25 rfl (lv_at hl 0 rfl) ?_
  refine lv_aload_n hC.1 hC.2.1 dJ5_append_c97b9_26 rfl (lv_at hl 2 rfl) ?_
  refine g_get hC hT.1 G hk sbX_k k_SB (fun _ h => List.mem_cons_of_mem _ (List.mem_append_right _ h)) 0 (by decide) (wm 2 rfl) rfl dJ5_append_c97b9_27 ?_
  refine g_i G hA (s_runS (As := [.int (nI v), .int (nI (n + dg v)), .ref (L kb)]) (rest := []) hC hT hA G (fun _ h => by cases h) (c_gch l D cy L (sbX cy X k kb (L kb) m1 a1 (nI n) ml) hkb (sbX_b hne) hf1 hm100 hv (pp := n + dg v) (by omega) hq1 _) (va_cwS 3 hC.2.2.2.2 gJ5_append_c97b9_J6_getChars_ba4f3 rfl rfl rfl hdS_J6_getChars_ba4f3 ⟨Nat.le_of_ble_eq_true rfl, Nat.le_of_ble_eq_true rfl⟩) rfl hl.1 rfl (Nat.le_of_ble_eq_true rfl) dJ5_append_c97b9_30 ⟨Nat.le_of_ble_eq_true rfl, Nat.le_of_ble_eq_true rfl⟩) (fun r Y H locs hY G => ?_)
  obtain ⟨a2, hf2, rfl⟩ := hY
  have G : gG D L (sbX cy X k kb (L kb) m1 a2 (nI n) ml) (gA lay X s.heap.size) s.heap H locs := by rw [← sbX_pb hne]; exact G
  refine lv_pop hC.1 hC.2.1 dJ5_append_c97b9_33 rfl ?_
  refine lv_goto (tgt := 48) hC.1 hC.2.1 dJ5_append_c97b9_34 (by decide) ?_
  refine lv_aload_n hC.1 hC.2.1 dJ5_append_c97b9_48 rfl (lv_at hl 2 rfl) ?_
  refine lv_iload_n hC.1 hC.2.1 dJ5_append_c97b9_49 rfl (lv_at hl 0 rfl) ?_
  refine g_put hC hT.1 G hk sbX_k k_SB (fun _ h => List.mem_cons_of_mem _ (List.mem_append_right _ h)) 3 (by decide) (wm 1 rfl) rfl rfl rfl (by simp) dJ5_append_c97b9_50 (fun H locs G => ?_)
  have G : gG D L (sbX cy X k kb (L kb) m1 a2 (nI (n + dg v)) ml) (gA lay X s.heap.size) s.heap H locs := by rw [← sbX_pk (o := L kb) (n := nI n) (ml := ml)]; exact G
  refine lv_aload_n hC.1 hC.2.1 dJ5_append_c97b9_53 rfl (lv_at hl 2 rfl) ?_
  exact W.aret (v := .ref (L k)) hC.1 hC.2.1 hr (Or.inl ⟨_, rfl⟩) (Or.inr ⟨_, rfl⟩) (fun t ht hW => ⟨⟨(L, sbX cy X k kb (L kb) m1 a2 (nI (n + dg v)) ml), L k, rfl, ⟨L kb, m1, a2, hf2, hm1, hq1, by rw [hL]⟩, e1, by rw [ht]; exact G.1, G.2.1⟩, G.2.2.F ht⟩) G.2.2.2.2 dJ5_append_c97b9_54 hlocks
set_option maxHeartbeats 4000000 in
set_option maxRecDepth 100000 in
/-- c_apI -/
theorem c_apI (l : Launch) (D : va_G) (cy : Nat → ClassId) (lay : Nat → Nat) (X : Nat → Option va_E) {k kb kn : Nat} (hk : k < 128) (hkb : kb < 128) (hkn : kn < 128) (hne : kb ≠ k) {n m : Nat} {a : Nat → Int32} {ml : Int32} (h1 : X k = some (sbE (lay kb) (nI n) ml)) (h2 : X kb = some (bsE cy m a)) (h3 : X kn = none) (hf : sb_Fit a) (hm : capOk m) (hnm : n ≤ m) {v : Nat} (hv : v < 1000) (hn : n + 3 ≤ 70) (sz : Nat) : Met l yJ4_append_bf812 wsJ4_append_bf812 (rmS 5 1 70) (va_Pc [.ref (lay k), .int (nI v)] (sI D cy none lay X sz)) (va_Qr (S := GY) (fun Y => ∃ o m' a', sb_Fit a' ∧ capOk m' ∧ n + dg v ≤ m' ∧ Y = (gU lay kb o, sbX cy X k kb o m' a' (nI (n + dg v)) ml)) (fun Y a t => a = lay k ∧ gO D (gA lay X sz) Y t) (gA lay X sz)) 1 70 (gA lay X sz) := by
  refine s_ofW (cc := cJ4_append_bf812) (maxL := 2) (ret := (some (.object "java/lang/StringBuilder"))) (own := RJ4) (Qc := fun sz => va_Qr (S := GY) (fun Y => ∃ o m' a', sb_Fit a' ∧ capOk m' ∧ n + dg v ≤ m' ∧ Y = (gU lay kb o, sbX cy X k kb o m' a' (nI (n + dg v)) ml)) (fun Y a t => a = lay k ∧ gO D (gA lay X sz) Y t) (gA lay X sz)) (by decide) rfl (Nat.le_of_ble_eq_true rfl) rfl ?_
  intro p e0 s m9 args below meth c ls hC hr hlocks hname hT hX G hl
  have hl : lv_has ls 2 [(0, .ref (lay k)), (1, .int (nI v))] := hl
  have hA : ∀ q, s.heap.size ≤ q → gA lay X s.heap.size q := fun _ h => Or.inr h
  refine lv_aload_n hC.1 hC.2.1 dJ4_append_bf812_0 rfl (lv_at hl 0 rfl) ?_
  refine lv_iload_n hC.1 hC.2.1 dJ4_append_bf812_1 rfl (lv_at hl 1 rfl) ?_
  refine k_r (f := fun _ => lay k) G hA (s_runSU (As := [.int (nI v)]) (rest := []) hC hT hA G (fun _ h => by cases h) (c_apI5 l D cy lay X hk hkb hkn hne h1 h2 h3 hf hm hnm hv hn _) (va_cwSU 1 hC.2.2.2.2 gJ4_append_bf812_J5_append_c97b9_s53 rfl rfl rfl hdX_J5_append_c97b9 ⟨Nat.le_of_ble_eq_true rfl, Nat.le_of_ble_eq_true rfl⟩) (s_recv hT G hk h1 k_SB) rfl hl.1 rfl (Nat.le_of_ble_eq_true rfl) dJ4_append_bf812_2 ⟨Nat.le_of_ble_eq_true rfl, Nat.le_of_ble_eq_true rfl⟩) (fun Y H locs hY G => ?_)
  obtain ⟨o, m1, a1, hf1, hm1, hq1, rfl⟩ := hY
  refine lv_pop hC.1 hC.2.1 dJ4_append_bf812_5 rfl ?_
  refine lv_aload_n hC.1 hC.2.1 dJ4_append_bf812_6 rfl (lv_at hl 0 rfl) ?_
  exact W.aret (v := .ref (lay k)) hC.1 hC.2.1 hr (Or.inl ⟨_, rfl⟩) (Or.inr ⟨_, rfl⟩) (fun t ht hW => ⟨⟨(gU lay kb o, sbX cy X k kb o m1 a1 (nI (n + dg v)) ml), lay k, rfl, ⟨o, m1, a1, hf1, hm1, hq1, rfl⟩, rfl, by rw [ht]; exact G.1, G.2.1⟩, G.2.2.F ht⟩) G.2.2.2.2 dJ4_append_bf812_7 hlocks
set_option maxHeartbeats 4000000 in
set_option maxRecDepth 100000 in
/-- canEncode -/
theorem c_canEnc (l : Launch) (D : va_G) (cy : Nat → ClassId) (lay : Nat → Nat) (X : Nat → Option va_E) {v : Int32} (hv : ¬ 255 < v) (sz : Nat) : Met l yJ1_canEncode_fc78d wsJ1_canEncode_fc78d (rmS 0 0 0) (va_Pc [.int v] (sI D cy none lay X sz)) (va_Qi (fun (r : Int32) (Y : GY) => r = 1 ∧ Y = (lay, X)) (gO D (gA lay X sz)) (gA lay X sz)) 0 0 (gA lay X sz) := by
  refine s_ofW (cc := cJ1_canEncode_fc78d) (maxL := 1) (ret := (some .boolean)) (own := RJ1) (Qc := fun sz => va_Qi (fun (r : Int32) (Y : GY) => r = 1 ∧ Y = (lay, X)) (gO D (gA lay X sz)) (gA lay X sz)) (by decide) rfl (Nat.le_of_ble_eq_true rfl) rfl ?_
  intro p e0 s m9 args below meth c ls hC hr hlocks hname hT hX G hl
  have hl : lv_has ls 1 [(0, .int v)] := hl
  have hA : ∀ q, s.heap.size ≤ q → gA lay X s.heap.size q := fun _ h => Or.inr h
  refine lv_iload_n hC.1 hC.2.1 dJ1_canEncode_fc78d_0 rfl (lv_at hl 0 rfl) ?_
  refine lv_sipush (v := 255) hC.1 hC.2.1 dJ1_canEncode_fc78d_1 (by decide) ?_
  refine lv_icmp_gt (tgt := 11) hC.1 hC.2.1 dJ1_canEncode_fc78d_4 (by decide) (fun c1 => absurd c1 hv) (fun _ => ?_)
  refine lv_iconst (v := 1) hC.1 hC.2.1 dJ1_canEncode_fc78d_7 (by decide) ?_
  refine lv_goto (tgt := 12) hC.1 hC.2.1 dJ1_canEncode_fc78d_8 (by decide) ?_
  exact W.zret (v := 1) hC.1 hC.2.1 hr rfl (fun t ht hW => ⟨⟨1, (lay, X), rfl, ⟨rfl, rfl⟩, by rw [ht]; exact G.1, G.2.1⟩, G.2.2.F ht⟩) G.2.2.2.2 dJ1_canEncode_fc78d_12 hlocks
set_option maxHeartbeats 4000000 in
set_option maxRecDepth 100000 in
/-- AbstractStringBuilder.append(char) -/
theorem c_apC5 (l : Launch) (D : va_G) (cy : Nat → ClassId) (lay : Nat → Nat) (X : Nat → Option va_E) {k kb kn : Nat} (hk : k < 128) (hkb : kb < 128) (hkn : kn < 128) (hne : kb ≠ k) {n m : Nat} {a : Nat → Int32} {ml : Int32} (h1 : X k = some (sbE (lay kb) (nI n) ml)) (h2 : X kb = some (bsE cy m a)) (h3 : X kn = none) (hf : sb_Fit a) (hm : capOk m) (hnm : n ≤ m) {v : Int32} (hv : ¬ 255 < v) (hn : n + 1 ≤ 70) (sz : Nat) : Met l yJ5_append_3fe6f wsJ5_append_3fe6f (rmS 4 1 70) (va_Pc [.ref (lay k), .int v] (sI D cy none lay X sz)) (va_Qr (S := GY) (fun Y => ∃ o m' a', sb_Fit a' ∧ capOk m' ∧ n + 1 ≤ m' ∧ Y = (gU lay kb o, sbX cy X k kb o m' a' (nI (n + 1)) ml)) (fun Y a t => a = lay k ∧ gO D (gA lay X sz) Y t) (gA lay X sz)) 1 70 (gA lay X sz) := by
  refine s_ofW (cc := cJ5_append_3fe6f) (maxL := 2) (ret := (some (.object "java/lang/AbstractStringBuilder"))) (own := RJ5) (Qc := fun sz => va_Qr (S := GY) (fun Y => ∃ o m' a', sb_Fit a' ∧ capOk m' ∧ n + 1 ≤ m' ∧ Y = (gU lay kb o, sbX cy X k kb o m' a' (nI (n + 1)) ml)) (fun Y a t => a = lay k ∧ gO D (gA lay X sz) Y t) (gA lay X sz)) (by decide) rfl (Nat.le_of_ble_eq_true rfl) rfl ?_
  intro p e0 s m9 args below meth c ls hC hr hlocks hname hT hX G hl
  have hl : lv_has ls 2 [(0, .ref (lay k)), (1, .int v)] := hl
  have hA : ∀ q, s.heap.size ≤ q → gA lay X s.heap.size q := fun _ h => Or.inr h
  have hcap : m < 100 := by unfold capOk at hm; omega
  refine lv_aload_n hC.1 hC.2.1 dJ5_append_3fe6f_0 rfl (lv_at hl 0 rfl) ?_
  refine lv_aload_n hC.1 hC.2.1 dJ5_append_3fe6f_1 rfl (lv_at hl 0 rfl) ?_
  refine g_get hC hT.1 G hk h1 k_SB (fun _ h => List.mem_cons_of_mem _ (List.mem_append_right _ h)) 3 (by decide) (wm 1 rfl) rfl dJ5_append_3fe6f_2 ?_
  refine lv_iconst (v := 1) hC.1 hC.2.1 dJ5_append_3fe6f_5 (by decide) ?_
  refine lv_iadd hC.1 hC.2.1 dJ5_append_3fe6f_6 ?_
  rw [nI_1]
  refine g_v G hA (s_runU (As := [.int (nI (n + 1))]) (rest := []) hC hT hA G (fun _ h => by cases h) (c_ensure l D cy lay X hk hkb hkn hne h1 h2 h3 hf hm (q := n + 1) (by omega) (by omega) _) (va_cwU 1 hC.2.2.2.2 gJ5_append_3fe6f_J5_ensureCapacityInternal_d00df_u100J4 rfl rfl rfl rfl hdU_J5_ensureCapacityInternal_d00df ⟨Nat.le_of_ble_eq_true rfl, Nat.le_of_ble_eq_true rfl⟩) (s_recv hT G hk h1 k_SB) rfl hl.1 rfl (Nat.le_of_ble_eq_true rfl) dJ5_append_3fe6f_7 ⟨Nat.le_of_ble_eq_true rfl, Nat.le_of_ble_eq_true rfl⟩) (fun Y H locs hY G => ?_)
  obtain ⟨o, m1, a1, hf1, hm1, hq1, hmm1, rfl⟩ := hY
  have e1 : gU lay kb o k = lay k := gU_ne (Ne.symm hne)
  have e2 : gU lay kb o kb = o := gU_eq
  dsimp only at G
  generalize hL : gU lay kb o = L at e1 e2 G
  subst e2
  rw [← e1] at hl
  have hm100 : m1 < 100 := by unfold capOk at hm1; omega
  refine lv_aload_n hC.1 hC.2.1 dJ5_append_3fe6f_10 rfl (lv_at hl 0 rfl) ?_
  refine g_i G hA (s_runU (As := []) (rest := []) hC hT hA G (fun _ h => by cases h) (c_isL l D cy L (sbX cy X k kb (L kb) m1 a1 (nI n) ml) hk sbX_k _) (va_cwU 0 hC.2.2.2.2 gJ5_append_3fe6f_J5_isLatin1_aae02_u83J4 rfl rfl rfl rfl hdU_J5_isLatin1_aae02 ⟨Nat.le_of_ble_eq_true rfl, Nat.le_of_ble_eq_true rfl⟩) (s_recv hT G hk sbX_k k_SB) rfl hl.1 rfl (Nat.le_of_ble_eq_true rfl) dJ5_append_3fe6f_11 ⟨Nat.le_of_ble_eq_true rfl, Nat.le_of_ble_eq_true rfl⟩) (fun r Y H locs hY G => ?_)
  obtain ⟨rfl, rfl⟩ := hY
  refine lv_if_eq (tgt := 45) hC.1 hC.2.1 dJ5_append_3fe6f_14 (by decide) (fun c1 => absurd c1 (by decide)) (fun _ => ?_)
  refine lv_iload_n hC.1 hC.2.1 dJ5_append_3fe6f_17 rfl (lv_at hl 1 rfl) ?_
  refine g_i G hA (s_runS (As := [.int v]) (rest := []) hC hT hA G (fun _ h => by cases h) (c_canEnc l D cy L (sbX cy X k kb (L kb) m1 a1 (nI n) ml) hv _) (va_cwS 1 hC.2.2.2.2 gJ5_append_3fe6f_J1_canEncode_fc78d rfl rfl rfl hdS_J1_canEncode_fc78d ⟨Nat.le_of_ble_eq_true rfl, Nat.le_of_ble_eq_true rfl⟩) rfl hl.1 rfl (Nat.le_of_ble_eq_true rfl) dJ5_append_3fe6f_18 ⟨Nat.le_of_ble_eq_true rfl, Nat.le_of_ble_eq_true rfl⟩) (fun r Y H locs hY G => ?_)
  obtain ⟨rfl, rfl⟩ := hY
  refine lv_if_eq (tgt := 45) hC.1 hC.2.1 dJ5_append_3fe6f_21 (by decide) (fun c1 => absurd c1 (by decide)) (fun _ => ?_)
  refine lv_aload_n hC.1 hC.2.1 dJ5_append_3fe6f_24 rfl (lv_at hl 0 rfl) ?_
  refine g_get hC hT.1 G hk sbX_k k_SB (fun _ h => List.mem_cons_of_mem _ (List.mem_append_right _ h)) 0 (by decide) (wm 2 rfl) rfl dJ5_append_3fe6f_25 ?_
  refine lv_aload_n hC.1 hC.2.1 dJ5_append_3fe6f_28 rfl (lv_at hl 0 rfl) ?_
  refine lv_dup hC.1 hC.2.1 dJ5_append_3fe6f_29 rfl ?_
  refine g_get hC hT.1 G hk sbX_k k_SB (fun _ h => List.mem_cons_of_mem _ (List.mem_append_right _ h)) 3 (by decide) (wm 1 rfl) rfl dJ5_append_3fe6f_30 ?_
  refine lv_dup_x1 hC.1 hC.2.1 dJ5_append_3fe6f_33 rfl rfl ?_
  refine lv_iconst (v := 1) hC.1 hC.2.1 dJ5_append_3fe6f_34 (by decide) ?_
  refine lv_iadd hC.1 hC.2.1 dJ5_append_3fe6f_35 ?_
  rw [nI_1]
  refine g_put hC hT.1 G hk sbX_k k_SB (fun _ h => List.mem_cons_of_mem _ (List.mem_append_right _ h)) 3 (by decide) (wm 1 rfl) rfl rfl rfl (by simp) dJ5_append_3fe6f_36 (fun H locs G => ?_)
  have G : gG D L (sbX cy X k kb (L kb) m1 a1 (nI (n + 1)) ml) (gA lay X s.heap.size) s.heap H locs := by rw [← sbX_pk (o := L kb) (n := nI n) (ml := ml)]; exact G
  refine lv_iload_n hC.1 hC.2.1 dJ5_append_3fe6f_39 rfl (lv_at hl 1 rfl) ?_
  refine lv_i2b hC.1 hC.2.1 dJ5_append_3fe6f_40 rfl ?_
  refine g_bast hC hT.1 G hkb rfl (sbX_b hne) (show vp_in (nI n) m1 from vp_in_nI (by omega) (by omega)) dJ5_append_3fe6f_41 (fun H locs G => ?_)
  have G : gG D L (sbX cy X k kb (L kb) m1 (upd a1 (nI n).toNatClampNeg (vp_nar .byte v.toInt8.toInt32)) (nI (n + 1)) ml) (gA lay X s.heap.size) s.heap H locs := by rw [← sbX_pb hne]; exact G
  refine lv_goto (tgt := 75) hC.1 hC.2.1 dJ5_append_3fe6f_42 (by decide) ?_
  refine lv_aload_n hC.1 hC.2.1 dJ5_append_3fe6f_75 rfl (lv_at hl 0 rfl) ?_
  exact W.aret (v := .ref (L k)) hC.1 hC.2.1 hr (Or.inl ⟨_, rfl⟩) (Or.inr ⟨_, rfl⟩) (fun t ht hW => ⟨⟨(L, sbX cy X k kb (L kb) m1 (upd a1 (nI n).toNatClampNeg (vp_nar .byte v.toInt8.toInt32)) (nI (n + 1)) ml), L k, rfl, ⟨L kb, m1, _, sb_fitU (x := vp_nar .byte v.toInt8.toInt32) hf1 (by rw [pk_vb]; exact pk_fb _), hm1, hq1, by rw [hL]⟩, e1, by rw [ht]; exact G.1, G.2.1⟩, G.2.2.F ht⟩) G.2.2.2.2 dJ5_append_3fe6f_76 hlocks
set_option maxHeartbeats 4000000 in
set_option maxRecDepth 100000 in
/-- c_apC -/
theorem c_apC (l : Launch) (D : va_G) (cy : Nat → ClassId) (lay : Nat → Nat) (X : Nat → Option va_E) {k kb kn : Nat} (hk : k < 128) (hkb : kb < 128) (hkn : kn < 128) (hne : kb ≠ k) {n m : Nat} {a : Nat → Int32} {ml : Int32} (h1 : X k = some (sbE (lay kb) (nI n) ml)) (h2 : X kb = some (bsE cy m a)) (h3 : X kn = none) (hf : sb_Fit a) (hm : capOk m) (hnm : n ≤ m) {v : Int32} (hv : ¬ 255 < v) (hn : n + 1 ≤ 70) (sz : Nat) : Met l yJ4_append_cf468 wsJ4_append_cf468 (rmS 5 1 70) (va_Pc [.ref (lay k), .int v] (sI D cy none lay X sz)) (va_Qr (S := GY) (fun Y => ∃ o m' a', sb_Fit a' ∧ capOk m' ∧ n + 1 ≤ m' ∧ Y = (gU lay kb o, sbX cy X k kb o m' a' (nI (n + 1)) ml)) (fun Y a t => a = lay k ∧ gO D (gA lay X sz) Y t) (gA lay X sz)) 1 70 (gA lay X sz) := by
  refine s_ofW (cc := cJ4_append_cf468) (maxL := 2) (ret := (some (.object "java/lang/StringBuilder"))) (own := RJ4) (Qc := fun sz => va_Qr (S := GY) (fun Y => ∃ o m' a', sb_Fit a' ∧ capOk m' ∧ n + 1 ≤ m' ∧ Y = (gU lay kb o, sbX cy X k kb o m' a' (nI (n + 1)) ml)) (fun Y a t => a = lay k ∧ gO D (gA lay X sz) Y t) (gA lay X sz)) (by decide) rfl (Nat.le_of_ble_eq_true rfl) rfl ?_
  intro p e0 s m9 args below meth c ls hC hr hlocks hname hT hX G hl
  have hl : lv_has ls 2 [(0, .ref (lay k)), (1, .int v)] := hl
  have hA : ∀ q, s.heap.size ≤ q → gA lay X s.heap.size q := fun _ h => Or.inr h
  refine lv_aload_n hC.1 hC.2.1 dJ4_append_cf468_0 rfl (lv_at hl 0 rfl) ?_
  refine lv_iload_n hC.1 hC.2.1 dJ4_append_cf468_1 rfl (lv_at hl 1 rfl) ?_
  refine k_r (f := fun _ => lay k) G hA (s_runSU (As := [.int v]) (rest := []) hC hT hA G (fun _ h => by cases h) (c_apC5 l D cy lay X hk hkb hkn hne h1 h2 h3 hf hm hnm hv hn _) (va_cwSU 1 hC.2.2.2.2 gJ4_append_cf468_J5_append_3fe6f_s50 rfl rfl rfl hdX_J5_append_3fe6f ⟨Nat.le_of_ble_eq_true rfl, Nat.le_of_ble_eq_true rfl⟩) (s_recv hT G hk h1 k_SB) rfl hl.1 rfl (Nat.le_of_ble_eq_true rfl) dJ4_append_cf468_2 ⟨Nat.le_of_ble_eq_true rfl, Nat.le_of_ble_eq_true rfl⟩) (fun Y H locs hY G => ?_)
  obtain ⟨o, m1, a1, hf1, hm1, hq1, rfl⟩ := hY
  refine lv_pop hC.1 hC.2.1 dJ4_append_cf468_5 rfl ?_
  refine lv_aload_n hC.1 hC.2.1 dJ4_append_cf468_6 rfl (lv_at hl 0 rfl) ?_
  exact W.aret (v := .ref (lay k)) hC.1 hC.2.1 hr (Or.inl ⟨_, rfl⟩) (Or.inr ⟨_, rfl⟩) (fun t ht hW => ⟨⟨(gU lay kb o, sbX cy X k kb o m1 a1 (nI (n + 1)) ml), lay k, rfl, ⟨o, m1, a1, hf1, hm1, hq1, rfl⟩, rfl, by rw [ht]; exact G.1, G.2.1⟩, G.2.2.F ht⟩) G.2.2.2.2 dJ4_append_cf468_7 hlocks
end
section
/-! TEXTS: walks of StringBuilder, String (65e.sb) -/
set_option maxHeartbeats 4000000 in
set_option maxRecDepth 100000 in
/-- inflateIfNeededFor: nothing -/
theorem c_infl (l : Launch) (D : va_G) (cy : Nat → ClassId) (lay : Nat → Nat) (X : Nat → Option va_E) {k : Nat} (hk : k < 128) {o : Nat} {n ml : Int32} (h1 : X k = some (sbE o n ml)) {sa w : Nat} (sz : Nat) : Met l yJ5_inflateIfNeededFor_a7421 wsJ5_inflateIfNeededFor_a7421 (rmS 1 0 0) (va_Pc [.ref (lay k), .ref sa] (sI D cy (some (sa, w)) lay X sz)) (va_Qv (fun Y : GY => Y = (lay, X)) (gO D (gA lay X sz)) (gA lay X sz)) 0 0 (gA lay X sz) := by
  refine s_ofW (cc := cJ5_inflateIfNeededFor_a7421) (maxL := 2) (ret := none) (own := RJ5) (Qc := fun sz => va_Qv (fun Y : GY => Y = (lay, X)) (gO D (gA lay X sz)) (gA lay X sz)) (by decide) rfl (Nat.le_of_ble_eq_true rfl) rfl ?_
  intro p e0 s m9 args below meth c ls hC hr hlocks hname hT hX G hl
  have hl : lv_has ls 2 [(0, .ref (lay k)), (1, .ref sa)] := hl
  have hA : ∀ q, s.heap.size ≤ q → gA lay X s.heap.size q := fun _ h => Or.inr h
  refine va_gets hC.1 hC.2.1 hT.2.2.1 G.2.2 hC.2.2.2.1 (hC.2.2.2.2 _ (wm 1 rfl)) (fun _ h => h) dJ5_inflateIfNeededFor_a7421_0 ?_
  refine lv_if_eq (tgt := 21) hC.1 hC.2.1 dJ5_inflateIfNeededFor_a7421_3 (by decide) (fun c1 => absurd c1 (by decide)) (fun _ => ?_)
  refine lv_aload_n hC.1 hC.2.1 dJ5_inflateIfNeededFor_a7421_6 rfl (lv_at hl 0 rfl) ?_
  refine g_get hC hT.1 G hk h1 k_SB (fun _ h => List.mem_cons_of_mem _ (List.mem_append_left _ (List.mem_append_right _ h))) 1 (by decide) (wm 2 rfl) rfl dJ5_inflateIfNeededFor_a7421_7 ?_
  refine lv_aload_n hC.1 hC.2.1 dJ5_inflateIfNeededFor_a7421_10 rfl (lv_at hl 1 rfl) ?_
  refine g_i G hA (s_runV (As := []) (rest := [.int 0]) (b := sa) hC hT hA G hX (c_coder l D cy lay X (sa := sa) (w := w) _) (cwV 0 hC.2.2.2.2 gJ5_inflateIfNeededFor_a7421_J0_coder_7d493 rfl rfl rfl hdV_J0_coder_7d493 ⟨Nat.le_of_ble_eq_true rfl, Nat.le_of_ble_eq_true rfl⟩) (t_recv (hX _ rfl) G.2.2) rfl hl.1 rfl (Nat.le_of_ble_eq_true rfl) dJ5_inflateIfNeededFor_a7421_11 ⟨Nat.le_of_ble_eq_true rfl, Nat.le_of_ble_eq_true rfl⟩) (fun r Y H locs hY G => ?_)
  obtain ⟨rfl, rfl⟩ := hY
  refine lv_icmp_eq (tgt := 21) hC.1 hC.2.1 dJ5_inflateIfNeededFor_a7421_14 (by decide) (fun _ => ?_) (fun c1 => absurd rfl c1)
  exact g_vret (Y := (lay, X)) hC hr hlocks G rfl dJ5_inflateIfNeededFor_a7421_21
set_option maxHeartbeats 4000000 in
set_option maxRecDepth 100000 in
/-- String.getBytes into a row -/
theorem c_gby (l : Launch) (D : va_G) (cy : Nat → ClassId) (lay : Nat → Nat) (X : Nat → Option va_E) {kb : Nat} (hkb : kb < 128) {m : Nat} {a : Nat → Int32} (h2 : X kb = some (bsE cy m a)) (hf : sb_Fit a) (hm : m < 100) {sa w d : Nat} (hd : d + w ≤ m) (sz : Nat) : Met l yJ0_getBytes_840e7 wsJ0_getBytes_840e7 (rmS 1 0 0) (va_Pc [.ref sa, .ref (lay kb), .int (nI d), .int 0] (sI D cy (some (sa, w)) lay X sz)) (va_Qv (fun Y : GY => ∃ a', sb_Fit a' ∧ Y = (lay, gU X kb (some (bsE cy m a')))) (gO D (gA lay X sz)) (gA lay X sz)) 0 0 (gA lay X sz) := by
  refine s_ofW (cc := cJ0_getBytes_840e7) (maxL := 4) (ret := none) (own := RJ0) (Qc := fun sz => va_Qv (fun Y : GY => ∃ a', sb_Fit a' ∧ Y = (lay, gU X kb (some (bsE cy m a')))) (gO D (gA lay X sz)) (gA lay X sz)) (by decide) rfl (Nat.le_of_ble_eq_true rfl) rfl ?_
  intro p e0 s m9 args below meth c ls hC hr hlocks hname hT hX G hl
  have hl : lv_has ls 4 [(0, .ref sa), (1, .ref (lay kb)), (2, .int (nI d)), (3, .int 0)] := hl
  have hA : ∀ q, s.heap.size ≤ q → gA lay X s.heap.size q := fun _ h => Or.inr h
  obtain ⟨x1, x2, ra, g, x3, x4, x5⟩ := hX _ rfl
  refine lv_aload_n hC.1 hC.2.1 dJ0_getBytes_840e7_0 rfl (lv_at hl 0 rfl) ?_
  refine g_i G hA (s_runV (As := []) (rest := []) (b := sa) hC hT hA G hX (c_coder l D cy lay X (sa := sa) (w := w) _) (cwV 0 hC.2.2.2.2 gJ0_getBytes_840e7_J0_coder_7d493 rfl rfl rfl hdV_J0_coder_7d493 ⟨Nat.le_of_ble_eq_true rfl, Nat.le_of_ble_eq_true rfl⟩) (t_recv (hX _ rfl) G.2.2) rfl hl.1 rfl (Nat.le_of_ble_eq_true rfl) dJ0_getBytes_840e7_1 ⟨Nat.le_of_ble_eq_true rfl, Nat.le_of_ble_eq_true rfl⟩) (fun r Y H locs hY G => ?_)
  obtain ⟨rfl, rfl⟩ := hY
  refine lv_iload_n hC.1 hC.2.1 dJ0_getBytes_840e7_4 rfl (lv_at hl 3 rfl) ?_
  refine lv_icmp_ne (tgt := 28) hC.1 hC.2.1 dJ0_getBytes_840e7_5 (by decide) (fun c1 => absurd rfl c1) (fun _ => ?_)
  refine lv_aload_n hC.1 hC.2.1 dJ0_getBytes_840e7_8 rfl (lv_at hl 0 rfl) ?_
  refine vk_getf hC.1 hC.2.1 x3 G.2.2 hC.2.2.2.1 (hC.2.2.2.2 _ (wm 1 rfl)) (fun _ h => h) dJ0_getBytes_840e7_9 ?_
  refine lv_iconst (v := 0) hC.1 hC.2.1 dJ0_getBytes_840e7_12 (by decide) ?_
  refine lv_aload_n hC.1 hC.2.1 dJ0_getBytes_840e7_13 rfl (lv_at hl 1 rfl) ?_
  refine lv_iload_n hC.1 hC.2.1 dJ0_getBytes_840e7_14 rfl (lv_at hl 2 rfl) ?_
  refine lv_iload_n hC.1 hC.2.1 dJ0_getBytes_840e7_15 rfl (lv_at hl 3 rfl) ?_
  refine lv_ishl hC.1 hC.2.1 dJ0_getBytes_840e7_16 ?_
  rw [sb_shl0]
  refine lv_aload_n hC.1 hC.2.1 dJ0_getBytes_840e7_17 rfl (lv_at hl 0 rfl) ?_
  refine vk_getf hC.1 hC.2.1 x3 G.2.2 hC.2.2.2.1 (hC.2.2.2.2 _ (wm 1 rfl)) (fun _ h => h) dJ0_getBytes_840e7_18 ?_
  refine va_tlen hC.1 hC.2.1 x4 G.2.2 rfl dJ0_getBytes_840e7_21 ?_
  refine g_tcopy hC hl.1 hT.1 G (wm 2 rfl) (wm 3 rfl) (wm 4 rfl) (wm 5 rfl) x4 x5 rfl hkb h2 (d := d) (by omega) (by omega) hd (Nat.le_of_ble_eq_true rfl) (Nat.le_of_ble_eq_true rfl) dJ0_getBytes_840e7_22 (fun H locs G => ?_)
  refine lv_goto (tgt := 43) hC.1 hC.2.1 dJ0_getBytes_840e7_25 (by decide) ?_
  exact g_vret (Y := (lay, gU X kb (some (bsE cy m (va_cpy g a 0 d w))))) hC hr hlocks G ⟨_, t_fitC hf x5, rfl⟩ dJ0_getBytes_840e7_43
set_option maxHeartbeats 4000000 in
set_option maxRecDepth 100000 in
/-- putStringAt -/
theorem c_putS (l : Launch) (D : va_G) (cy : Nat → ClassId) (lay : Nat → Nat) (X : Nat → Option va_E) {k kb : Nat} (hk : k < 128) (hkb : kb < 128) {n m : Nat} {a : Nat → Int32} {n ml : Int32} (h1 : X k = some (sbE (lay kb) n ml)) (h2 : X kb = some (bsE cy m a)) (hf : sb_Fit a) (hm : m < 100) {sa w d : Nat} (hd : d + w ≤ m) (sz : Nat) : Met l yJ5_putStringAt_47b60 wsJ5_putStringAt_47b60 (rmS 2 0 0) (va_Pc [.ref (lay k), .int (nI d), .ref sa] (sI D cy (some (sa, w)) lay X sz)) (va_Qv (fun Y : GY => ∃ a', sb_Fit a' ∧ Y = (lay, gU X kb (some (bsE cy m a')))) (gO D (gA lay X sz)) (gA lay X sz)) 0 0 (gA lay X sz) := by
  refine s_ofW (cc := cJ5_putStringAt_47b60) (maxL := 3) (ret := none) (own := RJ5) (Qc := fun sz => va_Qv (fun Y : GY => ∃ a', sb_Fit a' ∧ Y = (lay, gU X kb (some (bsE cy m a')))) (gO D (gA lay X sz)) (gA lay X sz)) (by decide) rfl (Nat.le_of_ble_eq_true rfl) rfl ?_
  intro p e0 s m9 args below meth c ls hC hr hlocks hname hT hX G hl
  have hl : lv_has ls 3 [(0, .ref (lay k)), (1, .int (nI d)), (2, .ref sa)] := hl
  have hA : ∀ q, s.heap.size ≤ q → gA lay X s.heap.size q := fun _ h => Or.inr h
  refine lv_aload_n hC.1 hC.2.1 dJ5_putStringAt_47b60_0 rfl (lv_at hl 0 rfl) ?_
  refine lv_aload_n hC.1 hC.2.1 dJ5_putStringAt_47b60_1 rfl (lv_at hl 2 rfl) ?_
  refine g_v G hA (s_runU (As := [.ref sa]) (rest := []) hC hT hA G hX (c_infl l D cy lay X hk h1 (sa := sa) (w := w) _) (va_cwU 1 hC.2.2.2.2 gJ5_putStringAt_47b60_J5_inflateIfNeededFor_a7421_u397J4 rfl rfl rfl rfl hdU_J5_inflateIfNeededFor_a7421 ⟨Nat.le_of_ble_eq_true rfl, Nat.le_of_ble_eq_true rfl⟩) (s_recv hT G hk h1 k_SB) rfl hl.1 rfl (Nat.le_of_ble_eq_true rfl) dJ5_putStringAt_47b60_2 ⟨Nat.le_of_ble_eq_true rfl, Nat.le_of_ble_eq_true rfl⟩) (fun Y H locs hY G => ?_)
  subst hY
  refine lv_aload_n hC.1 hC.2.1 dJ5_putStringAt_47b60_5 rfl (lv_at hl 2 rfl) ?_
  refine lv_aload_n hC.1 hC.2.1 dJ5_putStringAt_47b60_6 rfl (lv_at hl 0 rfl) ?_
  refine g_get hC hT.1 G hk h1 k_SB (fun _ h => List.mem_cons_of_mem _ (List.mem_append_left _ (List.mem_append_right _ h))) 0 (by decide) (wm 1 rfl) rfl dJ5_putStringAt_47b60_7 ?_
  refine lv_iload_n hC.1 hC.2.1 dJ5_putStringAt_47b60_10 rfl (lv_at hl 1 rfl) ?_
  refine lv_aload_n hC.1 hC.2.1 dJ5_putStringAt_47b60_11 rfl (lv_at hl 0 rfl) ?_
  refine g_get hC hT.1 G hk h1 k_SB (fun _ h => List.mem_cons_of_mem _ (List.mem_append_left _ (List.mem_append_right _ h))) 1 (by decide) (wm 2 rfl) rfl dJ5_putStringAt_47b60_12 ?_
  refine g_v G hA (s_runV (As := [.ref (lay kb), .int (nI d), .int 0]) (rest := []) (b := sa) hC hT hA G hX (c_gby l D cy lay X hkb h2 hf hm (sa := sa) (w := w) hd _) (cwV 3 hC.2.2.2.2 gJ5_putStringAt_47b60_J0_getBytes_840e7 rfl rfl rfl hdV_J0_getBytes_840e7 ⟨Nat.le_of_ble_eq_true rfl, Nat.le_of_ble_eq_true rfl⟩) (t_recv (hX _ rfl) G.2.2) rfl hl.1 rfl (Nat.le_of_ble_eq_true rfl) dJ5_putStringAt_47b60_15 ⟨Nat.le_of_ble_eq_true rfl, Nat.le_of_ble_eq_true rfl⟩) (fun Y H locs hY G => ?_)
  obtain ⟨a', hf', rfl⟩ := hY
  exact g_vret (Y := (lay, gU X kb (some (bsE cy m a')))) hC hr hlocks G ⟨a', hf', rfl⟩ dJ5_putStringAt_47b60_18
set_option maxHeartbeats 4000000 in
set_option maxRecDepth 100000 in
/-- AbstractStringBuilder.append(String) -/
theorem c_apS5 (l : Launch) (D : va_G) (cy : Nat → ClassId) (lay : Nat → Nat) (X : Nat → Option va_E) {k kb kn : Nat} (hk : k < 128) (hkb : kb < 128) (hkn : kn < 128) (hne : kb ≠ k) {n m : Nat} {a : Nat → Int32} {ml : Int32} (h1 : X k = some (sbE (lay kb) (nI n) ml)) (h2 : X kb = some (bsE cy m a)) (h3 : X kn = none) (hf : sb_Fit a) (hm : capOk m) (hnm : n ≤ m) {sa w : Nat} (hw : w ≤ 16) (hn : n + w ≤ 70) (sz : Nat) : Met l yJ5_append_cf1ce wsJ5_append_cf1ce (rmS 4 1 70) (va_Pc [.ref (lay k), .ref sa] (sI D cy (some (sa, w)) lay X sz)) (va_Qr (S := GY) (fun Y => ∃ o m' a', sb_Fit a' ∧ capOk m' ∧ n + w ≤ m' ∧ Y = (gU lay kb o, sbX cy X k kb o m' a' (nI (n + w)) ml)) (fun Y a t => a = lay k ∧ gO D (gA lay X sz) Y t) (gA lay X sz)) 1 70 (gA lay X sz) := by
  refine s_ofW (cc := cJ5_append_cf1ce) (maxL := 3) (ret := (some (.object "java/lang/AbstractStringBuilder"))) (own := RJ5) (Qc := fun sz => va_Qr (S := GY) (fun Y => ∃ o m' a', sb_Fit a' ∧ capOk m' ∧ n + w ≤ m' ∧ Y = (gU lay kb o, sbX cy X k kb o m' a' (nI (n + w)) ml)) (fun Y a t => a = lay k ∧ gO D (gA lay X sz) Y t) (gA lay X sz)) (by decide) rfl (Nat.le_of_ble_eq_true rfl) rfl ?_
  intro p e0 s m9 args below meth c ls hC hr hlocks hname hT hX G hl
  have hl : lv_has ls 3 [(0, .ref (lay k)), (1, .ref sa)] := hl
  have hA : ∀ q, s.heap.size ≤ q → gA lay X s.heap.size q := fun _ h => Or.inr h
  have hcap : m < 100 := by unfold capOk at hm; omega
  refine lv_aload_n hC.1 hC.2.1 dJ5_append_cf1ce_0 rfl (lv_at hl 1 rfl) ?_
  refine lv_ifnonnull (tgt := 9) hC.1 hC.2.1 dJ5_append_cf1ce_1 (by decide) ?_
  refine lv_aload_n hC.1 hC.2.1 dJ5_append_cf1ce_9 rfl (lv_at hl 1 rfl) ?_
  refine g_i G hA (s_runV (As := []) (rest := []) (b := sa) hC hT hA G hX (c_slen l D cy lay X (sa := sa) (w := w) (by omega) _) (cwV 0 hC.2.2.2.2 gJ5_append_cf1ce_J0_length_8abf5 rfl rfl rfl hdV_J0_length_8abf5 ⟨Nat.le_of_ble_eq_true rfl, Nat.le_of_ble_eq_true rfl⟩) (t_recv (hX _ rfl) G.2.2) rfl hl.1 rfl (Nat.le_of_ble_eq_true rfl) dJ5_append_cf1ce_10 ⟨Nat.le_of_ble_eq_true rfl, Nat.le_of_ble_eq_true rfl⟩) (fun r Y H locs hY G => ?_)
  obtain ⟨rfl, rfl⟩ := hY
  refine lv_istore_n (lv' := [(2, .int (nI w)), (0, .ref (lay k)), (1, .ref sa)]) hC.1 hC.2.1 dJ5_append_cf1ce_13 rfl hl (by decide) rfl (fun ls hl => ?_)
  refine lv_aload_n hC.1 hC.2.1 dJ5_append_cf1ce_14 rfl (lv_at hl 1 rfl) ?_
  refine lv_aload_n hC.1 hC.2.1 dJ5_append_cf1ce_15 rfl (lv_at hl 1 rfl) ?_
  refine g_get hC hT.1 G hk h1 k_SB (fun _ h => List.mem_cons_of_mem _ (List.mem_append_left _ (List.mem_append_right _ h))) 3 (by decide) (wm 1 rfl) rfl dJ5_append_cf1ce_16 ?_
  refine lv_iload_n hC.1 hC.2.1 dJ5_append_cf1ce_19 rfl (lv_at hl 0 rfl) ?_
  refine lv_iadd hC.1 hC.2.1 dJ5_append_cf1ce_20 ?_
  rw [nI_add]
  refine g_v G hA (s_runU (As := [.int (nI (n + w))]) (rest := []) hC hT hA G (fun _ h => by cases h) (c_ensure l D cy lay X hk hkb hkn hne h1 h2 h3 hf hm (q := n + w) (by omega) (by omega) _) (va_cwU 1 hC.2.2.2.2 gJ5_append_cf1ce_J5_ensureCapacityInternal_d00df_u100J4 rfl rfl rfl rfl hdU_J5_ensureCapacityInternal_d00df ⟨Nat.le_of_ble_eq_true rfl, Nat.le_of_ble_eq_true rfl⟩) (s_recv hT G hk h1 k_SB) rfl hl.1 rfl (Nat.le_of_ble_eq_true rfl) dJ5_append_cf1ce_21 ⟨Nat.le_of_ble_eq_true rfl, Nat.le_of_ble_eq_true rfl⟩) (fun Y H locs hY G => ?_)
  obtain ⟨o, m1, a1, hf1, hm1, hq1, hmm1, rfl⟩ := hY
  have e1 : gU lay kb o k = lay k := gU_ne (Ne.symm hne)
  have e2 : gU lay kb o kb = o := gU_eq
  dsimp only at G
  generalize hL : gU lay kb o = L at e1 e2 G
  subst e2
  rw [← e1] at hl
  have hm100 : m1 < 100 := by unfold capOk at hm1; omega
  refine lv_aload_n hC.1 hC.2.1 dJ5_append_cf1ce_24 rfl (lv_at hl 1 rfl) ?_
  refine lv_aload_n hC.1 hC.2.1 dJ5_append_cf1ce_25 rfl (lv_at hl 1 rfl) ?_
  refine g_get hC hT.1 G hk sbX_k k_SB (fun _ h => List.mem_cons_of_mem _ (List.mem_append_left _ (List.mem_append_right _ h))) 3 (by decide) (wm 1 rfl) rfl dJ5_append_cf1ce_26 ?_
  refine lv_aload_n hC.1 hC.2.1 dJ5_append_cf1ce_29 rfl (lv_at hl 2 rfl) ?_
  refine g_v G hA (s_runU (As := [.int (nI n), .ref sa]) (rest := []) hC hT hA G hX (c_putS l D cy L (sbX cy X k kb (L kb) m1 a1 (nI n) ml) hk hkb (n := n) sbX_k (sbX_b hne) hf1 hm100 (sa := sa) (w := w) (d := n) hq1 _) (va_cwU 2 hC.2.2.2.2 gJ5_append_cf1ce_J5_putStringAt_47b60_u208J4 rfl rfl rfl rfl hdU_J5_putStringAt_47b60 ⟨Nat.le_of_ble_eq_true rfl, Nat.le_of_ble_eq_true rfl⟩) (s_recv hT G hk sbX_k k_SB) rfl hl.1 rfl (Nat.le_of_ble_eq_true rfl) dJ5_append_cf1ce_30 ⟨Nat.le_of_ble_eq_true rfl, Nat.le_of_ble_eq_true rfl⟩) (fun Y H locs hY G => ?_)
  obtain ⟨a2, hf2, rfl⟩ := hY
  have G : gG D L (sbX cy X k kb (L kb) m1 a2 (nI n) ml) (gA lay X s.heap.size) s.heap H locs := by rw [← sbX_pb hne]; exact G
  refine lv_aload_n hC.1 hC.2.1 dJ5_append_cf1ce_33 rfl (lv_at hl 1 rfl) ?_
  refine lv_dup hC.1 hC.2.1 dJ5_append_cf1ce_34 rfl ?_
  refine g_get hC hT.1 G hk sbX_k k_SB (fun _ h => List.mem_cons_of_mem _ (List.mem_append_left _ (List.mem_append_right _ h))) 3 (by decide) (wm 1 rfl) rfl dJ5_append_cf1ce_35 ?_
  refine lv_iload_n hC.1 hC.2.1 dJ5_append_cf1ce_38 rfl (lv_at hl 0 rfl) ?_
  refine lv_iadd hC.1 hC.2.1 dJ5_append_cf1ce_39 ?_
  rw [nI_add]
  refine g_put hC hT.1 G hk sbX_k k_SB (fun _ h => List.mem_cons_of_mem _ (List.mem_append_left _ (List.mem_append_right _ h))) 3 (by decide) (wm 1 rfl) rfl rfl rfl (by simp) dJ5_append_cf1ce_40 (fun H locs G => ?_)
  have G : gG D L (sbX cy X k kb (L kb) m1 a2 (nI (n + w)) ml) (gA lay X s.heap.size) s.heap H locs := by rw [← sbX_pk (o := L kb) (n := nI n) (ml := ml)]; exact G
  refine lv_aload_n hC.1 hC.2.1 dJ5_append_cf1ce_43 rfl (lv_at hl 1 rfl) ?_
  exact W.aret (v := .ref (L k)) hC.1 hC.2.1 hr (Or.inl ⟨_, rfl⟩) (Or.inr ⟨_, rfl⟩) (fun t ht hW => ⟨⟨(L, sbX cy X k kb (L kb) m1 a2 (nI (n + w)) ml), L k, rfl, ⟨L kb, m1, a2, hf2, hm1, hq1, by rw [hL]⟩, e1, by rw [ht]; exact G.1, G.2.1⟩, G.2.2.F ht⟩) G.2.2.2.2 dJ5_append_cf1ce_44 hlocks
set_option maxHeartbeats 4000000 in
set_option maxRecDepth 100000 in
/-- c_apS -/
theorem c_apS (l : Launch) (D : va_G) (cy : Nat → ClassId) (lay : Nat → Nat) (X : Nat → Option va_E) {k kb kn : Nat} (hk : k < 128) (hkb : kb < 128) (hkn : kn < 128) (hne : kb ≠ k) {n m : Nat} {a : Nat → Int32} {ml : Int32} (h1 : X k = some (sbE (lay kb) (nI n) ml)) (h2 : X kb = some (bsE cy m a)) (h3 : X kn = none) (hf : sb_Fit a) (hm : capOk m) (hnm : n ≤ m) {sa w : Nat} (hw : w ≤ 16) (hn : n + w ≤ 70) (sz : Nat) : Met l yJ4_append_15ec4 wsJ4_append_15ec4 (rmS 5 1 70) (va_Pc [.ref (lay k), .ref sa] (sI D cy (some (sa, w)) lay X sz)) (va_Qr (S := GY) (fun Y => ∃ o m' a', sb_Fit a' ∧ capOk m' ∧ n + w ≤ m' ∧ Y = (gU lay kb o, sbX cy X k kb o m' a' (nI (n + w)) ml)) (fun Y a t => a = lay k ∧ gO D (gA lay X sz) Y t) (gA lay X sz)) 1 70 (gA lay X sz) := by
  refine s_ofW (cc := cJ4_append_15ec4) (maxL := 2) (ret := (some (.object "java/lang/StringBuilder"))) (own := RJ4) (Qc := fun sz => va_Qr (S := GY) (fun Y => ∃ o m' a', sb_Fit a' ∧ capOk m' ∧ n + w ≤ m' ∧ Y = (gU lay kb o, sbX cy X k kb o m' a' (nI (n + w)) ml)) (fun Y a t => a = lay k ∧ gO D (gA lay X sz) Y t) (gA lay X sz)) (by decide) rfl (Nat.le_of_ble_eq_true rfl) rfl ?_
  intro p e0 s m9 args below meth c ls hC hr hlocks hname hT hX G hl
  have hl : lv_has ls 2 [(0, .ref (lay k)), (1, .ref sa)] := hl
  have hA : ∀ q, s.heap.size ≤ q → gA lay X s.heap.size q := fun _ h => Or.inr h
  refine lv_aload_n hC.1 hC.2.1 dJ4_append_15ec4_0 rfl (lv_at hl 0 rfl) ?_
  refine lv_aload_n hC.1 hC.2.1 dJ4_append_15ec4_1 rfl (lv_at hl 1 rfl) ?_
  refine k_r (f := fun _ => lay k) G hA (s_runSU (As := [.ref sa]) (rest := []) hC hT hA G hX (c_apS5 l D cy lay X hk hkb hkn hne h1 h2 h3 hf hm hnm (sa := sa) hw hn _) (va_cwSU 1 hC.2.2.2.2 gJ4_append_15ec4_J5_append_cf1ce_s29 rfl rfl rfl hdX_J5_append_cf1ce ⟨Nat.le_of_ble_eq_true rfl, Nat.le_of_ble_eq_true rfl⟩) (s_recv hT G hk h1 k_SB) rfl hl.1 rfl (Nat.le_of_ble_eq_true rfl) dJ4_append_15ec4_2 ⟨Nat.le_of_ble_eq_true rfl, Nat.le_of_ble_eq_true rfl⟩) (fun Y H locs hY G => ?_)
  obtain ⟨o, m1, a1, hf1, hm1, hq1, rfl⟩ := hY
  refine lv_pop hC.1 hC.2.1 dJ4_append_15ec4_5 rfl ?_
  refine lv_aload_n hC.1 hC.2.1 dJ4_append_15ec4_6 rfl (lv_at hl 0 rfl) ?_
  exact W.aret (v := .ref (lay k)) hC.1 hC.2.1 hr (Or.inl ⟨_, rfl⟩) (Or.inr ⟨_, rfl⟩) (fun t ht hW => ⟨⟨(gU lay kb o, sbX cy X k kb o m1 a1 (nI (n + w)) ml), lay k, rfl, ⟨o, m1, a1, hf1, hm1, hq1, rfl⟩, rfl, by rw [ht]; exact G.1, G.2.1⟩, G.2.2.F ht⟩) G.2.2.2.2 dJ4_append_15ec4_7 hlocks
end
section
/-! TEXTS: walks of StringBuilder, String (65f.sb) -/
set_option maxHeartbeats 4000000 in
set_option maxRecDepth 100000 in
/-- getValue -/
theorem c_getV (l : Launch) (D : va_G) (cy : Nat → ClassId) (lay : Nat → Nat) (X : Nat → Option va_E) {k kb : Nat} (hk : k < 128) {n ml : Int32} (h1 : X k = some (sbE (lay kb) n ml)) (sz : Nat) : Met l yJ5_getValue_6d5f1 wsJ5_getValue_6d5f1 (rmS 0 0 0) (va_Pc [.ref (lay k)] (sI D cy none lay X sz)) (va_Qr (S := GY) (fun Y => Y = (lay, X)) (fun Y a t => a = lay kb ∧ gO D (gA lay X sz) Y t) (gA lay X sz)) 0 0 (gA lay X sz) := by
  refine s_ofW (cc := cJ5_getValue_6d5f1) (maxL := 1) (ret := (some (.array .byte))) (own := RJ5) (Qc := fun sz => va_Qr (S := GY) (fun Y => Y = (lay, X)) (fun Y a t => a = lay kb ∧ gO D (gA lay X sz) Y t) (gA lay X sz)) (by decide) rfl (Nat.le_of_ble_eq_true rfl) rfl ?_
  intro p e0 s m9 args below meth c ls hC hr hlocks hname hT hX G hl
  have hl : lv_has ls 1 [(0, .ref (lay k))] := hl
  have hA : ∀ q, s.heap.size ≤ q → gA lay X s.heap.size q := fun _ h => Or.inr h
  refine lv_aload_n hC.1 hC.2.1 dJ5_getValue_6d5f1_0 rfl (lv_at hl 0 rfl) ?_
  refine g_get hC hT.1 G hk h1 k_SB (fun _ h => List.mem_cons_of_mem _ (List.mem_append_right _ h)) 0 (by decide) (wm 1 rfl) rfl dJ5_getValue_6d5f1_1 ?_
  exact W.aret (v := .ref (lay kb)) hC.1 hC.2.1 hr (Or.inr ⟨_, rfl⟩) (Or.inr ⟨_, rfl⟩) (fun t ht hW => ⟨⟨(lay, X), lay kb, rfl, rfl, rfl, by rw [ht]; exact G.1, G.2.1⟩, G.2.2.F ht⟩) G.2.2.2.2 dJ5_getValue_6d5f1_4 hlocks
set_option maxHeartbeats 4000000 in
set_option maxRecDepth 100000 in
/-- length -/
theorem c_len5 (l : Launch) (D : va_G) (cy : Nat → ClassId) (lay : Nat → Nat) (X : Nat → Option va_E) {k : Nat} (hk : k < 128) {o : Nat} {n ml : Int32} (h1 : X k = some (sbE o n ml)) (sz : Nat) : Met l yJ5_length_8abf5 wsJ5_length_8abf5 (rmS 0 0 0) (va_Pc [.ref (lay k)] (sI D cy none lay X sz)) (va_Qi (fun (r : Int32) (Y : GY) => r = n ∧ Y = (lay, X)) (gO D (gA lay X sz)) (gA lay X sz)) 0 0 (gA lay X sz) := by
  refine s_ofW (cc := cJ5_length_8abf5) (maxL := 1) (ret := (some .int)) (own := RJ5) (Qc := fun sz => va_Qi (fun (r : Int32) (Y : GY) => r = n ∧ Y = (lay, X)) (gO D (gA lay X sz)) (gA lay X sz)) (by decide) rfl (Nat.le_of_ble_eq_true rfl) rfl ?_
  intro p e0 s m9 args below meth c ls hC hr hlocks hname hT hX G hl
  have hl : lv_has ls 1 [(0, .ref (lay k))] := hl
  have hA : ∀ q, s.heap.size ≤ q → gA lay X s.heap.size q := fun _ h => Or.inr h
  refine lv_aload_n hC.1 hC.2.1 dJ5_length_8abf5_0 rfl (lv_at hl 0 rfl) ?_
  refine g_get hC hT.1 G hk h1 k_SB (fun _ h => List.mem_cons_of_mem _ (List.mem_append_right _ h)) 3 (by decide) (wm 1 rfl) rfl dJ5_length_8abf5_1 ?_
  exact W.iret (v := n) hC.1 hC.2.1 hr (fun t ht hW => ⟨⟨n, (lay, X), rfl, ⟨rfl, rfl⟩, by rw [ht]; exact G.1, G.2.1⟩, G.2.2.F ht⟩) G.2.2.2.2 dJ5_length_8abf5_4 hlocks
set_option maxHeartbeats 4000000 in
set_option maxRecDepth 100000 in
/-- StringBuilder.length -/
theorem c_len (l : Launch) (D : va_G) (cy : Nat → ClassId) (lay : Nat → Nat) (X : Nat → Option va_E) {k : Nat} (hk : k < 128) {o : Nat} {n ml : Int32} (h1 : X k = some (sbE o n ml)) (sz : Nat) : Met l yJ4_length_8abf5 wsJ4_length_8abf5 (rmS 1 0 0) (va_Pc [.ref (lay k)] (sI D cy none lay X sz)) (va_Qi (fun (r : Int32) (Y : GY) => r = n ∧ Y = (lay, X)) (gO D (gA lay X sz)) (gA lay X sz)) 0 0 (gA lay X sz) := by
  refine s_ofW (cc := cJ4_length_8abf5) (maxL := 1) (ret := (some .int)) (own := RJ4) (Qc := fun sz => va_Qi (fun (r : Int32) (Y : GY) => r = n ∧ Y = (lay, X)) (gO D (gA lay X sz)) (gA lay X sz)) (by decide) rfl (Nat.le_of_ble_eq_true rfl) rfl ?_
  intro p e0 s m9 args below meth c ls hC hr hlocks hname hT hX G hl
  have hl : lv_has ls 1 [(0, .ref (lay k))] := hl
  have hA : ∀ q, s.heap.size ≤ q → gA lay X s.heap.size q := fun _ h => Or.inr h
  refine lv_aload_n hC.1 hC.2.1 dJ4_length_8abf5_0 rfl (lv_at hl 0 rfl) ?_
  refine g_i G hA (s_runSU (As := []) (rest := []) hC hT hA G (fun _ h => by cases h) (c_len5 l D cy lay X hk h1 _) (va_cwSU 0 hC.2.2.2.2 gJ4_length_8abf5_J5_length_8abf5_s343 rfl rfl rfl hdX_J5_length_8abf5 ⟨Nat.le_of_ble_eq_true rfl, Nat.le_of_ble_eq_true rfl⟩) (s_recv hT G hk h1 k_SB) rfl hl.1 rfl (Nat.le_of_ble_eq_true rfl) dJ4_length_8abf5_1 ⟨Nat.le_of_ble_eq_true rfl, Nat.le_of_ble_eq_true rfl⟩) (fun r Y H locs hY G => ?_)
  obtain ⟨rfl, rfl⟩ := hY
  exact W.iret (v := r) hC.1 hC.2.1 hr (fun t ht hW => ⟨⟨r, (lay, X), rfl, ⟨rfl, rfl⟩, by rw [ht]; exact G.1, G.2.1⟩, G.2.2.F ht⟩) G.2.2.2.2 dJ4_length_8abf5_4 hlocks
set_option maxHeartbeats 4000000 in
set_option maxRecDepth 100000 in
/-- checkLength -/
theorem c_chkL (l : Launch) (D : va_G) (cy : Nat → ClassId) (lay : Nat → Nat) (X : Nat → Option va_E) {n : Nat} (hn : n < 2 ^ 31) (sz : Nat) : Met l yJ7_checkLength_df160 wsJ7_checkLength_df160 (rmS 0 0 0) (va_Pc [.int 0, .int (nI n)] (sI D cy none lay X sz)) (va_Qv (fun Y : GY => Y = (lay, X)) (gO D (gA lay X sz)) (gA lay X sz)) 0 0 (gA lay X sz) := by
  refine s_ofW (cc := cJ7_checkLength_df160) (maxL := 2) (ret := none) (own := RJ7) (Qc := fun sz => va_Qv (fun Y : GY => Y = (lay, X)) (gO D (gA lay X sz)) (gA lay X sz)) (by decide) rfl (Nat.le_of_ble_eq_true rfl) rfl ?_
  intro p e0 s m9 args below meth c ls hC hr hlocks hname hT hX G hl
  have hl : lv_has ls 2 [(0, .int 0), (1, .int (nI n))] := hl
  have hA : ∀ q, s.heap.size ≤ q → gA lay X s.heap.size q := fun _ h => Or.inr h
  refine lv_iload_n hC.1 hC.2.1 dJ7_checkLength_df160_0 rfl (lv_at hl 1 rfl) ?_
  refine lv_iload_n hC.1 hC.2.1 dJ7_checkLength_df160_1 rfl (lv_at hl 0 rfl) ?_
  refine lv_icmp_ge (tgt := 37) hC.1 hC.2.1 dJ7_checkLength_df160_2 (by decide) (fun _ => ?_) (fun c1 => absurd (show (0 : Int32) ≤ nI n from nI_le (a := 0) (by omega) hn) c1)
  exact g_vret (Y := (lay, X)) hC hr hlocks G rfl dJ7_checkLength_df160_37
set_option maxHeartbeats 4000000 in
set_option maxRecDepth 100000 in
/-- copyOfRangeByte, from the start -/
theorem c_cprB (l : Launch) (D : va_G) (cy : Nat → ClassId) (lay : Nat → Nat) (X : Nat → Option va_E) {kb kn : Nat} (hkb : kb < 128) (hkn : kn < 128) {m n : Nat} {a : Nat → Int32} (h2 : X kb = some (bsE cy m a)) (h3 : X kn = none) (hf : sb_Fit a) (hm : m ≤ 70) (hnm : n ≤ m) (sz : Nat) : Met l yJ7_copyOfRangeByte_39247 wsJ7_copyOfRangeByte_39247 (rmS 1 1 70) (va_Pc [.ref (lay kb), .int 0, .int (nI n)] (sI D cy none lay X sz)) (va_Qr (S := GY) (fun Y => ∃ o a', sb_Fit a' ∧ Y = (gU lay kn o, gU X kn (some (bsE cy n a')))) (fun Y a t => a = Y.1 kn ∧ gO D (gA lay X sz) Y t) (gA lay X sz)) 1 70 (gA lay X sz) := by
  refine s_ofW (cc := cJ7_copyOfRangeByte_39247) (maxL := 5) (ret := (some (.array .byte))) (own := RJ7) (Qc := fun sz => va_Qr (S := GY) (fun Y => ∃ o a', sb_Fit a' ∧ Y = (gU lay kn o, gU X kn (some (bsE cy n a')))) (fun Y a t => a = Y.1 kn ∧ gO D (gA lay X sz) Y t) (gA lay X sz)) (by decide) rfl (Nat.le_of_ble_eq_true rfl) rfl ?_
  intro p e0 s m9 args below meth c ls hC hr hlocks hname hT hX G hl
  have hl : lv_has ls 5 [(0, .ref (lay kb)), (1, .int 0), (2, .int (nI n))] := hl
  have hA : ∀ q, s.heap.size ≤ q → gA lay X s.heap.size q := fun _ h => Or.inr h
  have hne : kb ≠ kn := fun e => by rw [e, h3] at h2; cases h2
  refine lv_iload_n hC.1 hC.2.1 dJ7_copyOfRangeByte_39247_0 rfl (lv_at hl 1 rfl) ?_
  refine lv_iload_n hC.1 hC.2.1 dJ7_copyOfRangeByte_39247_1 rfl (lv_at hl 2 rfl) ?_
  refine g_v G hA (s_runS (As := [.int 0, .int (nI n)]) (rest := []) hC hT hA G (fun _ h => by cases h) (c_chkL l D cy lay X (n := n) (by omega) _) (va_cwS 2 hC.2.2.2.2 gJ7_copyOfRangeByte_39247_J7_checkLength_df160 rfl rfl rfl hdS_J7_checkLength_df160 ⟨Nat.le_of_ble_eq_true rfl, Nat.le_of_ble_eq_true rfl⟩) rfl hl.1 rfl (Nat.le_of_ble_eq_true rfl) dJ7_copyOfRangeByte_39247_2 ⟨Nat.le_of_ble_eq_true rfl, Nat.le_of_ble_eq_true rfl⟩) (fun Y H locs hY G => ?_)
  subst hY
  refine lv_iload_n hC.1 hC.2.1 dJ7_copyOfRangeByte_39247_5 rfl (lv_at hl 2 rfl) ?_
  refine lv_iload_n hC.1 hC.2.1 dJ7_copyOfRangeByte_39247_6 rfl (lv_at hl 1 rfl) ?_
  refine lv_isub hC.1 hC.2.1 dJ7_copyOfRangeByte_39247_7 ?_
  rw [show nI n - 0 = nI n from by grind]
  refine lv_istore_n (lv' := [(3, .int (nI n)), (0, .ref (lay kb)), (1, .int 0), (2, .int (nI n))]) hC.1 hC.2.1 dJ7_copyOfRangeByte_39247_8 rfl hl (by decide) rfl (fun ls hl => ?_)
  refine lv_iload_n hC.1 hC.2.1 dJ7_copyOfRangeByte_39247_9 rfl (lv_at hl 0 rfl) ?_
  refine g_newa_b (k := kn) (N := n) hC hT.1 G hA h3 (wm 1 rfl) (nI_pos (by omega)) (nI_clamp (by omega)) (by show n * 1 ≤ _; omega) (Nat.le_of_ble_eq_true rfl) (by show 0 + n ≤ 70; omega) dJ7_copyOfRangeByte_39247_10 (fun o H G => ?_)
  have f1 : gU lay kn o kb = lay kb := gU_ne hne
  have f2 : gU lay kn o kn = o := gU_eq
  have g1 : gU X kn (some (bsE cy n (fun _ => 0))) kb = some (bsE cy m a) := (gU_ne hne).trans h2
  have g2 : gU X kn (some (bsE cy n (fun _ => 0))) kn = some (bsE cy n (fun _ => 0)) := gU_eq
  refine lv_astore (lv' := [(4, .ref o), (3, .int (nI n)), (0, .ref (lay kb)), (1, .int 0), (2, .int (nI n))]) hC.1 hC.2.1 dJ7_copyOfRangeByte_39247_12 hl (by decide) rfl (fun ls hl => ?_)
  refine lv_aload_n hC.1 hC.2.1 dJ7_copyOfRangeByte_39247_14 rfl (lv_at hl 2 rfl) ?_
  refine lv_iload_n hC.1 hC.2.1 dJ7_copyOfRangeByte_39247_15 rfl (lv_at hl 3 rfl) ?_
  refine lv_aload hC.1 hC.2.1 dJ7_copyOfRangeByte_39247_16 (lv_at hl 0 rfl) ?_
  refine lv_iconst (v := 0) hC.1 hC.2.1 dJ7_copyOfRangeByte_39247_18 (by decide) ?_
  refine lv_aload_n hC.1 hC.2.1 dJ7_copyOfRangeByte_39247_19 rfl (lv_at hl 2 rfl) ?_
  obtain ⟨q20, hq20⟩ := gW_pos (lay := gU lay kn o) hkb g1
  rw [f1] at hq20
  refine va_alen hC.1 hC.2.1 hT.1 (gP_list G.1) q20 8 hq20 rfl rfl dJ7_copyOfRangeByte_39247_20 ?_
  refine lv_iload_n hC.1 hC.2.1 dJ7_copyOfRangeByte_39247_21 rfl (lv_at hl 3 rfl) ?_
  refine lv_isub hC.1 hC.2.1 dJ7_copyOfRangeByte_39247_22 ?_
  rw [show Int32.ofNat m - 0 = nI m from by show nI m - 0 = nI m; grind]
  refine lv_iload_n hC.1 hC.2.1 dJ7_copyOfRangeByte_39247_23 rfl (lv_at hl 1 rfl) ?_
  refine va_mmin hC.1 hC.2.1 (hC.2.2.1.trans hl.1.symm) hC.2.2.2.1 (hC.2.2.2.2 _ (wm 2 rfl)) (hC.2.2.2.2 _ (wm 3 rfl)) (hC.2.2.2.2 _ (wm 4 rfl)) (hC.2.2.2.2 _ (wm 5 rfl)) (Nat.le_of_ble_eq_true rfl) (Nat.le_of_ble_eq_true rfl) (Nat.le_of_ble_eq_true rfl) (by show 0 + n ≤ 70; omega) dJ7_copyOfRangeByte_39247_24 ?_
  have em : (if nI n < nI m then nI n else nI m) = nI n := by
    rcases Nat.lt_or_ge n m with q | q
    · rw [if_pos (nI_lt q (by omega))]
    · rw [show m = n by omega]
      split <;> rfl
  rw [em]
  refine g_bcopy hC hl.1 hT.1 G (wm 6 rfl) (wm 7 rfl) (wm 8 rfl) (wm 9 rfl) f1 f2 hkb hkn g1 g2 hf (n := n) (by omega) hnm (Nat.le_refl _) (Nat.le_of_ble_eq_true rfl) (Nat.le_of_ble_eq_true rfl) dJ7_copyOfRangeByte_39247_27 (fun H locs G => ?_)
  rw [gU_gU] at G
  refine lv_aload hC.1 hC.2.1 dJ7_copyOfRangeByte_39247_30 (lv_at hl 0 rfl) ?_
  refine W.widen (k := 1) (n := 70) (Nat.le_of_ble_eq_true rfl) (by show 0 + n ≤ 70; omega) ?_
  exact W.aret (v := .ref o) hC.1 hC.2.1 hr (Or.inr ⟨_, rfl⟩) (Or.inr ⟨_, rfl⟩) (fun t ht hW => ⟨⟨(gU lay kn o, gU X kn (some (bsE cy n (va_cpy a (fun _ => 0) 0 0 n)))), o, rfl, ⟨o, _, sb_fitC hf sb_fit0, rfl⟩, gU_eq.symm, by rw [ht]; exact G.1, G.2.1⟩, G.2.2.F ht⟩) G.2.2.2.2 dJ7_copyOfRangeByte_39247_32 hlocks
set_option maxHeartbeats 4000000 in
set_option maxRecDepth 100000 in
/-- Arrays.copyOfRange, from the start -/
theorem c_cpr (l : Launch) (D : va_G) (cy : Nat → ClassId) (lay : Nat → Nat) (X : Nat → Option va_E) {kb kn : Nat} (hkb : kb < 128) (hkn : kn < 128) {m n : Nat} {a : Nat → Int32} (h2 : X kb = some (bsE cy m a)) (h3 : X kn = none) (hf : sb_Fit a) (hm : m ≤ 70) (hnm : n ≤ m) (sz : Nat) : Met l yJ7_copyOfRange_39247 wsJ7_copyOfRange_39247 (rmS 2 1 70) (va_Pc [.ref (lay kb), .int 0, .int (nI n)] (sI D cy none lay X sz)) (va_Qr (S := GY) (fun Y => ∃ o a', sb_Fit a' ∧ Y = (gU lay kn o, gU X kn (some (bsE cy n a')))) (fun Y a t => a = Y.1 kn ∧ gO D (gA lay X sz) Y t) (gA lay X sz)) 1 70 (gA lay X sz) := by
  refine s_ofW (cc := cJ7_copyOfRange_39247) (maxL := 3) (ret := (some (.array .byte))) (own := RJ7) (Qc := fun sz => va_Qr (S := GY) (fun Y => ∃ o a', sb_Fit a' ∧ Y = (gU lay kn o, gU X kn (some (bsE cy n a')))) (fun Y a t => a = Y.1 kn ∧ gO D (gA lay X sz) Y t) (gA lay X sz)) (by decide) rfl (Nat.le_of_ble_eq_true rfl) rfl ?_
  intro p e0 s m9 args below meth c ls hC hr hlocks hname hT hX G hl
  have hl : lv_has ls 3 [(0, .ref (lay kb)), (1, .int 0), (2, .int (nI n))] := hl
  have hA : ∀ q, s.heap.size ≤ q → gA lay X s.heap.size q := fun _ h => Or.inr h
  refine lv_iload_n hC.1 hC.2.1 dJ7_copyOfRange_39247_0 rfl (lv_at hl 1 rfl) ?_
  refine lv_if_ne (tgt := 10) hC.1 hC.2.1 dJ7_copyOfRange_39247_1 (by decide) (fun c1 => absurd rfl c1) (fun _ => ?_)
  refine lv_iload_n hC.1 hC.2.1 dJ7_copyOfRange_39247_4 rfl (lv_at hl 2 rfl) ?_
  refine lv_aload_n hC.1 hC.2.1 dJ7_copyOfRange_39247_5 rfl (lv_at hl 0 rfl) ?_
  obtain ⟨q6, hq6⟩ := gW_pos (lay := lay) hkb h2
  refine va_alen hC.1 hC.2.1 hT.1 (gP_list G.1) q6 8 hq6 rfl rfl dJ7_copyOfRange_39247_6 ?_
  refine lv_icmp_eq (tgt := 17) hC.1 hC.2.1 dJ7_copyOfRange_39247_7 (by decide) (fun c1 => ?_) (fun _ => ?_)
  · obtain rfl : n = m := (nI_eq (by omega) (by omega)).mp (show nI n = nI m from c1)
    refine lv_aload_n hC.1 hC.2.1 dJ7_copyOfRange_39247_17 rfl (lv_at hl 0 rfl) ?_
    have hnm8 : s.vm.findClass "[B" = some (cy 8) := va_nm_byte (hT.1.2 8 (cy 8, .byte) rfl).2
    refine va_clone (ad := "[B") hC.1 hC.2.1 (hC.2.2.1.trans hl.1.symm) hC.2.2.2.1 (hC.2.2.2.2 _ (wm 1 rfl)) (hC.2.2.2.2 _ (wm 2 rfl)) (hC.2.2.2.2 _ (wm 3 rfl)) (hC.2.2.2.2 _ (wm 4 rfl)) (hC.2.2.2.2 _ (wm 5 rfl)) hT.2.1 hT.1 (gP_list G.1) (gI_list G.2.1) G.2.2 hA q6 8 hq6 rfl hnm8 (fun i v hi => t_cellF hf hi) (Nat.le_of_ble_eq_true rfl) (Nat.le_of_ble_eq_true rfl) (Nat.le_of_ble_eq_true rfl) (by show 0 + n ≤ 70; omega) dJ7_copyOfRange_39247_18 (fun o H _ hP hD hS => ?_)
    have G : gG D (gU lay kn o) (gU X kn (some (bsE cy n a))) (gA lay X s.heap.size) s.heap H [] := ⟨gP_new h3 hP, gI_new G.2.1 h3 hD, hS⟩
    obtain ⟨q21, hq21⟩ := gW_pos (lay := gU lay kn o) hkn (show gU X kn (some (bsE cy n a)) kn = some (bsE cy n a) from gU_eq)
    rw [show gU lay kn o kn = o from gU_eq] at hq21
    refine va_castA hC.1 hC.2.1 hC.2.2.2.1 (hC.2.2.2.2 _ (wm 6 rfl)) (gP_list G.1) q21 hq21 hnm8 dJ7_copyOfRange_39247_21 ?_
    refine W.widen (k := 1) (n := 70) (Nat.le_of_ble_eq_true rfl) (by show 0 + n ≤ 70; omega) ?_
    exact W.aret (v := .ref o) hC.1 hC.2.1 hr (Or.inr ⟨_, rfl⟩) (Or.inr ⟨_, rfl⟩) (fun t ht hW => ⟨⟨(gU lay kn o, gU X kn (some (bsE cy n a))), o, rfl, ⟨o, a, hf, rfl⟩, gU_eq.symm, by rw [ht]; exact G.1, G.2.1⟩, G.2.2.F ht⟩) G.2.2.2.2 dJ7_copyOfRange_39247_24 hlocks
  refine lv_aload_n hC.1 hC.2.1 dJ7_copyOfRange_39247_10 rfl (lv_at hl 0 rfl) ?_
  refine lv_iload_n hC.1 hC.2.1 dJ7_copyOfRange_39247_11 rfl (lv_at hl 1 rfl) ?_
  refine lv_iload_n hC.1 hC.2.1 dJ7_copyOfRange_39247_12 rfl (lv_at hl 2 rfl) ?_
  refine k_r (f := fun Y => Y.1 kn) G hA (s_runS (As := [.ref (lay kb), .int 0, .int (nI n)]) (rest := []) hC hT hA G (fun _ h => by cases h) (c_cprB l D cy lay X hkb hkn h2 h3 hf hm hnm _) (va_cwS 3 hC.2.2.2.2 gJ7_copyOfRange_39247_J7_copyOfRangeByte_39247 rfl rfl rfl hdS_J7_copyOfRangeByte_39247 ⟨Nat.le_of_ble_eq_true rfl, Nat.le_of_ble_eq_true rfl⟩) rfl hl.1 rfl (Nat.le_of_ble_eq_true rfl) dJ7_copyOfRange_39247_13 ⟨Nat.le_of_ble_eq_true rfl, Nat.le_of_ble_eq_true rfl⟩) (fun Y H locs hY G => ?_)
  exact W.aret (v := .ref (Y.1 kn)) hC.1 hC.2.1 hr (Or.inr ⟨_, rfl⟩) (Or.inr ⟨_, rfl⟩) (fun t ht hW => ⟨⟨Y, Y.1 kn, rfl, hY, rfl, by rw [ht]; exact G.1, G.2.1⟩, G.2.2.F ht⟩) G.2.2.2.2 dJ7_copyOfRange_39247_16 hlocks
set_option maxHeartbeats 4000000 in
set_option maxRecDepth 100000 in
/-- new String of a StringBuilder: its bytes -/
theorem c_S0iV (l : Launch) (D : va_G) (cy : Nat → ClassId) (lay : Nat → Nat) (X : Nat → Option va_E) {ks kr k kb : Nat} (hks : ks < 128) (hkr : kr < 128) (hk : k < 128) (hkb : kb < 128) (hne1 : ks ≠ k) (hne2 : ks ≠ kb) (hne3 : ks ≠ kr) {n m : Nat} {a : Nat → Int32} {ml : Int32} (h1 : X k = some (sbE (lay kb) (nI n) ml)) (h2 : X kb = some (bsE cy m a)) (h3 : X kr = none) (hf : sb_Fit a) (hm : capOk m) (hnm : n ≤ m) (h4 : X ks = some (.inr (0, [.null, .int 0, .int 0, .int 0]))) (sz : Nat) : Met l yJ0_init_db425 wsJ0_init_db425 (rmS 3 1 70) (va_Pc [.ref (lay ks), .ref (lay k), .null] (sI D cy none lay X sz)) (va_Qv (fun Y : GY => ∃ o a', sb_Fit a' ∧ Y = (gU lay kr o, gU (gU X kr (some (bsE cy n a'))) ks (some (.inr (0, [.ref o, .int 0, .int 0, .int 0]))))) (gO D (gA lay X sz)) (gA lay X sz)) 1 70 (gA lay X sz) := by
  refine s_ofW (cc := cJ0_init_db425) (maxL := 5) (ret := none) (own := RJ0) (Qc := fun sz => va_Qv (fun Y : GY => ∃ o a', sb_Fit a' ∧ Y = (gU lay kr o, gU (gU X kr (some (bsE cy n a'))) ks (some (.inr (0, [.ref o, .int 0, .int 0, .int 0]))))) (gO D (gA lay X sz)) (gA lay X sz)) (by decide) rfl (Nat.le_of_ble_eq_true rfl) rfl ?_
  intro p e0 s m9 args below meth c ls hC hr hlocks hname hT hX G hl
  have hl : lv_has ls 5 [(0, .ref (lay ks)), (1, .ref (lay k)), (2, .null)] := hl
  have hA : ∀ q, s.heap.size ≤ q → gA lay X s.heap.size q := fun _ h => Or.inr h
  have hm70 : m ≤ 70 := by unfold capOk at hm; omega
  have hkk : k ≠ kr := fun e => by rw [e, h3] at h1; cases h1
  refine lv_aload_n hC.1 hC.2.1 dJ0_init_db425_0 rfl (lv_at hl 0 rfl) ?_
  refine W.objInit hC.1 hC.2.1 hC.2.2.2.1 (hC.2.2.2.2 _ (wm 1 rfl)) (hC.2.2.2.2 _ (wm 2 rfl)) (hC.2.2.2.2 _ (wm 3 rfl)) rfl (by rw [hC.2.2.1]; exact hl.1) rfl dJ0_init_db425_1 (Nat.le_of_ble_eq_true rfl) (Nat.le_of_ble_eq_true rfl) ?_
  show W _ _ _ _ _ _ _ _ _ _ _ _ _ _ _ (F0 m9 4 ls [])
  refine lv_aload_n hC.1 hC.2.1 dJ0_init_db425_4 rfl (lv_at hl 1 rfl) ?_
  refine k_r (f := fun _ => lay kb) G hA (s_runU (As := []) (rest := []) hC hT hA G (fun _ h => by cases h) (c_getV l D cy lay X hk h1 _) (va_cwU 0 hC.2.2.2.2 gJ0_init_db425_J5_getValue_6d5f1_u552J4 rfl rfl rfl rfl hdU_J5_getValue_6d5f1 ⟨Nat.le_of_ble_eq_true rfl, Nat.le_of_ble_eq_true rfl⟩) (s_recv hT G hk h1 k_SB) rfl hl.1 rfl (Nat.le_of_ble_eq_true rfl) dJ0_init_db425_5 ⟨Nat.le_of_ble_eq_true rfl, Nat.le_of_ble_eq_true rfl⟩) (fun Y H locs hY G => ?_)
  subst hY
  refine lv_astore_n (lv' := [(3, .ref (lay kb)), (0, .ref (lay ks)), (1, .ref (lay k)), (2, .null)]) hC.1 hC.2.1 dJ0_init_db425_8 rfl hl (by decide) rfl (fun ls hl => ?_)
  refine lv_aload_n hC.1 hC.2.1 dJ0_init_db425_9 rfl (lv_at hl 2 rfl) ?_
  refine g_i G hA (s_runU (As := []) (rest := []) hC hT hA G (fun _ h => by cases h) (c_len l D cy lay X hk h1 _) (va_cwO 0 hC.2.2.2.2 gJ0_init_db425_J4_length_8abf5_u549J4 rfl rfl rfl (wm 25 rfl) hdU_J4_length_8abf5 ⟨Nat.le_of_ble_eq_true rfl, Nat.le_of_ble_eq_true rfl⟩) (s_recv hT G hk h1 k_SB) rfl hl.1 rfl (Nat.le_of_ble_eq_true rfl) dJ0_init_db425_10 ⟨Nat.le_of_ble_eq_true rfl, Nat.le_of_ble_eq_true rfl⟩) (fun r Y H locs hY G => ?_)
  obtain ⟨rfl, rfl⟩ := hY
  refine lv_istore (lv' := [(4, .int (nI n)), (3, .ref (lay kb)), (0, .ref (lay ks)), (1, .ref (lay k)), (2, .null)]) hC.1 hC.2.1 dJ0_init_db425_13 hl (by decide) rfl (fun ls hl => ?_)
  refine lv_aload_n hC.1 hC.2.1 dJ0_init_db425_15 rfl (lv_at hl 3 rfl) ?_
  refine g_i G hA (s_runU (As := []) (rest := []) hC hT hA G (fun _ h => by cases h) (c_isL l D cy lay X hk h1 _) (va_cwU 0 hC.2.2.2.2 gJ0_init_db425_J5_isLatin1_aae02_u1047J4 rfl rfl rfl rfl hdU_J5_isLatin1_aae02 ⟨Nat.le_of_ble_eq_true rfl, Nat.le_of_ble_eq_true rfl⟩) (s_recv hT G hk h1 k_SB) rfl hl.1 rfl (Nat.le_of_ble_eq_true rfl) dJ0_init_db425_16 ⟨Nat.le_of_ble_eq_true rfl, Nat.le_of_ble_eq_true rfl⟩) (fun r Y H locs hY G => ?_)
  obtain ⟨rfl, rfl⟩ := hY
  refine lv_if_eq (tgt := 41) hC.1 hC.2.1 dJ0_init_db425_19 (by decide) (fun c1 => absurd c1 (by decide)) (fun _ => ?_)
  refine lv_aload_n hC.1 hC.2.1 dJ0_init_db425_22 rfl (lv_at hl 2 rfl) ?_
  refine lv_iconst (v := 0) hC.1 hC.2.1 dJ0_init_db425_23 (by decide) ?_
  refine g_putF hC hT.1 G hks h4 k_S0 (fun _ h => List.mem_cons_of_mem _ (List.mem_append_left _ (List.mem_append_right _ h))) 1 (by decide) (wm 4 rfl) rfl (hname.trans rfl) rfl rfl rfl (by simp) dJ0_init_db425_24 (fun H locs G => ?_)
  have G : gG D lay (gU X ks (some (.inr (0, ([.null, .int 0, .int 0, .int 0] : List Value).set 1 (.int 0))))) (gA lay X s.heap.size) s.heap H locs := G
  have e9 : gU X ks (some (.inr (0, ([.null, .int 0, .int 0, .int 0] : List Value).set 1 (.int 0)))) = X := gU_self h4
  rw [e9] at G
  refine lv_aload_n hC.1 hC.2.1 dJ0_init_db425_27 rfl (lv_at hl 2 rfl) ?_
  refine lv_aload_n hC.1 hC.2.1 dJ0_init_db425_28 rfl (lv_at hl 1 rfl) ?_
  refine lv_iconst (v := 0) hC.1 hC.2.1 dJ0_init_db425_29 (by decide) ?_
  refine lv_iload hC.1 hC.2.1 dJ0_init_db425_30 (lv_at hl 0 rfl) ?_
  refine k_r (f := fun Y => Y.1 kr) G hA (s_runS (As := [.ref (lay kb), .int 0, .int (nI n)]) (rest := [.ref (lay ks)]) hC hT hA G (fun _ h => by cases h) (c_cpr l D cy lay X hkb hkr h2 h3 hf hm70 hnm _) (va_cwS 3 hC.2.2.2.2 gJ0_init_db425_J7_copyOfRange_39247 rfl rfl rfl hdS_J7_copyOfRange_39247 ⟨Nat.le_of_ble_eq_true rfl, Nat.le_of_ble_eq_true rfl⟩) rfl hl.1 rfl (Nat.le_of_ble_eq_true rfl) dJ0_init_db425_32 ⟨Nat.le_of_ble_eq_true rfl, Nat.le_of_ble_eq_true rfl⟩) (fun Y H locs hY G => ?_)
  obtain ⟨o, a', hf', rfl⟩ := hY
  have G : gG D (gU lay kr o) (gU X kr (some (bsE cy n a'))) (gA lay X s.heap.size) s.heap H locs := G
  have e3 : gU lay kr o kr = o := gU_eq
  have e4 : gU lay kr o ks = lay ks := gU_ne hne3
  show W _ _ _ _ _ _ _ _ _ _ _ _ _ _ _ (F0 _ _ _ (.ref (gU lay kr o kr) :: _))
  rw [e3]
  refine g_putFA (a := lay ks) e4 hC hT.1 G hks ((gU_ne hne3).trans h4) k_S0 (fun _ h => List.mem_cons_of_mem _ (List.mem_append_left _ (List.mem_append_right _ h))) 0 (by decide) (wm 5 rfl) rfl (hname.trans rfl) rfl rfl rfl (by simp) dJ0_init_db425_35 (fun H locs G => ?_)
  refine lv_goto (tgt := 97) hC.1 hC.2.1 dJ0_init_db425_38 (by decide) ?_
  exact g_vret (Y := (gU lay kr o, gU (gU X kr (some (bsE cy n a'))) ks (some (.inr (0, [.ref o, .int 0, .int 0, .int 0]))))) hC hr hlocks G ⟨o, a', hf', rfl⟩ dJ0_init_db425_97
set_option maxHeartbeats 4000000 in
set_option maxRecDepth 100000 in
/-- new String(StringBuilder) -/
theorem c_S0i (l : Launch) (D : va_G) (cy : Nat → ClassId) (lay : Nat → Nat) (X : Nat → Option va_E) {ks kr k kb : Nat} (hks : ks < 128) (hkr : kr < 128) (hk : k < 128) (hkb : kb < 128) (hne1 : ks ≠ k) (hne2 : ks ≠ kb) (hne3 : ks ≠ kr) {n m : Nat} {a : Nat → Int32} {ml : Int32} (h1 : X k = some (sbE (lay kb) (nI n) ml)) (h2 : X kb = some (bsE cy m a)) (h3 : X kr = none) (hf : sb_Fit a) (hm : capOk m) (hnm : n ≤ m) (h4 : X ks = some (.inr (0, [.null, .int 0, .int 0, .int 0]))) (sz : Nat) : Met l yJ0_init_81219 wsJ0_init_81219 (rmS 4 1 70) (va_Pc [.ref (lay ks), .ref (lay k)] (sI D cy none lay X sz)) (va_Qv (fun Y : GY => ∃ o a', sb_Fit a' ∧ Y = (gU lay kr o, gU (gU X kr (some (bsE cy n a'))) ks (some (.inr (0, [.ref o, .int 0, .int 0, .int 0]))))) (gO D (gA lay X sz)) (gA lay X sz)) 1 70 (gA lay X sz) := by
  refine s_ofW (cc := cJ0_init_81219) (maxL := 2) (ret := none) (own := RJ0) (Qc := fun sz => va_Qv (fun Y : GY => ∃ o a', sb_Fit a' ∧ Y = (gU lay kr o, gU (gU X kr (some (bsE cy n a'))) ks (some (.inr (0, [.ref o, .int 0, .int 0, .int 0]))))) (gO D (gA lay X sz)) (gA lay X sz)) (by decide) rfl (Nat.le_of_ble_eq_true rfl) rfl ?_
  intro p e0 s m9 args below meth c ls hC hr hlocks hname hT hX G hl
  have hl : lv_has ls 2 [(0, .ref (lay ks)), (1, .ref (lay k))] := hl
  have hA : ∀ q, s.heap.size ≤ q → gA lay X s.heap.size q := fun _ h => Or.inr h
  refine lv_aload_n hC.1 hC.2.1 dJ0_init_81219_0 rfl (lv_at hl 0 rfl) ?_
  refine lv_aload_n hC.1 hC.2.1 dJ0_init_81219_1 rfl (lv_at hl 1 rfl) ?_
  refine lv_null hC.1 hC.2.1 dJ0_init_81219_2 ?_
  refine g_v G hA (s_runI (As := [.ref (lay k), .null]) (rest := []) (b := lay ks) hC hT hA G (fun _ h => by cases h) (c_S0iV l D cy lay X hks hkr hk hkb hne1 hne2 hne3 h1 h2 h3 hf hm hnm h4 _) ⟨callB_of 2 hC.2.2.2.2 gJ0_init_81219_J0_init_db425 rfl rfl rfl (hC.2.2.2.2 (.initialized RJ0) (wm 3 rfl)) (hC.2.2.2.2 (.methodLink RJ0 489 yJ0_init_db425) (wm 1 rfl)) hdI_J0_init_db425 ⟨Nat.le_of_ble_eq_true rfl, Nat.le_of_ble_eq_true rfl⟩, rfl, hC.2.2.2.2 (.instanceMethod yJ0_init_db425) (wm 2 rfl)⟩  rfl hl.1 rfl (Nat.le_of_ble_eq_true rfl) dJ0_init_81219_3 ⟨Nat.le_of_ble_eq_true rfl, Nat.le_of_ble_eq_true rfl⟩) (fun Y H locs hY G => ?_)
  exact g_vret (Y := Y) hC hr hlocks G hY dJ0_init_81219_6
set_option maxHeartbeats 4000000 in
set_option maxRecDepth 100000 in
/-- toString -/
theorem c_toS (l : Launch) (D : va_G) (cy : Nat → ClassId) (lay : Nat → Nat) (X : Nat → Option va_E) {ks kr k kb : Nat} (hks : ks < 128) (hkr : kr < 128) (hk : k < 128) (hkb : kb < 128) (hne3 : ks ≠ kr) {n m : Nat} {a : Nat → Int32} {ml : Int32} (h1 : X k = some (sbE (lay kb) (nI n) ml)) (h2 : X kb = some (bsE cy m a)) (h3 : X kr = none) (h4 : X ks = none) (hf : sb_Fit a) (hm : capOk m) (hnm : n ≤ m) (sz : Nat) : Met l yJ4_toString_0e30d wsJ4_toString_0e30d (rmS 5 2 74) (va_Pc [.ref (lay k)] (sI D cy none lay X sz)) (va_Qr (S := GY) (fun Y => ∃ q o a', sb_Fit a' ∧ Y = (gU (gU lay ks q) kr o, gU (gU (gU X ks (some (.inr (0, [.ref o, .int 0, .int 0, .int 0])))) kr (some (bsE cy n a'))) ks (some (.inr (0, [.ref o, .int 0, .int 0, .int 0]))))) (fun Y a t => a = Y.1 ks ∧ gO D (gA lay X sz) Y t) (gA lay X sz)) 2 74 (gA lay X sz) := by
  refine s_ofW (cc := cJ4_toString_0e30d) (maxL := 1) (ret := (some (.object "java/lang/String"))) (own := RJ4) (Qc := fun sz => va_Qr (S := GY) (fun Y => ∃ q o a', sb_Fit a' ∧ Y = (gU (gU lay ks q) kr o, gU (gU (gU X ks (some (.inr (0, [.ref o, .int 0, .int 0, .int 0])))) kr (some (bsE cy n a'))) ks (some (.inr (0, [.ref o, .int 0, .int 0, .int 0]))))) (fun Y a t => a = Y.1 ks ∧ gO D (gA lay X sz) Y t) (gA lay X sz)) (by decide) rfl (Nat.le_of_ble_eq_true rfl) rfl ?_
  intro p e0 s m9 args below meth c ls hC hr hlocks hname hT hX G hl
  have hl : lv_has ls 1 [(0, .ref (lay k))] := hl
  have hA : ∀ q, s.heap.size ≤ q → gA lay X s.heap.size q := fun _ h => Or.inr h
  have hne1 : ks ≠ k := fun e => by rw [← e, h4] at h1; cases h1
  have hne2 : ks ≠ kb := fun e => by rw [← e, h4] at h2; cases h2
  refine g_new (k := ks) (fs := [.null, .int 0, .int 0, .int 0]) hC hT.1 G hA h4 k_S0 (fun _ h => List.mem_cons_of_mem _ (List.mem_append_left _ (List.mem_append_right _ h))) (wm 1 rfl) (wm 2 rfl) (wm 3 rfl) df_S0 (Nat.le_of_ble_eq_true rfl) (Nat.le_of_ble_eq_true rfl) dJ4_toString_0e30d_0 (fun q H G => ?_)
  refine lv_dup hC.1 hC.2.1 dJ4_toString_0e30d_3 rfl ?_
  refine lv_aload_n hC.1 hC.2.1 dJ4_toString_0e30d_4 rfl (lv_at hl 0 rfl) ?_
  have e1 : gU lay ks q k = lay k := gU_ne (Ne.symm hne1)
  have e2 : gU lay ks q kb = lay kb := gU_ne (Ne.symm hne2)
  rw [← e1]
  refine g_v G hA (s_runI (As := [.ref (gU lay ks q k)]) (rest := [.ref (gU lay ks q ks)]) (b := gU lay ks q ks) hC hT hA G (fun _ h => by cases h) (c_S0i l D cy (gU lay ks q) (gU X ks (some (.inr (0, [.null, .int 0, .int 0, .int 0])))) hks hkr hk hkb hne1 hne2 hne3 ((gU_ne (Ne.symm hne1)).trans (by rw [e2]; exact h1)) ((gU_ne (Ne.symm hne2)).trans h2) ((gU_ne (Ne.symm hne3)).trans h3) hf hm hnm gU_eq _) ⟨callB_of 1 hC.2.2.2.2 gJ4_toString_0e30d_J0_init_81219 rfl rfl rfl (hC.2.2.2.2 (.initialized RJ0) (wm 3 rfl)) (hC.2.2.2.2 (.methodLink RJ4 137 yJ0_init_81219) (wm 4 rfl)) hdI_J0_init_81219 ⟨Nat.le_of_ble_eq_true rfl, Nat.le_of_ble_eq_true rfl⟩, rfl, hC.2.2.2.2 (.instanceMethod yJ0_init_81219) (wm 5 rfl)⟩  rfl hl.1 rfl (Nat.le_of_ble_eq_true rfl) dJ4_toString_0e30d_5 ⟨Nat.le_of_ble_eq_true rfl, Nat.le_of_ble_eq_true rfl⟩) (fun Y H locs hY G => ?_)
  obtain ⟨o, a', hf', rfl⟩ := hY
  have eY : gU (gU (gU X ks (some (.inr (0, [.null, .int 0, .int 0, .int 0])))) kr (some (bsE cy n a'))) ks (some (.inr (0, [.ref o, .int 0, .int 0, .int 0]))) = gU (gU (gU X ks (some (.inr (0, [.ref o, .int 0, .int 0, .int 0])))) kr (some (bsE cy n a'))) ks (some (.inr (0, [.ref o, .int 0, .int 0, .int 0]))) := gU3e
  dsimp only at G
  rw [eY] at G
  have e5 : gU (gU lay ks q) kr o ks = gU lay ks q ks := gU_ne hne3
  exact W.aret (v := .ref (gU lay ks q ks)) hC.1 hC.2.1 hr (Or.inl ⟨_, rfl⟩) (Or.inr ⟨_, rfl⟩) (fun t ht hW => ⟨⟨(gU (gU lay ks q) kr o, gU (gU (gU X ks (some (.inr (0, [.ref o, .int 0, .int 0, .int 0])))) kr (some (bsE cy n a'))) ks (some (.inr (0, [.ref o, .int 0, .int 0, .int 0])))), gU lay ks q ks, rfl, ⟨q, o, a', hf', rfl⟩, e5.symm, by rw [ht]; exact G.1, G.2.1⟩, G.2.2.F ht⟩) G.2.2.2.2 dJ4_toString_0e30d_8 hlocks
set_option maxHeartbeats 4000000 in
set_option maxRecDepth 100000 in
/-- AbstractStringBuilder(int) -/
theorem c_sb5 (l : Launch) (D : va_G) (cy : Nat → ClassId) (lay : Nat → Nat) (X : Nat → Option va_E) {k kb : Nat} (hk : k < 128) (hkb : kb < 128) (hne : kb ≠ k) (h1 : X k = some (.inr (1, [.null, .int 0, .int 0, .int 0]))) (h2 : X kb = none) (sz : Nat) : Met l yJ5_init_d00df wsJ5_init_d00df (rmS 1 1 16) (va_Pc [.ref (lay k), .int 16] (sI D cy none lay X sz)) (va_Qv (fun Y : GY => ∃ o, Y = (gU lay kb o, sbX cy X k kb o 16 (fun _ => 0) (nI 0) 0)) (gO D (gA lay X sz)) (gA lay X sz)) 1 16 (gA lay X sz) := by
  refine s_ofW (cc := cJ5_init_d00df) (maxL := 2) (ret := none) (own := RJ5) (Qc := fun sz => va_Qv (fun Y : GY => ∃ o, Y = (gU lay kb o, sbX cy X k kb o 16 (fun _ => 0) (nI 0) 0)) (gO D (gA lay X sz)) (gA lay X sz)) (by decide) rfl (Nat.le_of_ble_eq_true rfl) rfl ?_
  intro p e0 s m9 args below meth c ls hC hr hlocks hname hT hX G hl
  have hl : lv_has ls 2 [(0, .ref (lay k)), (1, .int 16)] := hl
  have hA : ∀ q, s.heap.size ≤ q → gA lay X s.heap.size q := fun _ h => Or.inr h
  refine lv_aload_n hC.1 hC.2.1 dJ5_init_d00df_0 rfl (lv_at hl 0 rfl) ?_
  refine W.objInit hC.1 hC.2.1 hC.2.2.2.1 (hC.2.2.2.2 _ (wm 1 rfl)) (hC.2.2.2.2 _ (wm 2 rfl)) (hC.2.2.2.2 _ (wm 3 rfl)) rfl (by rw [hC.2.2.1]; exact hl.1) rfl dJ5_init_d00df_1 (Nat.le_of_ble_eq_true rfl) (Nat.le_of_ble_eq_true rfl) ?_
  show W _ _ _ _ _ _ _ _ _ _ _ _ _ _ _ (F0 m9 4 ls [])
  refine va_gets hC.1 hC.2.1 hT.2.2.1 G.2.2 hC.2.2.2.1 (hC.2.2.2.2 _ (wm 4 rfl)) (fun _ h => h) dJ5_init_d00df_4 ?_
  refine lv_if_eq (tgt := 25) hC.1 hC.2.1 dJ5_init_d00df_7 (by decide) (fun c1 => absurd c1 (by decide)) (fun _ => ?_)
  refine lv_aload_n hC.1 hC.2.1 dJ5_init_d00df_10 rfl (lv_at hl 0 rfl) ?_
  refine lv_iload_n hC.1 hC.2.1 dJ5_init_d00df_11 rfl (lv_at hl 1 rfl) ?_
  refine g_newa_b (k := kb) (N := 16) hC hT.1 G hA h2 (wm 5 rfl) (by decide) (by decide) (by decide) (Nat.le_of_ble_eq_true rfl) (Nat.le_of_ble_eq_true rfl) dJ5_init_d00df_12 (fun o H G => ?_)
  have e1 : gU lay kb o k = lay k := gU_ne (Ne.symm hne)
  refine g_putA (a := lay k) e1 hC hT.1 G hk ((gU_ne (Ne.symm hne)).trans h1) k_SB (fun _ h => List.mem_cons_of_mem _ (List.mem_append_right _ h)) 0 (by decide) (wm 6 rfl) rfl rfl rfl (by simp) dJ5_init_d00df_14 (fun H locs G => ?_)
  refine lv_aload_n hC.1 hC.2.1 dJ5_init_d00df_17 rfl (lv_at hl 0 rfl) ?_
  refine lv_iconst (v := 0) hC.1 hC.2.1 dJ5_init_d00df_18 (by decide) ?_
  refine g_putA (a := lay k) e1 hC hT.1 G hk gU_eq k_SB (fun _ h => List.mem_cons_of_mem _ (List.mem_append_right _ h)) 1 (by decide) (wm 7 rfl) rfl rfl rfl (by simp) dJ5_init_d00df_19 (fun H locs G => ?_)
  refine lv_goto (tgt := 38) hC.1 hC.2.1 dJ5_init_d00df_22 (by decide) ?_
  have G : gG D (gU lay kb o) (sbX cy X k kb o 16 (fun _ => 0) (nI 0) 0) (gA lay X s.heap.size) s.heap H locs := by
    rw [gU_gU] at G
    exact G
  exact g_vret (Y := (gU lay kb o, sbX cy X k kb o 16 (fun _ => 0) (nI 0) 0)) hC hr hlocks G ⟨o, rfl⟩ dJ5_init_d00df_38
set_option maxHeartbeats 4000000 in
set_option maxRecDepth 100000 in
/-- new StringBuilder() -/
theorem c_sb0 (l : Launch) (D : va_G) (cy : Nat → ClassId) (lay : Nat → Nat) (X : Nat → Option va_E) {k kb : Nat} (hk : k < 128) (hkb : kb < 128) (hne : kb ≠ k) (h1 : X k = some (.inr (1, [.null, .int 0, .int 0, .int 0]))) (h2 : X kb = none) (sz : Nat) : Met l yJ4_init_da8c8 wsJ4_init_da8c8 (rmS 2 1 16) (va_Pc [.ref (lay k)] (sI D cy none lay X sz)) (va_Qv (fun Y : GY => ∃ o, Y = (gU lay kb o, sbX cy X k kb o 16 (fun _ => 0) (nI 0) 0)) (gO D (gA lay X sz)) (gA lay X sz)) 1 16 (gA lay X sz) := by
  refine s_ofW (cc := cJ4_init_da8c8) (maxL := 1) (ret := none) (own := RJ4) (Qc := fun sz => va_Qv (fun Y : GY => ∃ o, Y = (gU lay kb o, sbX cy X k kb o 16 (fun _ => 0) (nI 0) 0)) (gO D (gA lay X sz)) (gA lay X sz)) (by decide) rfl (Nat.le_of_ble_eq_true rfl) rfl ?_
  intro p e0 s m9 args below meth c ls hC hr hlocks hname hT hX G hl
  have hl : lv_has ls 1 [(0, .ref (lay k))] := hl
  have hA : ∀ q, s.heap.size ≤ q → gA lay X s.heap.size q := fun _ h => Or.inr h
  refine lv_aload_n hC.1 hC.2.1 dJ4_init_da8c8_0 rfl (lv_at hl 0 rfl) ?_
  refine lv_bipush (v := 16) hC.1 hC.2.1 dJ4_init_da8c8_1 (by decide) ?_
  refine g_v G hA (s_runI (As := [.int 16]) (rest := []) (b := lay k) hC hT hA G (fun _ h => by cases h) (c_sb5 l D cy lay X hk hkb hne h1 h2 _) ⟨callB_of 1 hC.2.2.2.2 gJ4_init_da8c8_J5_init_d00df rfl rfl rfl (hC.2.2.2.2 (.initialized RJ5) (wm 3 rfl)) (hC.2.2.2.2 (.methodLink RJ4 1 yJ5_init_d00df) (wm 1 rfl)) hdI_J5_init_d00df ⟨Nat.le_of_ble_eq_true rfl, Nat.le_of_ble_eq_true rfl⟩, rfl, hC.2.2.2.2 (.instanceMethod yJ5_init_d00df) (wm 2 rfl)⟩  rfl hl.1 rfl (Nat.le_of_ble_eq_true rfl) dJ4_init_da8c8_3 ⟨Nat.le_of_ble_eq_true rfl, Nat.le_of_ble_eq_true rfl⟩) (fun Y H locs hY G => ?_)
  exact g_vret (Y := Y) hC hr hlocks G hY dJ4_init_da8c8_6
end
section
/-! TEXTS: a StringBuilder beside a world: rows -/
theorem gU_over {lay L : Nat → Nat} {kb o : Nat} (hL : gU lay kb (L kb) = L) : gU L kb o = gU lay kb o := by
  funext i
  by_cases h : i = kb
  · subst h; rw [gU_eq, gU_eq]
  · rw [gU_ne h, gU_ne h, ← hL, gU_ne h]
theorem gU_out {lay L : Nat → Nat} {kb i : Nat} (hL : gU lay kb (L kb) = L) (h : i ≠ kb) : L i = lay i := by
  rw [← hL, gU_ne h]
theorem sbX_over {cy : Nat → ClassId} {X : Nat → Option va_E} {k kb o m : Nat} {a : Nat → Int32} {n ml : Int32} {e : Option va_E} : sbX cy (gU X k e) k kb o m a n ml = sbX cy X k kb o m a n ml := by
  funext i
  by_cases h1 : i = k
  · subst h1; rw [sbX_k, sbX_k]
  · by_cases h2 : i = kb
    · subst h2; rw [sbX_b h1, sbX_b h1]
    · rw [sbX_o h1 h2, sbX_o h1 h2, gU_ne h1]
/-- the world X, and a StringBuilder of n letters in k, its row in kb -/
def sbW (D : va_G) (cy : Nat → ClassId) (lay : Nat → Nat) (X : Nat → Option va_E) (A : Nat → Prop) (H0 H : Heap) (locs : List Loc) (k kb n : Nat) : Prop :=
  ∃ (L : Nat → Nat) (m : Nat) (a : Nat → Int32) (ml : Int32), sb_Fit a ∧ capOk m ∧ n ≤ m ∧ gU lay kb (L kb) = L ∧ gG D L (sbX cy X k kb (L kb) m a (nI n) ml) A H0 H locs
section SBW
variable {p : Program} {l : Launch} {e : Env} {R : Room} {s : State} {m : MethodId} {args : Array Value} {below : List Frame} {meth : Method} {c : Code} {H : Heap} {locs : List Loc} {cells slots : Nat} {Q : State → Prop}
variable {cc : ByteArray} {pc nL index : Nat} {ls : Array Slot} {ST rest : List Value} {D : va_G} {cy : Nat → ClassId} {lay : Nat → Nat} {X : Nat → Option va_E} {A : Nat → Prop} {Ts : List Cond} {own : String} {k kb kn n : Nat}
theorem sb_apI (hC : CallFix p m c cc nL s args Ts own) (hT : tB D cy A s s.heap) (hA : ∀ q, s.heap.size ≤ q → A q) (S : sbW D cy lay X A s.heap H locs k kb n) (hk : k < 128) (hkb : kb < 128) (hkn : kn < 128) (hne : kb ≠ k) (hnk : kn ≠ k) (hnb : kn ≠ kb) (h3 : X kn = none) {v : Nat} (hv : v < 1000) (hn : n + 3 ≤ 70)
    (cw : CallW R s args own RJ4 index yJ4_append_bf812 cJ4_append_bf812 2 (some (.object "java/lang/StringBuilder")) wsJ4_append_bf812 (rmS 5 1 70) 1 70 1) (hls : ls.size = nL) (hW : (rest.map fun v => v.category).sum ≤ 8) (hdg : decode cc pc = .ok (.invokevirtual index, 3)) (hf : cells + 1 ≤ R.cells ∧ slots + 70 ≤ R.slots)
    (kk : ∀ (H1 : Heap) (locs1 : List Loc), sbW D cy lay X A s.heap H1 locs1 k kb (n + dg v) → W p l e R s m args below meth c H1 locs1 (cells + 1) (slots + 70) Q (F0 m (pc + 3) ls (.ref (lay k) :: rest))) : W p l e R s m args below meth c H locs cells slots Q (F0 m pc ls (.int (nI v) :: .ref (lay k) :: rest)) := by
  obtain ⟨L, m1, a, ml, hf1, hm, hnm, hL, G⟩ := S
  have e1 : L k = lay k := gU_out hL (Ne.symm hne)
  rw [← e1]
  refine k_r (f := fun _ => L k) G hA (s_runV (As := [.int (nI v)]) (rest := rest) (b := L k) (tx := none) hC hT hA G (fun _ h => by cases h) (c_apI l D cy L (sbX cy X k kb (L kb) m1 a (nI n) ml) hk hkb hkn hne sbX_k (sbX_b hne) ((sbX_o hnk hnb).trans h3) hf1 hm hnm hv hn _) cw (s_recv hT G hk sbX_k k_SB) rfl hls rfl hW hdg hf) (fun Y H1 locs1 hY G1 => ?_)
  obtain ⟨o, m2, a2, hf2, hm2, hq2, rfl⟩ := hY
  rw [e1]
  refine kk H1 locs1 ⟨gU L kb o, m2, a2, ml, hf2, hm2, hq2, ?_, ?_⟩
  · rw [gU_eq, gU_over hL]
  · rw [gU_eq]
    have G1 : gG D (gU L kb o) (sbX cy (sbX cy X k kb (L kb) m1 a (nI n) ml) k kb o m2 a2 (nI (n + dg v)) ml) A s.heap H1 locs1 := G1
    rw [sbX_sbX] at G1
    exact G1
theorem sb_apC (hC : CallFix p m c cc nL s args Ts own) (hT : tB D cy A s s.heap) (hA : ∀ q, s.heap.size ≤ q → A q) (S : sbW D cy lay X A s.heap H locs k kb n) (hk : k < 128) (hkb : kb < 128) (hkn : kn < 128) (hne : kb ≠ k) (hnk : kn ≠ k) (hnb : kn ≠ kb) (h3 : X kn = none) {v : Int32} (hv : ¬ 255 < v) (hn : n + 1 ≤ 70)
    (cw : CallW R s args own RJ4 index yJ4_append_cf468 cJ4_append_cf468 2 (some (.object "java/lang/StringBuilder")) wsJ4_append_cf468 (rmS 5 1 70) 1 70 1) (hls : ls.size = nL) (hW : (rest.map fun v => v.category).sum ≤ 8) (hdg : decode cc pc = .ok (.invokevirtual index, 3)) (hf : cells + 1 ≤ R.cells ∧ slots + 70 ≤ R.slots)
    (kk : ∀ (H1 : Heap) (locs1 : List Loc), sbW D cy lay X A s.heap H1 locs1 k kb (n + 1) → W p l e R s m args below meth c H1 locs1 (cells + 1) (slots + 70) Q (F0 m (pc + 3) ls (.ref (lay k) :: rest))) : W p l e R s m args below meth c H locs cells slots Q (F0 m pc ls (.int v :: .ref (lay k) :: rest)) := by
  obtain ⟨L, m1, a, ml, hf1, hm, hnm, hL, G⟩ := S
  have e1 : L k = lay k := gU_out hL (Ne.symm hne)
  rw [← e1]
  refine k_r (f := fun _ => L k) G hA (s_runV (As := [.int v]) (rest := rest) (b := L k) (tx := none) hC hT hA G (fun _ h => by cases h) (c_apC l D cy L (sbX cy X k kb (L kb) m1 a (nI n) ml) hk hkb hkn hne sbX_k (sbX_b hne) ((sbX_o hnk hnb).trans h3) hf1 hm hnm hv hn _) cw (s_recv hT G hk sbX_k k_SB) rfl hls rfl hW hdg hf) (fun Y H1 locs1 hY G1 => ?_)
  obtain ⟨o, m2, a2, hf2, hm2, hq2, rfl⟩ := hY
  rw [e1]
  refine kk H1 locs1 ⟨gU L kb o, m2, a2, ml, hf2, hm2, hq2, ?_, ?_⟩
  · rw [gU_eq, gU_over hL]
  · rw [gU_eq]
    have G1 : gG D (gU L kb o) (sbX cy (sbX cy X k kb (L kb) m1 a (nI n) ml) k kb o m2 a2 (nI (n + 1)) ml) A s.heap H1 locs1 := G1
    rw [sbX_sbX] at G1
    exact G1
theorem sb_apS (hC : CallFix p m c cc nL s args Ts own) (hT : tB D cy A s s.heap) (hA : ∀ q, s.heap.size ≤ q → A q) (S : sbW D cy lay X A s.heap H locs k kb n) (hk : k < 128) (hkb : kb < 128) (hkn : kn < 128) (hne : kb ≠ k) (hnk : kn ≠ k) (hnb : kn ≠ kb) (h3 : X kn = none) {sa w : Nat} (hX : tX sa w A s s.heap) (hw : w ≤ 16) (hn : n + w ≤ 70)
    (cw : CallW R s args own RJ4 index yJ4_append_15ec4 cJ4_append_15ec4 2 (some (.object "java/lang/StringBuilder")) wsJ4_append_15ec4 (rmS 5 1 70) 1 70 1) (hls : ls.size = nL) (hW : (rest.map fun v => v.category).sum ≤ 8) (hdg : decode cc pc = .ok (.invokevirtual index, 3)) (hf : cells + 1 ≤ R.cells ∧ slots + 70 ≤ R.slots)
    (kk : ∀ (H1 : Heap) (locs1 : List Loc), sbW D cy lay X A s.heap H1 locs1 k kb (n + w) → W p l e R s m args below meth c H1 locs1 (cells + 1) (slots + 70) Q (F0 m (pc + 3) ls (.ref (lay k) :: rest))) : W p l e R s m args below meth c H locs cells slots Q (F0 m pc ls (.ref sa :: .ref (lay k) :: rest)) := by
  obtain ⟨L, m1, a, ml, hf1, hm, hnm, hL, G⟩ := S
  have e1 : L k = lay k := gU_out hL (Ne.symm hne)
  rw [← e1]
  refine k_r (f := fun _ => L k) G hA (s_runV (As := [.ref sa]) (rest := rest) (b := L k) (tx := some (sa, w)) hC hT hA G (fun q h => by cases h; exact hX) (c_apS l D cy L (sbX cy X k kb (L kb) m1 a (nI n) ml) hk hkb hkn hne sbX_k (sbX_b hne) ((sbX_o hnk hnb).trans h3) hf1 hm hnm hw hn _) cw (s_recv hT G hk sbX_k k_SB) rfl hls rfl hW hdg hf) (fun Y H1 locs1 hY G1 => ?_)
  obtain ⟨o, m2, a2, hf2, hm2, hq2, rfl⟩ := hY
  rw [e1]
  refine kk H1 locs1 ⟨gU L kb o, m2, a2, ml, hf2, hm2, hq2, ?_, ?_⟩
  · rw [gU_eq, gU_over hL]
  · rw [gU_eq]
    have G1 : gG D (gU L kb o) (sbX cy (sbX cy X k kb (L kb) m1 a (nI n) ml) k kb o m2 a2 (nI (n + w)) ml) A s.heap H1 locs1 := G1
    rw [sbX_sbX] at G1
    exact G1
theorem sb_len (hC : CallFix p m c cc nL s args Ts own) (hT : tB D cy A s s.heap) (hA : ∀ q, s.heap.size ≤ q → A q) (S : sbW D cy lay X A s.heap H locs k kb n) (hk : k < 128) (hne : kb ≠ k)
    (cw : CallW R s args own RJ4 index yJ4_length_8abf5 cJ4_length_8abf5 1 (some .int) wsJ4_length_8abf5 (rmS 1 0 0) 0 0 0) (hls : ls.size = nL) (hW : (rest.map fun v => v.category).sum ≤ 8) (hdg : decode cc pc = .ok (.invokevirtual index, 3)) (hf : cells + 0 ≤ R.cells ∧ slots + 0 ≤ R.slots)
    (kk : ∀ (H1 : Heap) (locs1 : List Loc), sbW D cy lay X A s.heap H1 locs1 k kb n → W p l e R s m args below meth c H1 locs1 (cells + 0) (slots + 0) Q (F0 m (pc + 3) ls (.int (nI n) :: rest))) : W p l e R s m args below meth c H locs cells slots Q (F0 m pc ls (.ref (lay k) :: rest)) := by
  obtain ⟨L, m1, a, ml, hf1, hm, hnm, hL, G⟩ := S
  have e1 : L k = lay k := gU_out hL (Ne.symm hne)
  rw [← e1]
  refine g_i G hA (s_runV (As := []) (rest := rest) (b := L k) (tx := none) hC hT hA G (fun _ h => by cases h) (c_len l D cy L (sbX cy X k kb (L kb) m1 a (nI n) ml) hk sbX_k _) cw (s_recv hT G hk sbX_k k_SB) rfl hls rfl hW hdg hf) (fun r Y H1 locs1 hY G1 => ?_)
  obtain ⟨rfl, rfl⟩ := hY
  exact kk H1 locs1 ⟨L, m1, a, ml, hf1, hm, hnm, hL, G1⟩
/-- toString: the world goes on, with other cells in k, kb, ks, kr -/
theorem sb_toS (hC : CallFix p m c cc nL s args Ts own) (hT : tB D cy A s s.heap) (hA : ∀ q, s.heap.size ≤ q → A q) (S : sbW D cy lay X A s.heap H locs k kb n) (hk : k < 128) (hkb : kb < 128) {ks kr : Nat} (hks : ks < 128) (hkr : kr < 128) (hne : kb ≠ k) (hne3 : ks ≠ kr) (h1 : ks ≠ k) (h2 : ks ≠ kb) (h3 : kr ≠ k) (h4 : kr ≠ kb) (h5 : X ks = none) (h6 : X kr = none)
    (cw : CallW R s args own RJ4 index yJ4_toString_0e30d cJ4_toString_0e30d 1 (some (.object "java/lang/String")) wsJ4_toString_0e30d (rmS 5 2 74) 2 74 0) (hls : ls.size = nL) (hW : (rest.map fun v => v.category).sum ≤ 8) (hdg : decode cc pc = .ok (.invokevirtual index, 3)) (hf : cells + 2 ≤ R.cells ∧ slots + 74 ≤ R.slots)
    (kk : ∀ (q : Nat) (L' : Nat → Nat) (X' : Nat → Option va_E) (H1 : Heap) (locs1 : List Loc), (∀ j, j ≠ k → j ≠ kb → j ≠ ks → j ≠ kr → L' j = lay j ∧ X' j = X j) → gG D L' X' A s.heap H1 locs1 → W p l e R s m args below meth c H1 locs1 (cells + 2) (slots + 74) Q (F0 m (pc + 3) ls (.ref q :: rest))) : W p l e R s m args below meth c H locs cells slots Q (F0 m pc ls (.ref (lay k) :: rest)) := by
  obtain ⟨L, m1, a, ml, hf1, hm, hnm, hL, G⟩ := S
  have e1 : L k = lay k := gU_out hL (Ne.symm hne)
  rw [← e1]
  refine k_r (f := fun Y => Y.1 ks) G hA (s_runV (As := []) (rest := rest) (b := L k) (tx := none) hC hT hA G (fun _ h => by cases h) (c_toS l D cy L (sbX cy X k kb (L kb) m1 a (nI n) ml) hks hkr hk hkb hne3 sbX_k (sbX_b hne) ((sbX_o h3 h4).trans h6) ((sbX_o h1 h2).trans h5) hf1 hm hnm _) cw (s_recv hT G hk sbX_k k_SB) rfl hls rfl hW hdg hf) (fun Y H1 locs1 hY G1 => ?_)
  obtain ⟨q, o, a', hf', rfl⟩ := hY
  refine kk _ _ _ H1 locs1 (fun j g1 g2 g3 g4 => ⟨?_, ?_⟩) G1
  · show gU (gU L ks q) kr o j = lay j
    rw [gU_ne g4, gU_ne g3, gU_out hL g2]
  · show gU (gU (gU (sbX cy X k kb (L kb) m1 a (nI n) ml) ks _) kr _) ks _ j = X j
    rw [gU_ne g3, gU_ne g4, gU_ne g3, sbX_o g1 g2]
/-- a new StringBuilder -/
theorem sb_new (hC : CallFix p m c cc nL s args Ts own) (hT : tB D cy A s s.heap) (hA : ∀ q, s.heap.size ≤ q → A q) (G : gG D lay X A s.heap H locs) (hk : k < 128) (hkb : kb < 128) (hne : kb ≠ k) (h1 : X k = none) (h2 : X kb = none) (hin : ∀ w ∈ u_ws RJ4 TJ4 4, w ∈ Ts) {i2 : Nat} (hlk : Cond.classLink own index RJ4 ∈ Ts) (hins : Cond.instantiable RJ4 4 ∈ Ts) (hini : Cond.initialized RJ4 ∈ Ts)
    (cw : CallB R s args own i2 yJ4_init_da8c8 cJ4_init_da8c8 1 none wsJ4_init_da8c8 (rmS 2 1 16) 1 16 0 ∧ yJ4_init_da8c8.name = "<init>" ∧ (Cond.instanceMethod yJ4_init_da8c8).before args s = true) (hls : ls.size = nL) (hW : (rest.map fun v => v.category).sum ≤ 7) (d0 : decode cc pc = .ok (.new index, 3)) (d3 : decode cc (pc + 3) = .ok (.dup, 1)) (d4 : decode cc (pc + 4) = .ok (.invokespecial i2, 3)) (hf : cells + 2 ≤ R.cells ∧ slots + 20 ≤ R.slots)
    (kk : ∀ (q : Nat) (H1 : Heap) (locs1 : List Loc), sbW D cy (gU lay k q) X A s.heap H1 locs1 k kb 0 → W p l e R s m args below meth c H1 locs1 (cells + 2) (slots + 20) Q (F0 m (pc + 7) ls (.ref (gU lay k q k) :: rest))) : W p l e R s m args below meth c H locs cells slots Q (F0 m pc ls rest) := by
  refine g_new (k := k) (fs := [.null, .int 0, .int 0, .int 0]) hC hT.1 G hA h1 k_SB hin hlk hins hini df_SB (by omega) (by omega) d0 (fun q H1 G1 => ?_)
  refine lv_dup hC.1 hC.2.1 d3 rfl ?_
  refine g_v G1 hA (s_runI (As := []) (rest := .ref (gU lay k q k) :: rest) (b := gU lay k q k) (tx := none) hC hT hA G1 (fun _ h => by cases h) (c_sb0 l D cy (gU lay k q) (gU X k (some (.inr (1, [.null, .int 0, .int 0, .int 0])))) hk hkb hne gU_eq ((gU_ne hne).trans h2) _) cw rfl hls rfl (by show (1 + (rest.map fun v => v.category).sum) ≤ 8; omega) d4 ⟨by omega, by omega⟩) (fun Y H2 locs2 hY G2 => ?_)
  obtain ⟨o, rfl⟩ := hY
  refine W.widen (k := cells + 2) (n := slots + 20) (by omega) (by omega) ?_
  refine kk q H2 locs2 ⟨gU (gU lay k q) kb o, 16, fun _ => 0, 0, sb_fit0, Or.inl rfl, by omega, by rw [gU_eq], ?_⟩
  rw [gU_eq]
  have G2 : gG D (gU (gU lay k q) kb o) (sbX cy (gU X k (some (.inr (1, [.null, .int 0, .int 0, .int 0])))) k kb o 16 (fun _ => 0) (nI 0) 0) A s.heap H2 locs2 := G2
  rw [sbX_over] at G2
  exact G2
theorem sb_get {C : String} {T : u_T} {N ci j : Nat} {ty : Nat → FieldType} (hC : CallFix p m c cc nL s args Ts own) (hT : tB D cy A s s.heap) (S : sbW D cy lay X A s.heap H locs k kb n) (hj : j < 128) (hjk : j ≠ k) (hjb : j ≠ kb) {fs : List Value} (he : X j = some (.inr (ci, fs))) (hcl : agCl C T N ci ty) (hin : ∀ w ∈ u_ws C T N, w ∈ Ts) (i : Nat) (hi : i < N) (hl : Cond.fieldLink own index (T i).1 (T i).2.1 (T i).2.2.1 ∈ Ts) {v : Value} (hv : fs[i]? = some v) (hdg : decode cc pc = .ok (.getfield index, 3))
    (kk : W p l e R s m args below meth c H locs cells slots Q (F0 m (pc + 3) ls (v :: rest))) : W p l e R s m args below meth c H locs cells slots Q (F0 m pc ls (.ref (lay j) :: rest)) := by
  obtain ⟨L, m1, a, ml, hf1, hm, hnm, hL, G⟩ := S
  rw [← gU_out hL hjb]
  exact g_get hC hT.1 G hj ((sbX_o hjk hjb).trans he) hcl hin i hi hl hv hdg kk
theorem sb_iald {j N : Nat} (hC : CallFix p m c cc nL s args Ts own) (hT : tB D cy A s s.heap) (S : sbW D cy lay X A s.heap H locs k kb n) (hj : j < 128) (hjk : j ≠ k) (hjb : j ≠ kb) {f : Nat → Int32} (he : X j = some (.inl (cy 0, N, .inl f))) {i : Int32} (hin : vp_in i N) (hdg : decode cc pc = .ok (.iaload, 1))
    (kk : W p l e R s m args below meth c H locs cells slots Q (F0 m (pc + 1) ls (.int (f i.toNatClampNeg) :: rest))) : W p l e R s m args below meth c H locs cells slots Q (F0 m pc ls (.int i :: .ref (lay j) :: rest)) := by
  obtain ⟨L, m1, a, ml, hf1, hm, hnm, hL, G⟩ := S
  rw [← gU_out hL hjb]
  obtain ⟨q0, hq⟩ := gW_pos (lay := L) hj ((sbX_o hjk hjb).trans he)
  exact va_iald hC.1 hC.2.1 hT.1 (gP_list G.1) q0 0 hq rfl hin hdg kk
theorem sb_recv {ci j : Nat} {C : String} {T : u_T} {N : Nat} {ty : Nat → FieldType} {fs : List Value} (hT : tB D cy A s s.heap) (S : sbW D cy lay X A s.heap H locs k kb n) (hj : j < 128) (hjk : j ≠ k) (hjb : j ≠ kb) (he : X j = some (.inr (ci, fs))) (hcl : agCl C T N ci ty) : ∃ cell : Cell, H[lay j]? = some cell ∧ cell.vm.isStatics = false ∧ s.vm.findClass C = some cell.cls := by
  obtain ⟨L, m1, a, ml, hf1, hm, hnm, hL, G⟩ := S
  rw [← gU_out hL hjb]
  exact s_recv hT G hj ((sbX_o hjk hjb).trans he) hcl
end SBW
end
