/-! TEXTS: walks of StringBuilder, String (65b.sb) -/
set_option maxHeartbeats 4000000 in
set_option maxRecDepth 100000 in
/-- isLatin1: it is -/
theorem c_isL (l : Launch) (D : va_G) (cy : Nat → ClassId) (lay : Nat → Nat) (X : Nat → Option va_E) {k : Nat} (hk : k < 128) {o : Nat} {n ml : Int32} (h1 : X k = some (sbE o n ml)) (sz : Nat) : Met l yJ5_isLatin1_aae02 wsJ5_isLatin1_aae02 (rmS 0 0 0) (va_Pc [.ref (lay k)] (sI D cy none lay X sz)) (va_Qi (fun (r : Int32) (Y : GY) => r = 1 ∧ Y = (lay, X)) (gO D (gA lay X sz)) (gA lay X sz)) 0 0 (gA lay X sz) := by
  refine s_ofW (cc := cJ5_isLatin1_aae02) (maxL := 1) (ret := (some .boolean)) (own := RJ5) (Qc := fun sz => va_Qi (fun (r : Int32) (Y : GY) => r = 1 ∧ Y = (lay, X)) (gO D (gA lay X sz)) (gA lay X sz)) (by decide) rfl (Nat.le_of_ble_eq_true rfl) rfl ?_
  intro p e0 s m9 args below meth c ls hC hr hlocks hname hT hX G hl
  have hl : lv_has ls 1 [(0, .ref (lay k))] := hl
  have hA : ∀ q, s.heap.size ≤ q → gA lay X s.heap.size q := fun _ h => Or.inr h
  refine va_gets hC.1 hC.2.1 hT.2.2.1 G.2.2 hC.2.2.2.1 (hC.2.2.2.2 _ (wm 1 rfl)) (fun _ h => h) dJ5_isLatin1_aae02_0 ?_
  refine lv_if_eq (tgt := 17) hC.1 hC.2.1 dJ5_isLatin1_aae02_3 (by decide) (fun c1 => absurd c1 (by decide)) (fun _ => ?_)
  refine lv_aload_n hC.1 hC.2.1 dJ5_isLatin1_aae02_6 rfl (lv_at hl 0 rfl) ?_
  refine g_get hC hT.1 G hk h1 k_SB (fun _ h => List.mem_cons_of_mem _ (List.mem_append_right _ h)) 1 (by decide) (wm 2 rfl) rfl dJ5_isLatin1_aae02_7 ?_
  refine lv_if_ne (tgt := 17) hC.1 hC.2.1 dJ5_isLatin1_aae02_10 (by decide) (fun c1 => absurd rfl c1) (fun _ => ?_)
  refine lv_iconst (v := 1) hC.1 hC.2.1 dJ5_isLatin1_aae02_13 (by decide) ?_
  refine lv_goto (tgt := 18) hC.1 hC.2.1 dJ5_isLatin1_aae02_14 (by decide) ?_
  exact W.zret (v := 1) hC.1 hC.2.1 hr rfl (fun t ht hW => ⟨⟨1, (lay, X), rfl, ⟨rfl, rfl⟩, by rw [ht]; exact G.1, G.2.1⟩, G.2.2.F ht⟩) G.2.2.2.2 dJ5_isLatin1_aae02_18 hlocks
set_option maxHeartbeats 4000000 in
set_option maxRecDepth 100000 in
/-- coder of a text: Latin-1 -/
theorem c_coder (l : Launch) (D : va_G) (cy : Nat → ClassId) (lay : Nat → Nat) (X : Nat → Option va_E) {sa w : Nat} (sz : Nat) : Met l yJ0_coder_7d493 wsJ0_coder_7d493 (rmS 0 0 0) (va_Pc [.ref sa] (sI D cy (some (sa, w)) lay X sz)) (va_Qi (fun (r : Int32) (Y : GY) => r = 0 ∧ Y = (lay, X)) (gO D (gA lay X sz)) (gA lay X sz)) 0 0 (gA lay X sz) := by
  refine s_ofW (cc := cJ0_coder_7d493) (maxL := 1) (ret := (some .byte)) (own := RJ0) (Qc := fun sz => va_Qi (fun (r : Int32) (Y : GY) => r = 0 ∧ Y = (lay, X)) (gO D (gA lay X sz)) (gA lay X sz)) (by decide) rfl (Nat.le_of_ble_eq_true rfl) rfl ?_
  intro p e0 s m9 args below meth c ls hC hr hlocks hname hT hX G hl
  have hl : lv_has ls 1 [(0, .ref sa)] := hl
  have hA : ∀ q, s.heap.size ≤ q → gA lay X s.heap.size q := fun _ h => Or.inr h
  obtain ⟨-, x2, -⟩ := hX _ rfl
  refine va_gets hC.1 hC.2.1 hT.2.2.1 G.2.2 hC.2.2.2.1 (hC.2.2.2.2 _ (wm 1 rfl)) (fun _ h => h) dJ0_coder_7d493_0 ?_
  refine lv_if_eq (tgt := 13) hC.1 hC.2.1 dJ0_coder_7d493_3 (by decide) (fun c1 => absurd c1 (by decide)) (fun _ => ?_)
  refine lv_aload_n hC.1 hC.2.1 dJ0_coder_7d493_6 rfl (lv_at hl 0 rfl) ?_
  refine vk_getf hC.1 hC.2.1 x2 G.2.2 hC.2.2.2.1 (hC.2.2.2.2 _ (wm 2 rfl)) (fun _ h => h) dJ0_coder_7d493_7 ?_
  refine lv_goto (tgt := 14) hC.1 hC.2.1 dJ0_coder_7d493_10 (by decide) ?_
  exact W.zret (v := 0) hC.1 hC.2.1 hr rfl (fun t ht hW => ⟨⟨0, (lay, X), rfl, ⟨rfl, rfl⟩, by rw [ht]; exact G.1, G.2.1⟩, G.2.2.F ht⟩) G.2.2.2.2 dJ0_coder_7d493_14 hlocks
set_option maxHeartbeats 4000000 in
set_option maxRecDepth 100000 in
/-- length of a text -/
theorem c_slen (l : Launch) (D : va_G) (cy : Nat → ClassId) (lay : Nat → Nat) (X : Nat → Option va_E) {sa w : Nat} (hw : w < 2 ^ 31) (sz : Nat) : Met l yJ0_length_8abf5 wsJ0_length_8abf5 (rmS 1 0 0) (va_Pc [.ref sa] (sI D cy (some (sa, w)) lay X sz)) (va_Qi (fun (r : Int32) (Y : GY) => r = nI w ∧ Y = (lay, X)) (gO D (gA lay X sz)) (gA lay X sz)) 0 0 (gA lay X sz) := by
  refine s_ofW (cc := cJ0_length_8abf5) (maxL := 1) (ret := (some .int)) (own := RJ0) (Qc := fun sz => va_Qi (fun (r : Int32) (Y : GY) => r = nI w ∧ Y = (lay, X)) (gO D (gA lay X sz)) (gA lay X sz)) (by decide) rfl (Nat.le_of_ble_eq_true rfl) rfl ?_
  intro p e0 s m9 args below meth c ls hC hr hlocks hname hT hX G hl
  have hl : lv_has ls 1 [(0, .ref sa)] := hl
  have hA : ∀ q, s.heap.size ≤ q → gA lay X s.heap.size q := fun _ h => Or.inr h
  obtain ⟨x1, x2, ra, g, x3, x4, x5⟩ := hX _ rfl
  refine lv_aload_n hC.1 hC.2.1 dJ0_length_8abf5_0 rfl (lv_at hl 0 rfl) ?_
  refine vk_getf hC.1 hC.2.1 x3 G.2.2 hC.2.2.2.1 (hC.2.2.2.2 _ (wm 1 rfl)) (fun _ h => h) dJ0_length_8abf5_1 ?_
  refine va_tlen hC.1 hC.2.1 x4 G.2.2 rfl dJ0_length_8abf5_4 ?_
  refine lv_aload_n hC.1 hC.2.1 dJ0_length_8abf5_5 rfl (lv_at hl 0 rfl) ?_
  refine g_i G hA (s_runV (As := []) (rest := [.int (nI w)]) (b := sa) hC hT hA G hX (c_coder l D cy lay X (sa := sa) (w := w) _) (cwV 0 hC.2.2.2.2 gJ0_length_8abf5_J0_coder_7d493 rfl rfl rfl hdV_J0_coder_7d493 ⟨Nat.le_of_ble_eq_true rfl, Nat.le_of_ble_eq_true rfl⟩) (t_recv (hX _ rfl) G.2.2) rfl hl.1 rfl (Nat.le_of_ble_eq_true rfl) dJ0_length_8abf5_6 ⟨Nat.le_of_ble_eq_true rfl, Nat.le_of_ble_eq_true rfl⟩) (fun r Y H locs hY G => ?_)
  obtain ⟨rfl, rfl⟩ := hY
  refine lv_ishr hC.1 hC.2.1 dJ0_length_8abf5_9 ?_
  rw [sb_shr0]
  exact W.iret (v := nI w) hC.1 hC.2.1 hr (fun t ht hW => ⟨⟨nI w, (lay, X), rfl, ⟨rfl, rfl⟩, by rw [ht]; exact G.1, G.2.1⟩, G.2.2.F ht⟩) G.2.2.2.2 dJ0_length_8abf5_10 hlocks
set_option maxHeartbeats 4000000 in
set_option maxRecDepth 100000 in
/-- ArraysSupport.newLength: twice and two -/
theorem c_sbNL (l : Launch) (D : va_G) (cy : Nat → ClassId) (lay : Nat → Nat) (X : Nat → Option va_E) {m g : Nat} (hm : m < 100) (hg : g ≤ m + 2) (sz : Nat) : Met l yJ8_newLength_cabcc wsJ8_newLength_cabcc (rmS 1 0 0) (va_Pc [.int (nI m), .int (nI g), .int (nI (m + 2))] (sI D cy none lay X sz)) (va_Qi (fun (r : Int32) (Y : GY) => r = nI (2 * m + 2) ∧ Y = (lay, X)) (gO D (gA lay X sz)) (gA lay X sz)) 0 0 (gA lay X sz) := by
  refine s_ofW (cc := cJ8_newLength_cabcc) (maxL := 4) (ret := (some .int)) (own := RJ8) (Qc := fun sz => va_Qi (fun (r : Int32) (Y : GY) => r = nI (2 * m + 2) ∧ Y = (lay, X)) (gO D (gA lay X sz)) (gA lay X sz)) (by decide) rfl (Nat.le_of_ble_eq_true rfl) rfl ?_
  intro p e0 s m9 args below meth c ls hC hr hlocks hname hT hX G hl
  have hl : lv_has ls 4 [(0, .int (nI m)), (1, .int (nI g)), (2, .int (nI (m + 2)))] := hl
  have hA : ∀ q, s.heap.size ≤ q → gA lay X s.heap.size q := fun _ h => Or.inr h
  refine lv_iload_n hC.1 hC.2.1 dJ8_newLength_cabcc_0 rfl (lv_at hl 0 rfl) ?_
  refine lv_iload_n hC.1 hC.2.1 dJ8_newLength_cabcc_1 rfl (lv_at hl 1 rfl) ?_
  refine lv_iload_n hC.1 hC.2.1 dJ8_newLength_cabcc_2 rfl (lv_at hl 2 rfl) ?_
  refine va_mmax hC.1 hC.2.1 (hC.2.2.1.trans hl.1.symm) hC.2.2.2.1 (hC.2.2.2.2 _ (wm 1 rfl)) (hC.2.2.2.2 _ (wm 2 rfl)) (hC.2.2.2.2 _ (wm 3 rfl)) (hC.2.2.2.2 _ (wm 4 rfl)) (Nat.le_of_ble_eq_true rfl) (Nat.le_of_ble_eq_true rfl) (Nat.le_of_ble_eq_true rfl) (Nat.le_of_ble_eq_true rfl) dJ8_newLength_cabcc_3 ?_
  have e1 : (if nI g < nI (m + 2) then nI (m + 2) else nI g) = nI (m + 2) := by
    by_cases c : nI g < nI (m + 2)
    · rw [if_pos c]
    · rw [if_neg c]
      have : g = m + 2 := by
        rcases Nat.lt_or_ge g (m + 2) with q | q
        · exact absurd (nI_lt q (by omega)) c
        · omega
      rw [this]
  rw [e1]
  refine lv_iadd hC.1 hC.2.1 dJ8_newLength_cabcc_6 ?_
  rw [nI_add, show m + (m + 2) = 2 * m + 2 by omega]
  refine lv_istore_n (lv' := [(3, .int (nI (2 * m + 2))), (0, .int (nI m)), (1, .int (nI g)), (2, .int (nI (m + 2)))]) hC.1 hC.2.1 dJ8_newLength_cabcc_7 rfl hl (by decide) rfl (fun ls hl => ?_)
  refine lv_iconst (v := 0) hC.1 hC.2.1 dJ8_newLength_cabcc_8 (by decide) ?_
  refine lv_iload_n hC.1 hC.2.1 dJ8_newLength_cabcc_9 rfl (lv_at hl 0 rfl) ?_
  refine lv_icmp_ge (tgt := 21) hC.1 hC.2.1 dJ8_newLength_cabcc_10 (by decide) (fun c1 => absurd (show (0 : Int32) < nI (2 * m + 2) from nI_lt (a := 0) (by omega) (by omega)) (Int32.not_lt.mpr c1)) (fun _ => ?_)
  refine lv_iload_n hC.1 hC.2.1 dJ8_newLength_cabcc_13 rfl (lv_at hl 0 rfl) ?_
  refine lv_ldc (v := 2147483639) hC.1 hC.2.1 hC.2.2.2.1 (hC.2.2.2.2 _ (wm 5 rfl)) dJ8_newLength_cabcc_14 ?_
  refine lv_icmp_gt (tgt := 21) hC.1 hC.2.1 dJ8_newLength_cabcc_16 (by decide) (fun c1 => absurd c1 (show ¬ nI 2147483639 < nI (2 * m + 2) from nI_nlt (by omega) (by decide))) (fun _ => ?_)
  refine lv_iload_n hC.1 hC.2.1 dJ8_newLength_cabcc_19 rfl (lv_at hl 0 rfl) ?_
  exact W.iret (v := nI (2 * m + 2)) hC.1 hC.2.1 hr (fun t ht hW => ⟨⟨nI (2 * m + 2), (lay, X), rfl, ⟨rfl, rfl⟩, by rw [ht]; exact G.1, G.2.1⟩, G.2.2.F ht⟩) G.2.2.2.2 dJ8_newLength_cabcc_20 hlocks
set_option maxHeartbeats 4000000 in
set_option maxRecDepth 100000 in
/-- newCapacity -/
theorem c_newCap (l : Launch) (D : va_G) (cy : Nat → ClassId) (lay : Nat → Nat) (X : Nat → Option va_E) {k kb : Nat} (hk : k < 128) (hkb : kb < 128) (hne : kb ≠ k) {m : Nat} {a : Nat → Int32} {n ml : Int32} (h1 : X k = some (sbE (lay kb) n ml)) (h2 : X kb = some (bsE cy m a)) {q : Nat} (hm : m < 100) (hq : m < q) (hq2 : q ≤ 2 * m + 2) (sz : Nat) : Met l yJ5_newCapacity_0f7a4 wsJ5_newCapacity_0f7a4 (rmS 2 0 0) (va_Pc [.ref (lay k), .int (nI q)] (sI D cy none lay X sz)) (va_Qi (fun (r : Int32) (Y : GY) => r = nI (2 * m + 2) ∧ Y = (lay, X)) (gO D (gA lay X sz)) (gA lay X sz)) 0 0 (gA lay X sz) := by
  refine s_ofW (cc := cJ5_newCapacity_0f7a4) (maxL := 6) (ret := (some .int)) (own := RJ5) (Qc := fun sz => va_Qi (fun (r : Int32) (Y : GY) => r = nI (2 * m + 2) ∧ Y = (lay, X)) (gO D (gA lay X sz)) (gA lay X sz)) (by decide) rfl (Nat.le_of_ble_eq_true rfl) rfl ?_
  intro p e0 s m9 args below meth c ls hC hr hlocks hname hT hX G hl
  have hl : lv_has ls 6 [(0, .ref (lay k)), (1, .int (nI q))] := hl
  have hA : ∀ q, s.heap.size ≤ q → gA lay X s.heap.size q := fun _ h => Or.inr h
  refine lv_aload_n hC.1 hC.2.1 dJ5_newCapacity_0f7a4_0 rfl (lv_at hl 0 rfl) ?_
  refine g_get hC hT.1 G hk h1 k_SB (fun _ h => List.mem_cons_of_mem _ (List.mem_append_right _ h)) 0 (by decide) (wm 1 rfl) rfl dJ5_newCapacity_0f7a4_1 ?_
  obtain ⟨q4, hq4⟩ := gW_pos (lay := lay) hkb h2
  refine va_alen hC.1 hC.2.1 hT.1 (gP_list G.1) q4 8 hq4 rfl rfl dJ5_newCapacity_0f7a4_4 ?_
  refine lv_istore_n (lv' := [(2, .int (nI m)), (0, .ref (lay k)), (1, .int (nI q))]) hC.1 hC.2.1 dJ5_newCapacity_0f7a4_5 rfl hl (by decide) rfl (fun ls hl => ?_)
  refine lv_iload_n hC.1 hC.2.1 dJ5_newCapacity_0f7a4_6 rfl (lv_at hl 2 rfl) ?_
  refine lv_aload_n hC.1 hC.2.1 dJ5_newCapacity_0f7a4_7 rfl (lv_at hl 1 rfl) ?_
  refine g_get hC hT.1 G hk h1 k_SB (fun _ h => List.mem_cons_of_mem _ (List.mem_append_right _ h)) 1 (by decide) (wm 2 rfl) rfl dJ5_newCapacity_0f7a4_8 ?_
  refine lv_ishl hC.1 hC.2.1 dJ5_newCapacity_0f7a4_11 ?_
  rw [sb_shl0]
  refine lv_istore_n (lv' := [(3, .int (nI q)), (2, .int (nI m)), (0, .ref (lay k)), (1, .int (nI q))]) hC.1 hC.2.1 dJ5_newCapacity_0f7a4_12 rfl hl (by decide) rfl (fun ls hl => ?_)
  refine lv_iload_n hC.1 hC.2.1 dJ5_newCapacity_0f7a4_13 rfl (lv_at hl 0 rfl) ?_
  refine lv_iload_n hC.1 hC.2.1 dJ5_newCapacity_0f7a4_14 rfl (lv_at hl 1 rfl) ?_
  refine lv_isub hC.1 hC.2.1 dJ5_newCapacity_0f7a4_15 ?_
  rw [show nI q - nI m = nI (q - m) from pk_sub (by omega)]
  refine lv_istore (lv' := [(4, .int (nI (q - m))), (3, .int (nI q)), (2, .int (nI m)), (0, .ref (lay k)), (1, .int (nI q))]) hC.1 hC.2.1 dJ5_newCapacity_0f7a4_16 hl (by decide) rfl (fun ls hl => ?_)
  refine lv_iload_n hC.1 hC.2.1 dJ5_newCapacity_0f7a4_18 rfl (lv_at hl 2 rfl) ?_
  refine lv_iload hC.1 hC.2.1 dJ5_newCapacity_0f7a4_19 (lv_at hl 0 rfl) ?_
  refine lv_iload_n hC.1 hC.2.1 dJ5_newCapacity_0f7a4_21 rfl (lv_at hl 2 rfl) ?_
  refine lv_iconst (v := 2) hC.1 hC.2.1 dJ5_newCapacity_0f7a4_22 (by decide) ?_
  refine lv_aload_n hC.1 hC.2.1 dJ5_newCapacity_0f7a4_23 rfl (lv_at hl 3 rfl) ?_
  refine g_get hC hT.1 G hk h1 k_SB (fun _ h => List.mem_cons_of_mem _ (List.mem_append_right _ h)) 1 (by decide) (wm 2 rfl) rfl dJ5_newCapacity_0f7a4_24 ?_
  refine lv_ishl hC.1 hC.2.1 dJ5_newCapacity_0f7a4_27 ?_
  rw [sb_shl0]
  refine lv_iadd hC.1 hC.2.1 dJ5_newCapacity_0f7a4_28 ?_
  rw [show nI m + 2 = nI (m + 2) from nI_add m 2]
  refine g_i G hA (s_runS (As := [.int (nI m), .int (nI (q - m)), .int (nI (m + 2))]) (rest := []) hC hT hA G (fun _ h => by cases h) (c_sbNL l D cy lay X hm (g := q - m) (by omega) _) (va_cwS 3 hC.2.2.2.2 gJ5_newCapacity_0f7a4_J8_newLength_cabcc rfl rfl rfl hdS_J8_newLength_cabcc ⟨Nat.le_of_ble_eq_true rfl, Nat.le_of_ble_eq_true rfl⟩) rfl hl.1 rfl (Nat.le_of_ble_eq_true rfl) dJ5_newCapacity_0f7a4_29 ⟨Nat.le_of_ble_eq_true rfl, Nat.le_of_ble_eq_true rfl⟩) (fun r Y H locs hY G => ?_)
  obtain ⟨rfl, rfl⟩ := hY
  refine lv_istore (lv' := [(5, .int (nI (2 * m + 2))), (4, .int (nI (q - m))), (3, .int (nI q)), (2, .int (nI m)), (0, .ref (lay k)), (1, .int (nI q))]) hC.1 hC.2.1 dJ5_newCapacity_0f7a4_32 hl (by decide) rfl (fun ls hl => ?_)
  refine lv_iload hC.1 hC.2.1 dJ5_newCapacity_0f7a4_34 (lv_at hl 0 rfl) ?_
  refine lv_ldc (v := 2147483647) hC.1 hC.2.1 hC.2.2.2.1 (hC.2.2.2.2 _ (wm 3 rfl)) dJ5_newCapacity_0f7a4_36 ?_
  refine lv_icmp_ne (tgt := 51) hC.1 hC.2.1 dJ5_newCapacity_0f7a4_38 (by decide) (fun _ => ?_) (fun c1 => absurd ((nI_eq (by omega) (by decide)).mp (show nI (2 * m + 2) = nI 2147483647 from c1)) (by omega))
  refine lv_iload hC.1 hC.2.1 dJ5_newCapacity_0f7a4_51 (lv_at hl 0 rfl) ?_
  refine lv_aload_n hC.1 hC.2.1 dJ5_newCapacity_0f7a4_53 rfl (lv_at hl 4 rfl) ?_
  refine g_get hC hT.1 G hk h1 k_SB (fun _ h => List.mem_cons_of_mem _ (List.mem_append_right _ h)) 1 (by decide) (wm 2 rfl) rfl dJ5_newCapacity_0f7a4_54 ?_
  refine lv_ishr hC.1 hC.2.1 dJ5_newCapacity_0f7a4_57 ?_
  rw [sb_shr0]
  exact W.iret (v := nI (2 * m + 2)) hC.1 hC.2.1 hr (fun t ht hW => ⟨⟨nI (2 * m + 2), (lay, X), rfl, ⟨rfl, rfl⟩, by rw [ht]; exact G.1, G.2.1⟩, G.2.2.F ht⟩) G.2.2.2.2 dJ5_newCapacity_0f7a4_58 hlocks
set_option maxHeartbeats 4000000 in
set_option maxRecDepth 100000 in
/-- Arrays.copyOf: a longer row -/
theorem c_copyOf (l : Launch) (D : va_G) (cy : Nat → ClassId) (lay : Nat → Nat) (X : Nat → Option va_E) {kb kn : Nat} (hkb : kb < 128) (hkn : kn < 128) {m q : Nat} {a : Nat → Int32} (h2 : X kb = some (bsE cy m a)) (h3 : X kn = none) (hf : sb_Fit a) (hm : m < q) (hq : q ≤ 70) (sz : Nat) : Met l yJ7_copyOf_9075b wsJ7_copyOf_9075b (rmS 1 1 70) (va_Pc [.ref (lay kb), .int (nI q)] (sI D cy none lay X sz)) (va_Qr (S := GY) (fun Y => ∃ o a', sb_Fit a' ∧ Y = (gU lay kn o, gU X kn (some (bsE cy q a')))) (fun Y a t => a = Y.1 kn ∧ gO D (gA lay X sz) Y t) (gA lay X sz)) 1 70 (gA lay X sz) := by
  refine s_ofW (cc := cJ7_copyOf_9075b) (maxL := 3) (ret := (some (.array .byte))) (own := RJ7) (Qc := fun sz => va_Qr (S := GY) (fun Y => ∃ o a', sb_Fit a' ∧ Y = (gU lay kn o, gU X kn (some (bsE cy q a')))) (fun Y a t => a = Y.1 kn ∧ gO D (gA lay X sz) Y t) (gA lay X sz)) (by decide) rfl (Nat.le_of_ble_eq_true rfl) rfl ?_
  intro p e0 s m9 args below meth c ls hC hr hlocks hname hT hX G hl
  have hl : lv_has ls 3 [(0, .ref (lay kb)), (1, .int (nI q))] := hl
  have hA : ∀ q, s.heap.size ≤ q → gA lay X s.heap.size q := fun _ h => Or.inr h
  have hne : kb ≠ kn := fun e => by rw [e, h3] at h2; cases h2
  refine lv_iload_n hC.1 hC.2.1 dJ7_copyOf_9075b_0 rfl (lv_at hl 1 rfl) ?_
  refine lv_aload_n hC.1 hC.2.1 dJ7_copyOf_9075b_1 rfl (lv_at hl 0 rfl) ?_
  obtain ⟨q2, hq2⟩ := gW_pos (lay := lay) hkb h2
  refine va_alen hC.1 hC.2.1 hT.1 (gP_list G.1) q2 8 hq2 rfl rfl dJ7_copyOf_9075b_2 ?_
  refine lv_icmp_ne (tgt := 14) hC.1 hC.2.1 dJ7_copyOf_9075b_3 (by decide) (fun _ => ?_) (fun c1 => absurd ((nI_eq (by omega) (by omega)).mp (show nI q = nI m from c1)) (by omega))
  refine lv_iload_n hC.1 hC.2.1 dJ7_copyOf_9075b_14 rfl (lv_at hl 1 rfl) ?_
  refine g_newa_b (k := kn) (N := q) hC hT.1 G hA h3 (wm 7 rfl) (nI_pos (by omega)) (nI_clamp (by omega)) (by show q * 1 ≤ _; omega) (Nat.le_of_ble_eq_true rfl) (by show 0 + q ≤ 70; omega) dJ7_copyOf_9075b_15 (fun o H G => ?_)
  have f1 : gU lay kn o kb = lay kb := gU_ne hne
  have f2 : gU lay kn o kn = o := gU_eq
  have g1 : gU X kn (some (bsE cy q (fun _ => 0))) kb = some (bsE cy m a) := (gU_ne hne).trans h2
  have g2 : gU X kn (some (bsE cy q (fun _ => 0))) kn = some (bsE cy q (fun _ => 0)) := gU_eq
  refine lv_astore_n (lv' := [(2, .ref o), (0, .ref (lay kb)), (1, .int (nI q))]) hC.1 hC.2.1 dJ7_copyOf_9075b_17 rfl hl (by decide) rfl (fun ls hl => ?_)
  refine lv_aload_n hC.1 hC.2.1 dJ7_copyOf_9075b_18 rfl (lv_at hl 1 rfl) ?_
  refine lv_iconst (v := 0) hC.1 hC.2.1 dJ7_copyOf_9075b_19 (by decide) ?_
  refine lv_aload_n hC.1 hC.2.1 dJ7_copyOf_9075b_20 rfl (lv_at hl 0 rfl) ?_
  refine lv_iconst (v := 0) hC.1 hC.2.1 dJ7_copyOf_9075b_21 (by decide) ?_
  refine lv_aload_n hC.1 hC.2.1 dJ7_copyOf_9075b_22 rfl (lv_at hl 1 rfl) ?_
  obtain ⟨q23, hq23⟩ := gW_pos (lay := gU lay kn o) hkb g1
  rw [f1] at hq23
  refine va_alen hC.1 hC.2.1 hT.1 (gP_list G.1) q23 8 hq23 rfl rfl dJ7_copyOf_9075b_23 ?_
  refine lv_iload_n hC.1 hC.2.1 dJ7_copyOf_9075b_24 rfl (lv_at hl 2 rfl) ?_
  refine va_mmin hC.1 hC.2.1 (hC.2.2.1.trans hl.1.symm) hC.2.2.2.1 (hC.2.2.2.2 _ (wm 8 rfl)) (hC.2.2.2.2 _ (wm 9 rfl)) (hC.2.2.2.2 _ (wm 10 rfl)) (hC.2.2.2.2 _ (wm 11 rfl)) (Nat.le_of_ble_eq_true rfl) (Nat.le_of_ble_eq_true rfl) (Nat.le_of_ble_eq_true rfl) (by show 0 + q ≤ 70; omega) dJ7_copyOf_9075b_25 ?_
  rw [show (if nI q < Int32.ofNat m then nI q else Int32.ofNat m) = nI m from if_neg (nI_nlt (by omega) (by omega))]
  refine g_bcopy hC hl.1 hT.1 G (wm 12 rfl) (wm 13 rfl) (wm 14 rfl) (wm 15 rfl) f1 f2 hkb hkn g1 g2 hf (n := m) (by omega) (Nat.le_refl _) (by omega) (Nat.le_of_ble_eq_true rfl) (Nat.le_of_ble_eq_true rfl) dJ7_copyOf_9075b_28 (fun H locs G => ?_)
  rw [gU_gU] at G
  refine lv_aload_n hC.1 hC.2.1 dJ7_copyOf_9075b_31 rfl (lv_at hl 0 rfl) ?_
  refine W.widen (k := 1) (n := 70) (Nat.le_of_ble_eq_true rfl) (by show 0 + q ≤ 70; omega) ?_
  exact W.aret (v := .ref o) hC.1 hC.2.1 hr (Or.inr ⟨_, rfl⟩) (Or.inr ⟨_, rfl⟩) (fun t ht hW => ⟨⟨(gU lay kn o, gU X kn (some (bsE cy q (va_cpy a (fun _ => 0) 0 0 m)))), o, rfl, ⟨o, _, sb_fitC hf sb_fit0, rfl⟩, gU_eq.symm, by rw [ht]; exact G.1, G.2.1⟩, G.2.2.F ht⟩) G.2.2.2.2 dJ7_copyOf_9075b_32 hlocks
set_option maxHeartbeats 4000000 in
set_option maxRecDepth 100000 in
/-- ensureCapacityInternal -/
theorem c_ensure (l : Launch) (D : va_G) (cy : Nat → ClassId) (lay : Nat → Nat) (X : Nat → Option va_E) {k kb kn : Nat} (hk : k < 128) (hkb : kb < 128) (hkn : kn < 128) (hne : kb ≠ k) {m : Nat} {a : Nat → Int32} {n ml : Int32} (h1 : X k = some (sbE (lay kb) n ml)) (h2 : X kb = some (bsE cy m a)) (h3 : X kn = none) (hf : sb_Fit a) (hm : capOk m) {q : Nat} (hq : q ≤ m + 18) (hq2 : q ≤ 70) (sz : Nat) : Met l yJ5_ensureCapacityInternal_d00df wsJ5_ensureCapacityInternal_d00df (rmS 3 1 70) (va_Pc [.ref (lay k), .int (nI q)] (sI D cy none lay X sz)) (va_Qv (fun Y : GY => ∃ o m' a', sb_Fit a' ∧ capOk m' ∧ q ≤ m' ∧ m ≤ m' ∧ Y = (gU lay kb o, sbX cy X k kb o m' a' n ml)) (gO D (gA lay X sz)) (gA lay X sz)) 1 70 (gA lay X sz) := by
  refine s_ofW (cc := cJ5_ensureCapacityInternal_d00df) (maxL := 3) (ret := none) (own := RJ5) (Qc := fun sz => va_Qv (fun Y : GY => ∃ o m' a', sb_Fit a' ∧ capOk m' ∧ q ≤ m' ∧ m ≤ m' ∧ Y = (gU lay kb o, sbX cy X k kb o m' a' n ml)) (gO D (gA lay X sz)) (gA lay X sz)) (by decide) rfl (Nat.le_of_ble_eq_true rfl) rfl ?_
  intro p e0 s m9 args below meth c ls hC hr hlocks hname hT hX G hl
  have hl : lv_has ls 3 [(0, .ref (lay k)), (1, .int (nI q))] := hl
  have hA : ∀ q, s.heap.size ≤ q → gA lay X s.heap.size q := fun _ h => Or.inr h
  have hm100 : m < 100 := by unfold capOk at hm; omega
  have hnk : k ≠ kn := fun e => by rw [e, h3] at h1; cases h1
  have hnb : kb ≠ kn := fun e => by rw [e, h3] at h2; cases h2
  refine lv_aload_n hC.1 hC.2.1 dJ5_ensureCapacityInternal_d00df_0 rfl (lv_at hl 0 rfl) ?_
  refine g_get hC hT.1 G hk h1 k_SB (fun _ h => List.mem_cons_of_mem _ (List.mem_append_right _ h)) 0 (by decide) (wm 1 rfl) rfl dJ5_ensureCapacityInternal_d00df_1 ?_
  obtain ⟨q4, hq4⟩ := gW_pos (lay := lay) hkb h2
  refine va_alen hC.1 hC.2.1 hT.1 (gP_list G.1) q4 8 hq4 rfl rfl dJ5_ensureCapacityInternal_d00df_4 ?_
  refine lv_aload_n hC.1 hC.2.1 dJ5_ensureCapacityInternal_d00df_5 rfl (lv_at hl 0 rfl) ?_
  refine g_get hC hT.1 G hk h1 k_SB (fun _ h => List.mem_cons_of_mem _ (List.mem_append_right _ h)) 1 (by decide) (wm 2 rfl) rfl dJ5_ensureCapacityInternal_d00df_6 ?_
  refine lv_ishr hC.1 hC.2.1 dJ5_ensureCapacityInternal_d00df_9 ?_
  rw [sb_shr0]
  refine lv_istore_n (lv' := [(2, .int (nI m)), (0, .ref (lay k)), (1, .int (nI q))]) hC.1 hC.2.1 dJ5_ensureCapacityInternal_d00df_10 rfl hl (by decide) rfl (fun ls hl => ?_)
  refine lv_iload_n hC.1 hC.2.1 dJ5_ensureCapacityInternal_d00df_11 rfl (lv_at hl 2 rfl) ?_
  refine lv_iload_n hC.1 hC.2.1 dJ5_ensureCapacityInternal_d00df_12 rfl (lv_at hl 0 rfl) ?_
  refine lv_isub hC.1 hC.2.1 dJ5_ensureCapacityInternal_d00df_13 ?_
  have e1 : (nI q - nI m).toInt = (q : Int) - m := pk_sub_toInt (by omega) (by omega)
  refine lv_if_le (tgt := 38) hC.1 hC.2.1 dJ5_ensureCapacityInternal_d00df_14 (by decide) (fun c1 => ?_) (fun c1 => ?_)
  · have hqm : q ≤ m := by
      rw [Int32.le_iff_toInt_le, e1, Int32.toInt_zero] at c1
      omega
    refine W.widen (k := 1) (n := 70) (by decide) (by decide) ?_
    exact g_vret (Y := (lay, X)) hC hr hlocks G ⟨lay kb, m, a, hf, hm, hqm, Nat.le_refl _, by rw [gU_self rfl, sbX_id h1 h2]⟩ dJ5_ensureCapacityInternal_d00df_38
  have hqm : m < q := by
    rw [Int32.le_iff_toInt_le, e1, Int32.toInt_zero] at c1
    omega
  have hc2 : capOk (2 * m + 2) := by unfold capOk at hm ⊢; omega
  have hm70 : 2 * m + 2 ≤ 70 := by unfold capOk at hm; omega
  have hm16 : 16 ≤ m := by unfold capOk at hm; omega
  refine lv_aload_n hC.1 hC.2.1 dJ5_ensureCapacityInternal_d00df_17 rfl (lv_at hl 1 rfl) ?_
  refine lv_aload_n hC.1 hC.2.1 dJ5_ensureCapacityInternal_d00df_18 rfl (lv_at hl 1 rfl) ?_
  refine g_get hC hT.1 G hk h1 k_SB (fun _ h => List.mem_cons_of_mem _ (List.mem_append_right _ h)) 0 (by decide) (wm 1 rfl) rfl dJ5_ensureCapacityInternal_d00df_19 ?_
  refine lv_aload_n hC.1 hC.2.1 dJ5_ensureCapacityInternal_d00df_22 rfl (lv_at hl 1 rfl) ?_
  refine lv_iload_n hC.1 hC.2.1 dJ5_ensureCapacityInternal_d00df_23 rfl (lv_at hl 2 rfl) ?_
  refine g_i G hA (s_runU (As := [.int (nI q)]) (rest := [.ref (lay kb), .ref (lay k)]) hC hT hA G (fun _ h => by cases h) (c_newCap l D cy lay X hk hkb hne h1 h2 hm100 hqm (by unfold capOk at hm; omega) _) (va_cwU 1 hC.2.2.2.2 gJ5_ensureCapacityInternal_d00df_J5_newCapacity_0f7a4_u104J4 rfl rfl rfl rfl hdU_J5_newCapacity_0f7a4 ⟨Nat.le_of_ble_eq_true rfl, Nat.le_of_ble_eq_true rfl⟩) (s_recv hT G hk h1 k_SB) rfl hl.1 rfl (Nat.le_of_ble_eq_true rfl) dJ5_ensureCapacityInternal_d00df_24 ⟨Nat.le_of_ble_eq_true rfl, Nat.le_of_ble_eq_true rfl⟩) (fun r Y H locs hY G => ?_)
  obtain ⟨rfl, rfl⟩ := hY
  refine lv_aload_n hC.1 hC.2.1 dJ5_ensureCapacityInternal_d00df_27 rfl (lv_at hl 1 rfl) ?_
  refine g_get hC hT.1 G hk h1 k_SB (fun _ h => List.mem_cons_of_mem _ (List.mem_append_right _ h)) 1 (by decide) (wm 2 rfl) rfl dJ5_ensureCapacityInternal_d00df_28 ?_
  refine lv_ishl hC.1 hC.2.1 dJ5_ensureCapacityInternal_d00df_31 ?_
  rw [sb_shl0]
  refine k_r (f := fun Y => Y.1 kn) G hA (s_runS (As := [.ref (lay kb), .int (nI (2 * m + 2))]) (rest := [.ref (lay k)]) hC hT hA G (fun _ h => by cases h) (c_copyOf l D cy lay X hkb hkn h2 h3 hf (q := 2 * m + 2) (by omega) hm70 _) (va_cwS 2 hC.2.2.2.2 gJ5_ensureCapacityInternal_d00df_J7_copyOf_9075b rfl rfl rfl hdS_J7_copyOf_9075b ⟨Nat.le_of_ble_eq_true rfl, Nat.le_of_ble_eq_true rfl⟩) rfl hl.1 rfl (Nat.le_of_ble_eq_true rfl) dJ5_ensureCapacityInternal_d00df_32 ⟨Nat.le_of_ble_eq_true rfl, Nat.le_of_ble_eq_true rfl⟩) (fun Y H locs hY G => ?_)
  obtain ⟨o, a', hfa, rfl⟩ := hY
  have G : gG D (gU lay kn o) (gU X kn (some (bsE cy (2 * m + 2) a'))) (gA lay X s.heap.size) s.heap H locs := G
  have e2 : gU lay kn o k = lay k := gU_ne hnk
  have e3 : gU lay kn o kn = o := gU_eq
  show W _ _ _ _ _ _ _ _ _ _ _ _ _ _ _ (F0 _ _ _ (.ref (gU lay kn o kn) :: _))
  rw [e3]
  refine g_putA (a := lay k) e2 hC hT.1 G hk ((gU_ne hnk).trans h1) k_SB (fun _ h => List.mem_cons_of_mem _ (List.mem_append_right _ h)) 0 (by decide) (wm 1 rfl) rfl rfl rfl (by simp) dJ5_ensureCapacityInternal_d00df_35 (fun H locs G => ?_)
  have G : gG D (gU lay kn o) (gU (gU X kn (some (bsE cy (2 * m + 2) a'))) k (some (sbE o n ml))) (gA lay X s.heap.size) s.heap H locs := G
  have G : gG D (gU lay kb o) (sbX cy X k kb o (2 * m + 2) a' n ml) (gA lay X s.heap.size) s.heap H locs := by
    refine gG_move (ke := kb) (kn := kn) (e1 := bsE cy (2 * m + 2) a') hkn ((gU_ne (Ne.symm hnk)).trans gU_eq) ?_ (fun i hi hj => ?_) (sbX_b hne) ?_ (fun i hi hj => ?_) G
    · rw [gU_eq, gU_eq]
    · rw [gU_ne hi, gU_ne hj]
    · rw [sbX_o (Ne.symm hnk) (Ne.symm hnb)]
      exact h3
    · by_cases hik : i = k
      · subst hik
        rw [sbX_k, gU_eq]
      · rw [sbX_o hik hi, gU_ne hik, gU_ne hj]
  exact g_vret (Y := (gU lay kb o, sbX cy X k kb o (2 * m + 2) a' n ml)) hC hr hlocks G ⟨o, 2 * m + 2, a', hfa, hc2, by omega, by omega, rfl⟩ dJ5_ensureCapacityInternal_d00df_38
