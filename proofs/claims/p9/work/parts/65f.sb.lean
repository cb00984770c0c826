/-! TEXTS: walks of StringBuilder, String (65f.sb) -/
set_option maxHeartbeats 4000000 in
set_option maxRecDepth 100000 in
/-- getValue -/
theorem c_getV (l : Launch) (D : va_G) (cy : Nat → ClassId) (lay : Nat → Nat) (X : Nat → Option va_E) {k kb : Nat} (hk : k < 128) {n ml : Int32} (h1 : X k = some (sbE (lay kb) n ml)) (sz : Nat) : Met l yJ5_getValue_6d5f1 wsJ5_getValue_6d5f1 (rmS 0 0 0) (va_Pc [.ref (lay k)] (sI D cy none lay X sz)) (va_Qr (S := GY) (fun Y => Y = (lay, X)) (fun Y a t => a = lay kb ∧ gO D (gA lay X sz) Y t) (gA lay X sz)) 0 0 (gA lay X sz) := by
  refine s_ofW (cc := cJ5_getValue_6d5f1) (maxL := 1) (ret := (some (.array .byte))) (own := RJ5) (Qc := fun sz => va_Qr (S := GY) (fun Y => Y = (lay, X)) (fun Y a t => a = lay kb ∧ gO D (gA lay X sz) Y t) (gA lay X sz)) (by decide) rfl (Nat.le_of_ble_eq_true rfl) rfl ?_
  intro p e0 s m9 args below meth c ls hC hr hlocks hname hT hX G hl
  have hl : lv_has ls 1 [(0, .ref (lay k))] := hl
  have hA : ∀ q, s.heap.size ≤ q → gA lay X s.heap.size q := fun _ h => Or.inr h
  refine lv_aload_n hC.1 hC.2.1 dJ5_getValue_6d5f1_0 rfl (lv_at hl 0 rfl) ?_
  refine g_get hC hT.1 G hk h1 k_SB (fun _ h => List.mem_cons_of_mem _ (List.mem_append_right _ h)) 0 (by decide) (wm 1 rfl) rfl dJ5_getValue_6d5f1_1 ?_
  exact W.aret (v := .ref (lay kb)) hC.1 hC.2.1 hr (Or.inr ⟨_, rfl⟩) (Or.inr ⟨_, rfl⟩) (fun t ht hW => ⟨⟨(lay, X), lay kb, rfl, rfl, rfl, by rw [ht]; exact G.1, G.2.1⟩, G.2.2.F ht⟩) G.2.2.2.2 dJ5_getValue_6d5f1_4 hlocks
set_option maxHeartbeats 4000000 in
set_option maxRecDepth 100000 in
/-- length -/
theorem c_len5 (l : Launch) (D : va_G) (cy : Nat → ClassId) (lay : Nat → Nat) (X : Nat → Option va_E) {k : Nat} (hk : k < 128) {o : Nat} {n ml : Int32} (h1 : X k = some (sbE o n ml)) (sz : Nat) : Met l yJ5_length_8abf5 wsJ5_length_8abf5 (rmS 0 0 0) (va_Pc [.ref (lay k)] (sI D cy none lay X sz)) (va_Qi (fun (r : Int32) (Y : GY) => r = n ∧ Y = (lay, X)) (gO D (gA lay X sz)) (gA lay X sz)) 0 0 (gA lay X sz) := by
  refine s_ofW (cc := cJ5_length_8abf5) (maxL := 1) (ret := (some .int)) (own := RJ5) (Qc := fun sz => va_Qi (fun (r : Int32) (Y : GY) => r = n ∧ Y = (lay, X)) (gO D (gA lay X sz)) (gA lay X sz)) (by decide) rfl (Nat.le_of_ble_eq_true rfl) rfl ?_
  intro p e0 s m9 args below meth c ls hC hr hlocks hname hT hX G hl
  have hl : lv_has ls 1 [(0, .ref (lay k))] := hl
  have hA : ∀ q, s.heap.size ≤ q → gA lay X s.heap.size q := fun _ h => Or.inr h
  refine lv_aload_n hC.1 hC.2.1 dJ5_length_8abf5_0 rfl (lv_at hl 0 rfl) ?_
  refine g_get hC hT.1 G hk h1 k_SB (fun _ h => List.mem_cons_of_mem _ (List.mem_append_right _ h)) 3 (by decide) (wm 1 rfl) rfl dJ5_length_8abf5_1 ?_
  exact W.iret (v := n) hC.1 hC.2.1 hr (fun t ht hW => ⟨⟨n, (lay, X), rfl, ⟨rfl, rfl⟩, by rw [ht]; exact G.1, G.2.1⟩, G.2.2.F ht⟩) G.2.2.2.2 dJ5_length_8abf5_4 hlocks
set_option maxHeartbeats 4000000 in
set_option maxRecDepth 100000 in
/-- StringBuilder.length -/
theorem c_len (l : Launch) (D : va_G) (cy : Nat → ClassId) (lay : Nat → Nat) (X : Nat → Option va_E) {k : Nat} (hk : k < 128) {o : Nat} {n ml : Int32} (h1 : X k = some (sbE o n ml)) (sz : Nat) : Met l yJ4_length_8abf5 wsJ4_length_8abf5 (rmS 1 0 0) (va_Pc [.ref (lay k)] (sI D cy none lay X sz)) (va_Qi (fun (r : Int32) (Y : GY) => r = n ∧ Y = (lay, X)) (gO D (gA lay X sz)) (gA lay X sz)) 0 0 (gA lay X sz) := by
  refine s_ofW (cc := cJ4_length_8abf5) (maxL := 1) (ret := (some .int)) (own := RJ4) (Qc := fun sz => va_Qi (fun (r : Int32) (Y : GY) => r = n ∧ Y = (lay, X)) (gO D (gA lay X sz)) (gA lay X sz)) (by decide) rfl (Nat.le_of_ble_eq_true rfl) rfl ?_
  intro p e0 s m9 args below meth c ls hC hr hlocks hname hT hX G hl
  have hl : lv_has ls 1 [(0, .ref (lay k))] := hl
  have hA : ∀ q, s.heap.size ≤ q → gA lay X s.heap.size q := fun _ h => Or.inr h
  refine lv_aload_n hC.1 hC.2.1 dJ4_length_8abf5_0 rfl (lv_at hl 0 rfl) ?_
  refine g_i G hA (s_runSU (As := []) (rest := []) hC hT hA G (fun _ h => by cases h) (c_len5 l D cy lay X hk h1 _) (va_cwSU 0 hC.2.2.2.2 gJ4_length_8abf5_J5_length_8abf5_s343 rfl rfl rfl hdX_J5_length_8abf5 ⟨Nat.le_of_ble_eq_true rfl, Nat.le_of_ble_eq_true rfl⟩) (s_recv hT G hk h1 k_SB) rfl hl.1 rfl (Nat.le_of_ble_eq_true rfl) dJ4_length_8abf5_1 ⟨Nat.le_of_ble_eq_true rfl, Nat.le_of_ble_eq_true rfl⟩) (fun r Y H locs hY G => ?_)
  obtain ⟨rfl, rfl⟩ := hY
  exact W.iret (v := r) hC.1 hC.2.1 hr (fun t ht hW => ⟨⟨r, (lay, X), rfl, ⟨rfl, rfl⟩, by rw [ht]; exact G.1, G.2.1⟩, G.2.2.F ht⟩) G.2.2.2.2 dJ4_length_8abf5_4 hlocks
set_option maxHeartbeats 4000000 in
set_option maxRecDepth 100000 in
/-- checkLength -/
theorem c_chkL (l : Launch) (D : va_G) (cy : Nat → ClassId) (lay : Nat → Nat) (X : Nat → Option va_E) {n : Nat} (hn : n < 2 ^ 31) (sz : Nat) : Met l yJ7_checkLength_df160 wsJ7_checkLength_df160 (rmS 0 0 0) (va_Pc [.int 0, .int (nI n)] (sI D cy none lay X sz)) (va_Qv (fun Y : GY => Y = (lay, X)) (gO D (gA lay X sz)) (gA lay X sz)) 0 0 (gA lay X sz) := by
  refine s_ofW (cc := cJ7_checkLength_df160) (maxL := 2) (ret := none) (own := RJ7) (Qc := fun sz => va_Qv (fun Y : GY => Y = (lay, X)) (gO D (gA lay X sz)) (gA lay X sz)) (by decide) rfl (Nat.le_of_ble_eq_true rfl) rfl ?_
  intro p e0 s m9 args below meth c ls hC hr hlocks hname hT hX G hl
  have hl : lv_has ls 2 [(0, .int 0), (1, .int (nI n))] := hl
  have hA : ∀ q, s.heap.size ≤ q → gA lay X s.heap.size q := fun _ h => Or.inr h
  refine lv_iload_n hC.1 hC.2.1 dJ7_checkLength_df160_0 rfl (lv_at hl 1 rfl) ?_
  refine lv_iload_n hC.1 hC.2.1 dJ7_checkLength_df160_1 rfl (lv_at hl 0 rfl) ?_
  refine lv_icmp_ge (tgt := 37) hC.1 hC.2.1 dJ7_checkLength_df160_2 (by decide) (fun _ => ?_) (fun c1 => absurd (show (0 : Int32) ≤ nI n from nI_le (a := 0) (by omega) hn) c1)
  exact g_vret (Y := (lay, X)) hC hr hlocks G rfl dJ7_checkLength_df160_37
set_option maxHeartbeats 4000000 in
set_option maxRecDepth 100000 in
/-- copyOfRangeByte, from the start -/
theorem c_cprB (l : Launch) (D : va_G) (cy : Nat → ClassId) (lay : Nat → Nat) (X : Nat → Option va_E) {kb kn : Nat} (hkb : kb < 128) (hkn : kn < 128) {m n : Nat} {a : Nat → Int32} (h2 : X kb = some (bsE cy m a)) (h3 : X kn = none) (hf : sb_Fit a) (hm : m ≤ 70) (hnm : n ≤ m) (sz : Nat) : Met l yJ7_copyOfRangeByte_39247 wsJ7_copyOfRangeByte_39247 (rmS 1 1 70) (va_Pc [.ref (lay kb), .int 0, .int (nI n)] (sI D cy none lay X sz)) (va_Qr (S := GY) (fun Y => ∃ o a', sb_Fit a' ∧ Y = (gU lay kn o, gU X kn (some (bsE cy n a')))) (fun Y a t => a = Y.1 kn ∧ gO D (gA lay X sz) Y t) (gA lay X sz)) 1 70 (gA lay X sz) := by
  refine s_ofW (cc := cJ7_copyOfRangeByte_39247) (maxL := 5) (ret := (some (.array .byte))) (own := RJ7) (Qc := fun sz => va_Qr (S := GY) (fun Y => ∃ o a', sb_Fit a' ∧ Y = (gU lay kn o, gU X kn (some (bsE cy n a')))) (fun Y a t => a = Y.1 kn ∧ gO D (gA lay X sz) Y t) (gA lay X sz)) (by decide) rfl (Nat.le_of_ble_eq_true rfl) rfl ?_
  intro p e0 s m9 args below meth c ls hC hr hlocks hname hT hX G hl
  have hl : lv_has ls 5 [(0, .ref (lay kb)), (1, .int 0), (2, .int (nI n))] := hl
  have hA : ∀ q, s.heap.size ≤ q → gA lay X s.heap.size q := fun _ h => Or.inr h
  have hne : kb ≠ kn := fun e => by rw [e, h3] at h2; cases h2
  refine lv_iload_n hC.1 hC.2.1 dJ7_copyOfRangeByte_39247_0 rfl (lv_at hl 1 rfl) ?_
  refine lv_iload_n hC.1 hC.2.1 dJ7_copyOfRangeByte_39247_1 rfl (lv_at hl 2 rfl) ?_
  refine g_v G hA (s_runS (As := [.int 0, .int (nI n)]) (rest := []) hC hT hA G (fun _ h => by cases h) (c_chkL l D cy lay X (n := n) (by omega) _) (va_cwS 2 hC.2.2.2.2 gJ7_copyOfRangeByte_39247_J7_checkLength_df160 rfl rfl rfl hdS_J7_checkLength_df160 ⟨Nat.le_of_ble_eq_true rfl, Nat.le_of_ble_eq_true rfl⟩) rfl hl.1 rfl (Nat.le_of_ble_eq_true rfl) dJ7_copyOfRangeByte_39247_2 ⟨Nat.le_of_ble_eq_true rfl, Nat.le_of_ble_eq_true rfl⟩) (fun Y H locs hY G => ?_)
  subst hY
  refine lv_iload_n hC.1 hC.2.1 dJ7_copyOfRangeByte_39247_5 rfl (lv_at hl 2 rfl) ?_
  refine lv_iload_n hC.1 hC.2.1 dJ7_copyOfRangeByte_39247_6 rfl (lv_at hl 1 rfl) ?_
  refine lv_isub hC.1 hC.2.1 dJ7_copyOfRangeByte_39247_7 ?_
  rw [show nI n - 0 = nI n from by grind]
  refine lv_istore_n (lv' := [(3, .int (nI n)), (0, .ref (lay kb)), (1, .int 0), (2, .int (nI n))]) hC.1 hC.2.1 dJ7_copyOfRangeByte_39247_8 rfl hl (by decide) rfl (fun ls hl => ?_)
  refine lv_iload_n hC.1 hC.2.1 dJ7_copyOfRangeByte_39247_9 rfl (lv_at hl 0 rfl) ?_
  refine g_newa_b (k := kn) (N := n) hC hT.1 G hA h3 (wm 1 rfl) (nI_pos (by omega)) (nI_clamp (by omega)) (by show n * 1 ≤ _; omega) (Nat.le_of_ble_eq_true rfl) (by show 0 + n ≤ 70; omega) dJ7_copyOfRangeByte_39247_10 (fun o H G => ?_)
  have f1 : gU lay kn o kb = lay kb := gU_ne hne
  have f2 : gU lay kn o kn = o := gU_eq
  have g1 : gU X kn (some (bsE cy n (fun _ => 0))) kb = some (bsE cy m a) := (gU_ne hne).trans h2
  have g2 : gU X kn (some (bsE cy n (fun _ => 0))) kn = some (bsE cy n (fun _ => 0)) := gU_eq
  refine lv_astore (lv' := [(4, .ref o), (3, .int (nI n)), (0, .ref (lay kb)), (1, .int 0), (2, .int (nI n))]) hC.1 hC.2.1 dJ7_copyOfRangeByte_39247_12 hl (by decide) rfl (fun ls hl => ?_)
  refine lv_aload_n hC.1 hC.2.1 dJ7_copyOfRangeByte_39247_14 rfl (lv_at hl 2 rfl) ?_
  refine lv_iload_n hC.1 hC.2.1 dJ7_copyOfRangeByte_39247_15 rfl (lv_at hl 3 rfl) ?_
  refine lv_aload hC.1 hC.2.1 dJ7_copyOfRangeByte_39247_16 (lv_at hl 0 rfl) ?_
  refine lv_iconst (v := 0) hC.1 hC.2.1 dJ7_copyOfRangeByte_39247_18 (by decide) ?_
  refine lv_aload_n hC.1 hC.2.1 dJ7_copyOfRangeByte_39247_19 rfl (lv_at hl 2 rfl) ?_
  obtain ⟨q20, hq20⟩ := gW_pos (lay := gU lay kn o) hkb g1
  rw [f1] at hq20
  refine va_alen hC.1 hC.2.1 hT.1 (gP_list G.1) q20 8 hq20 rfl rfl dJ7_copyOfRangeByte_39247_20 ?_
  refine lv_iload_n hC.1 hC.2.1 dJ7_copyOfRangeByte_39247_21 rfl (lv_at hl 3 rfl) ?_
  refine lv_isub hC.1 hC.2.1 dJ7_copyOfRangeByte_39247_22 ?_
  rw [show Int32.ofNat m - 0 = nI m from by show nI m - 0 = nI m; grind]
  refine lv_iload_n hC.1 hC.2.1 dJ7_copyOfRangeByte_39247_23 rfl (lv_at hl 1 rfl) ?_
  refine va_mmin hC.1 hC.2.1 (hC.2.2.1.trans hl.1.symm) hC.2.2.2.1 (hC.2.2.2.2 _ (wm 2 rfl)) (hC.2.2.2.2 _ (wm 3 rfl)) (hC.2.2.2.2 _ (wm 4 rfl)) (hC.2.2.2.2 _ (wm 5 rfl)) (Nat.le_of_ble_eq_true rfl) (Nat.le_of_ble_eq_true rfl) (Nat.le_of_ble_eq_true rfl) (by show 0 + n ≤ 70; omega) dJ7_copyOfRangeByte_39247_24 ?_
  have em : (if nI n < nI m then nI n else nI m) = nI n := by
    rcases Nat.lt_or_ge n m with q | q
    · rw [if_pos (nI_lt q (by omega))]
    · rw [show m = n by omega]
      split <;> rfl
  rw [em]
  refine g_bcopy hC hl.1 hT.1 G (wm 6 rfl) (wm 7 rfl) (wm 8 rfl) (wm 9 rfl) f1 f2 hkb hkn g1 g2 hf (n := n) (by omega) hnm (Nat.le_refl _) (Nat.le_of_ble_eq_true rfl) (Nat.le_of_ble_eq_true rfl) dJ7_copyOfRangeByte_39247_27 (fun H locs G => ?_)
  rw [gU_gU] at G
  refine lv_aload hC.1 hC.2.1 dJ7_copyOfRangeByte_39247_30 (lv_at hl 0 rfl) ?_
  refine W.widen (k := 1) (n := 70) (Nat.le_of_ble_eq_true rfl) (by show 0 + n ≤ 70; omega) ?_
  exact W.aret (v := .ref o) hC.1 hC.2.1 hr (Or.inr ⟨_, rfl⟩) (Or.inr ⟨_, rfl⟩) (fun t ht hW => ⟨⟨(gU lay kn o, gU X kn (some (bsE cy n (va_cpy a (fun _ => 0) 0 0 n)))), o, rfl, ⟨o, _, sb_fitC hf sb_fit0, rfl⟩, gU_eq.symm, by rw [ht]; exact G.1, G.2.1⟩, G.2.2.F ht⟩) G.2.2.2.2 dJ7_copyOfRangeByte_39247_32 hlocks
set_option maxHeartbeats 4000000 in
set_option maxRecDepth 100000 in
/-- Arrays.copyOfRange, from the start -/
theorem c_cpr (l : Launch) (D : va_G) (cy : Nat → ClassId) (lay : Nat → Nat) (X : Nat → Option va_E) {kb kn : Nat} (hkb : kb < 128) (hkn : kn < 128) {m n : Nat} {a : Nat → Int32} (h2 : X kb = some (bsE cy m a)) (h3 : X kn = none) (hf : sb_Fit a) (hm : m ≤ 70) (hnm : n ≤ m) (sz : Nat) : Met l yJ7_copyOfRange_39247 wsJ7_copyOfRange_39247 (rmS 2 1 70) (va_Pc [.ref (lay kb), .int 0, .int (nI n)] (sI D cy none lay X sz)) (va_Qr (S := GY) (fun Y => ∃ o a', sb_Fit a' ∧ Y = (gU lay kn o, gU X kn (some (bsE cy n a')))) (fun Y a t => a = Y.1 kn ∧ gO D (gA lay X sz) Y t) (gA lay X sz)) 1 70 (gA lay X sz) := by
  refine s_ofW (cc := cJ7_copyOfRange_39247) (maxL := 3) (ret := (some (.array .byte))) (own := RJ7) (Qc := fun sz => va_Qr (S := GY) (fun Y => ∃ o a', sb_Fit a' ∧ Y = (gU lay kn o, gU X kn (some (bsE cy n a')))) (fun Y a t => a = Y.1 kn ∧ gO D (gA lay X sz) Y t) (gA lay X sz)) (by decide) rfl (Nat.le_of_ble_eq_true rfl) rfl ?_
  intro p e0 s m9 args below meth c ls hC hr hlocks hname hT hX G hl
  have hl : lv_has ls 3 [(0, .ref (lay kb)), (1, .int 0), (2, .int (nI n))] := hl
  have hA : ∀ q, s.heap.size ≤ q → gA lay X s.heap.size q := fun _ h => Or.inr h
  refine lv_iload_n hC.1 hC.2.1 dJ7_copyOfRange_39247_0 rfl (lv_at hl 1 rfl) ?_
  refine lv_if_ne (tgt := 10) hC.1 hC.2.1 dJ7_copyOfRange_39247_1 (by decide) (fun c1 => absurd rfl c1) (fun _ => ?_)
  refine lv_iload_n hC.1 hC.2.1 dJ7_copyOfRange_39247_4 rfl (lv_at hl 2 rfl) ?_
  refine lv_aload_n hC.1 hC.2.1 dJ7_copyOfRange_39247_5 rfl (lv_at hl 0 rfl) ?_
  obtain ⟨q6, hq6⟩ := gW_pos (lay := lay) hkb h2
  refine va_alen hC.1 hC.2.1 hT.1 (gP_list G.1) q6 8 hq6 rfl rfl dJ7_copyOfRange_39247_6 ?_
  refine lv_icmp_eq (tgt := 17) hC.1 hC.2.1 dJ7_copyOfRange_39247_7 (by decide) (fun c1 => ?_) (fun _ => ?_)
  · obtain rfl : n = m := (nI_eq (by omega) (by omega)).mp (show nI n = nI m from c1)
    refine lv_aload_n hC.1 hC.2.1 dJ7_copyOfRange_39247_17 rfl (lv_at hl 0 rfl) ?_
    have hnm8 : s.vm.findClass "[B" = some (cy 8) := va_nm_byte (hT.1.2 8 (cy 8, .byte) rfl).2
    refine va_clone (ad := "[B") hC.1 hC.2.1 (hC.2.2.1.trans hl.1.symm) hC.2.2.2.1 (hC.2.2.2.2 _ (wm 1 rfl)) (hC.2.2.2.2 _ (wm 2 rfl)) (hC.2.2.2.2 _ (wm 3 rfl)) (hC.2.2.2.2 _ (wm 4 rfl)) (hC.2.2.2.2 _ (wm 5 rfl)) hT.2.1 hT.1 (gP_list G.1) (gI_list G.2.1) G.2.2 hA q6 8 hq6 rfl hnm8 (fun i v hi => t_cellF hf hi) (Nat.le_of_ble_eq_true rfl) (Nat.le_of_ble_eq_true rfl) (Nat.le_of_ble_eq_true rfl) (by show 0 + n ≤ 70; omega) dJ7_copyOfRange_39247_18 (fun o H _ hP hD hS => ?_)
    have G : gG D (gU lay kn o) (gU X kn (some (bsE cy n a))) (gA lay X s.heap.size) s.heap H [] := ⟨gP_new h3 hP, gI_new G.2.1 h3 hD, hS⟩
    obtain ⟨q21, hq21⟩ := gW_pos (lay := gU lay kn o) hkn (show gU X kn (some (bsE cy n a)) kn = some (bsE cy n a) from gU_eq)
    rw [show gU lay kn o kn = o from gU_eq] at hq21
    refine va_castA hC.1 hC.2.1 hC.2.2.2.1 (hC.2.2.2.2 _ (wm 6 rfl)) (gP_list G.1) q21 hq21 hnm8 dJ7_copyOfRange_39247_21 ?_
    refine W.widen (k := 1) (n := 70) (Nat.le_of_ble_eq_true rfl) (by show 0 + n ≤ 70; omega) ?_
    exact W.aret (v := .ref o) hC.1 hC.2.1 hr (Or.inr ⟨_, rfl⟩) (Or.inr ⟨_, rfl⟩) (fun t ht hW => ⟨⟨(gU lay kn o, gU X kn (some (bsE cy n a))), o, rfl, ⟨o, a, hf, rfl⟩, gU_eq.symm, by rw [ht]; exact G.1, G.2.1⟩, G.2.2.F ht⟩) G.2.2.2.2 dJ7_copyOfRange_39247_24 hlocks
  refine lv_aload_n hC.1 hC.2.1 dJ7_copyOfRange_39247_10 rfl (lv_at hl 0 rfl) ?_
  refine lv_iload_n hC.1 hC.2.1 dJ7_copyOfRange_39247_11 rfl (lv_at hl 1 rfl) ?_
  refine lv_iload_n hC.1 hC.2.1 dJ7_copyOfRange_39247_12 rfl (lv_at hl 2 rfl) ?_
  refine k_r (f := fun Y => Y.1 kn) G hA (s_runS (As := [.ref (lay kb), .int 0, .int (nI n)]) (rest := []) hC hT hA G (fun _ h => by cases h) (c_cprB l D cy lay X hkb hkn h2 h3 hf hm hnm _) (va_cwS 3 hC.2.2.2.2 gJ7_copyOfRange_39247_J7_copyOfRangeByte_39247 rfl rfl rfl hdS_J7_copyOfRangeByte_39247 ⟨Nat.le_of_ble_eq_true rfl, Nat.le_of_ble_eq_true rfl⟩) rfl hl.1 rfl (Nat.le_of_ble_eq_true rfl) dJ7_copyOfRange_39247_13 ⟨Nat.le_of_ble_eq_true rfl, Nat.le_of_ble_eq_true rfl⟩) (fun Y H locs hY G => ?_)
  exact W.aret (v := .ref (Y.1 kn)) hC.1 hC.2.1 hr (Or.inr ⟨_, rfl⟩) (Or.inr ⟨_, rfl⟩) (fun t ht hW => ⟨⟨Y, Y.1 kn, rfl, hY, rfl, by rw [ht]; exact G.1, G.2.1⟩, G.2.2.F ht⟩) G.2.2.2.2 dJ7_copyOfRange_39247_16 hlocks
set_option maxHeartbeats 4000000 in
set_option maxRecDepth 100000 in
/-- new String of a StringBuilder: its bytes -/
theorem c_S0iV (l : Launch) (D : va_G) (cy : Nat → ClassId) (lay : Nat → Nat) (X : Nat → Option va_E) {ks kr k kb : Nat} (hks : ks < 128) (hkr : kr < 128) (hk : k < 128) (hkb : kb < 128) (hne1 : ks ≠ k) (hne2 : ks ≠ kb) (hne3 : ks ≠ kr) {n m : Nat} {a : Nat → Int32} {ml : Int32} (h1 : X k = some (sbE (lay kb) (nI n) ml)) (h2 : X kb = some (bsE cy m a)) (h3 : X kr = none) (hf : sb_Fit a) (hm : capOk m) (hnm : n ≤ m) (h4 : X ks = some (.inr (0, [.null, .int 0, .int 0, .int 0]))) (sz : Nat) : Met l yJ0_init_db425 wsJ0_init_db425 (rmS 3 1 70) (va_Pc [.ref (lay ks), .ref (lay k), .null] (sI D cy none lay X sz)) (va_Qv (fun Y : GY => ∃ o a', sb_Fit a' ∧ Y = (gU lay kr o, gU (gU X kr (some (bsE cy n a'))) ks (some (.inr (0, [.ref o, .int 0, .int 0, .int 0]))))) (gO D (gA lay X sz)) (gA lay X sz)) 1 70 (gA lay X sz) := by
  refine s_ofW (cc := cJ0_init_db425) (maxL := 5) (ret := none) (own := RJ0) (Qc := fun sz => va_Qv (fun Y : GY => ∃ o a', sb_Fit a' ∧ Y = (gU lay kr o, gU (gU X kr (some (bsE cy n a'))) ks (some (.inr (0, [.ref o, .int 0, .int 0, .int 0]))))) (gO D (gA lay X sz)) (gA lay X sz)) (by decide) rfl (Nat.le_of_ble_eq_true rfl) rfl ?_
  intro p e0 s m9 args below meth c ls hC hr hlocks hname hT hX G hl
  have hl : lv_has ls 5 [(0, .ref (lay ks)), (1, .ref (lay k)), (2, .null)] := hl
  have hA : ∀ q, s.heap.size ≤ q → gA lay X s.heap.size q := fun _ h => Or.inr h
  have hm70 : m ≤ 70 := by unfold capOk at hm; omega
  have hkk : k ≠ kr := fun e => by rw [e, h3] at h1; cases h1
  refine lv_aload_n hC.1 hC.2.1 dJ0_init_db425_0 rfl (lv_at hl 0 rfl) ?_
  refine W.objInit hC.1 hC.2.1 hC.2.2.2.1 (hC.2.2.2.2 _ (wm 1 rfl)) (hC.2.2.2.2 _ (wm 2 rfl)) (hC.2.2.2.2 _ (wm 3 rfl)) rfl (by rw [hC.2.2.1]; exact hl.1) rfl dJ0_init_db425_1 (Nat.le_of_ble_eq_true rfl) (Nat.le_of_ble_eq_true rfl) ?_
  show W _ _ _ _ _ _ _ _ _ _ _ _ _ _ _ (F0 m9 4 ls [])
  refine lv_aload_n hC.1 hC.2.1 dJ0_init_db425_4 rfl (lv_at hl 1 rfl) ?_
  refine k_r (f := fun _ => lay kb) G hA (s_runU (As := []) (rest := []) hC hT hA G (fun _ h => by cases h) (c_getV l D cy lay X hk h1 _) (va_cwU 0 hC.2.2.2.2 gJ0_init_db425_J5_getValue_6d5f1_u552J4 rfl rfl rfl rfl hdU_J5_getValue_6d5f1 ⟨Nat.le_of_ble_eq_true rfl, Nat.le_of_ble_eq_true rfl⟩) (s_recv hT G hk h1 k_SB) rfl hl.1 rfl (Nat.le_of_ble_eq_true rfl) dJ0_init_db425_5 ⟨Nat.le_of_ble_eq_true rfl, Nat.le_of_ble_eq_true rfl⟩) (fun Y H locs hY G => ?_)
  subst hY
  refine lv_astore_n (lv' := [(3, .ref (lay kb)), (0, .ref (lay ks)), (1, .ref (lay k)), (2, .null)]) hC.1 hC.2.1 dJ0_init_db425_8 rfl hl (by decide) rfl (fun ls hl => ?_)
  refine lv_aload_n hC.1 hC.2.1 dJ0_init_db425_9 rfl (lv_at hl 2 rfl) ?_
  refine g_i G hA (s_runU (As := []) (rest := []) hC hT hA G (fun _ h => by cases h) (c_len l D cy lay X hk h1 _) (va_cwO 0 hC.2.2.2.2 gJ0_init_db425_J4_length_8abf5_u549J4 rfl rfl rfl (wm 25 rfl) hdU_J4_length_8abf5 ⟨Nat.le_of_ble_eq_true rfl, Nat.le_of_ble_eq_true rfl⟩) (s_recv hT G hk h1 k_SB) rfl hl.1 rfl (Nat.le_of_ble_eq_true rfl) dJ0_init_db425_10 ⟨Nat.le_of_ble_eq_true rfl, Nat.le_of_ble_eq_true rfl⟩) (fun r Y H locs hY G => ?_)
  obtain ⟨rfl, rfl⟩ := hY
  refine lv_istore (lv' := [(4, .int (nI n)), (3, .ref (lay kb)), (0, .ref (lay ks)), (1, .ref (lay k)), (2, .null)]) hC.1 hC.2.1 dJ0_init_db425_13 hl (by decide) rfl (fun ls hl => ?_)
  refine lv_aload_n hC.1 hC.2.1 dJ0_init_db425_15 rfl (lv_at hl 3 rfl) ?_
  refine g_i G hA (s_runU (As := []) (rest := []) hC hT hA G (fun _ h => by cases h) (c_isL l D cy lay X hk h1 _) (va_cwU 0 hC.2.2.2.2 gJ0_init_db425_J5_isLatin1_aae02_u1047J4 rfl rfl rfl rfl hdU_J5_isLatin1_aae02 ⟨Nat.le_of_ble_eq_true rfl, Nat.le_of_ble_eq_true rfl⟩) (s_recv hT G hk h1 k_SB) rfl hl.1 rfl (Nat.le_of_ble_eq_true rfl) dJ0_init_db425_16 ⟨Nat.le_of_ble_eq_true rfl, Nat.le_of_ble_eq_true rfl⟩) (fun r Y H locs hY G => ?_)
  obtain ⟨rfl, rfl⟩ := hY
  refine lv_if_eq (tgt := 41) hC.1 hC.2.1 dJ0_init_db425_19 (by decide) (fun c1 => absurd c1 (by decide)) (fun _ => ?_)
  refine lv_aload_n hC.1 hC.2.1 dJ0_init_db425_22 rfl (lv_at hl 2 rfl) ?_
  refine lv_iconst (v := 0) hC.1 hC.2.1 dJ0_init_db425_23 (by decide) ?_
  refine g_putF hC hT.1 G hks h4 k_S0 (fun _ h => List.mem_cons_of_mem _ (List.mem_append_left _ (List.mem_append_right _ h))) 1 (by decide) (wm 4 rfl) rfl (hname.trans rfl) rfl rfl rfl (by simp) dJ0_init_db425_24 (fun H locs G => ?_)
  have G : gG D lay (gU X ks (some (.inr (0, ([.null, .int 0, .int 0, .int 0] : List Value).set 1 (.int 0))))) (gA lay X s.heap.size) s.heap H locs := G
  have e9 : gU X ks (some (.inr (0, ([.null, .int 0, .int 0, .int 0] : List Value).set 1 (.int 0)))) = X := gU_self h4
  rw [e9] at G
  refine lv_aload_n hC.1 hC.2.1 dJ0_init_db425_27 rfl (lv_at hl 2 rfl) ?_
  refine lv_aload_n hC.1 hC.2.1 dJ0_init_db425_28 rfl (lv_at hl 1 rfl) ?_
  refine lv_iconst (v := 0) hC.1 hC.2.1 dJ0_init_db425_29 (by decide) ?_
  refine lv_iload hC.1 hC.2.1 dJ0_init_db425_30 (lv_at hl 0 rfl) ?_
  refine k_r (f := fun Y => Y.1 kr) G hA (s_runS (As := [.ref (lay kb), .int 0, .int (nI n)]) (rest := [.ref (lay ks)]) hC hT hA G (fun _ h => by cases h) (c_cpr l D cy lay X hkb hkr h2 h3 hf hm70 hnm _) (va_cwS 3 hC.2.2.2.2 gJ0_init_db425_J7_copyOfRange_39247 rfl rfl rfl hdS_J7_copyOfRange_39247 ⟨Nat.le_of_ble_eq_true rfl, Nat.le_of_ble_eq_true rfl⟩) rfl hl.1 rfl (Nat.le_of_ble_eq_true rfl) dJ0_init_db425_32 ⟨Nat.le_of_ble_eq_true rfl, Nat.le_of_ble_eq_true rfl⟩) (fun Y H locs hY G => ?_)
  obtain ⟨o, a', hf', rfl⟩ := hY
  have G : gG D (gU lay kr o) (gU X kr (some (bsE cy n a'))) (gA lay X s.heap.size) s.heap H locs := G
  have e3 : gU lay kr o kr = o := gU_eq
  have e4 : gU lay kr o ks = lay ks := gU_ne hne3
  show W _ _ _ _ _ _ _ _ _ _ _ _ _ _ _ (F0 _ _ _ (.ref (gU lay kr o kr) :: _))
  rw [e3]
  refine g_putFA (a := lay ks) e4 hC hT.1 G hks ((gU_ne hne3).trans h4) k_S0 (fun _ h => List.mem_cons_of_mem _ (List.mem_append_left _ (List.mem_append_right _ h))) 0 (by decide) (wm 5 rfl) rfl (hname.trans rfl) rfl rfl rfl (by simp) dJ0_init_db425_35 (fun H locs G => ?_)
  refine lv_goto (tgt := 97) hC.1 hC.2.1 dJ0_init_db425_38 (by decide) ?_
  exact g_vret (Y := (gU lay kr o, gU (gU X kr (some (bsE cy n a'))) ks (some (.inr (0, [.ref o, .int 0, .int 0, .int 0]))))) hC hr hlocks G ⟨o, a', hf', rfl⟩ dJ0_init_db425_97
set_option maxHeartbeats 4000000 in
set_option maxRecDepth 100000 in
/-- new String(StringBuilder) -/
theorem c_S0i (l : Launch) (D : va_G) (cy : Nat → ClassId) (lay : Nat → Nat) (X : Nat → Option va_E) {ks kr k kb : Nat} (hks : ks < 128) (hkr : kr < 128) (hk : k < 128) (hkb : kb < 128) (hne1 : ks ≠ k) (hne2 : ks ≠ kb) (hne3 : ks ≠ kr) {n m : Nat} {a : Nat → Int32} {ml : Int32} (h1 : X k = some (sbE (lay kb) (nI n) ml)) (h2 : X kb = some (bsE cy m a)) (h3 : X kr = none) (hf : sb_Fit a) (hm : capOk m) (hnm : n ≤ m) (h4 : X ks = some (.inr (0, [.null, .int 0, .int 0, .int 0]))) (sz : Nat) : Met l yJ0_init_81219 wsJ0_init_81219 (rmS 4 1 70) (va_Pc [.ref (lay ks), .ref (lay k)] (sI D cy none lay X sz)) (va_Qv (fun Y : GY => ∃ o a', sb_Fit a' ∧ Y = (gU lay kr o, gU (gU X kr (some (bsE cy n a'))) ks (some (.inr (0, [.ref o, .int 0, .int 0, .int 0]))))) (gO D (gA lay X sz)) (gA lay X sz)) 1 70 (gA lay X sz) := by
  refine s_ofW (cc := cJ0_init_81219) (maxL := 2) (ret := none) (own := RJ0) (Qc := fun sz => va_Qv (fun Y : GY => ∃ o a', sb_Fit a' ∧ Y = (gU lay kr o, gU (gU X kr (some (bsE cy n a'))) ks (some (.inr (0, [.ref o, .int 0, .int 0, .int 0]))))) (gO D (gA lay X sz)) (gA lay X sz)) (by decide) rfl (Nat.le_of_ble_eq_true rfl) rfl ?_
  intro p e0 s m9 args below meth c ls hC hr hlocks hname hT hX G hl
  have hl : lv_has ls 2 [(0, .ref (lay ks)), (1, .ref (lay k))] := hl
  have hA : ∀ q, s.heap.size ≤ q → gA lay X s.heap.size q := fun _ h => Or.inr h
  refine lv_aload_n hC.1 hC.2.1 dJ0_init_81219_0 rfl (lv_at hl 0 rfl) ?_
  refine lv_aload_n hC.1 hC.2.1 dJ0_init_81219_1 rfl (lv_at hl 1 rfl) ?_
  refine lv_null hC.1 hC.2.1 dJ0_init_81219_2 ?_
  refine g_v G hA (s_runI (As := [.ref (lay k), .null]) (rest := []) (b := lay ks) hC hT hA G (fun _ h => by cases h) (c_S0iV l D cy lay X hks hkr hk hkb hne1 hne2 hne3 h1 h2 h3 hf hm hnm h4 _) ⟨callB_of 2 hC.2.2.2.2 gJ0_init_81219_J0_init_db425 rfl rfl rfl (hC.2.2.2.2 (.initialized RJ0) (wm 3 rfl)) (hC.2.2.2.2 (.methodLink RJ0 489 yJ0_init_db425) (wm 1 rfl)) hdI_J0_init_db425 ⟨Nat.le_of_ble_eq_true rfl, Nat.le_of_ble_eq_true rfl⟩, rfl, hC.2.2.2.2 (.instanceMethod yJ0_init_db425) (wm 2 rfl)⟩  rfl hl.1 rfl (Nat.le_of_ble_eq_true rfl) dJ0_init_81219_3 ⟨Nat.le_of_ble_eq_true rfl, Nat.le_of_ble_eq_true rfl⟩) (fun Y H locs hY G => ?_)
  exact g_vret (Y := Y) hC hr hlocks G hY dJ0_init_81219_6
set_option maxHeartbeats 4000000 in
set_option maxRecDepth 100000 in
/-- toString -/
theorem c_toS (l : Launch) (D : va_G) (cy : Nat → ClassId) (lay : Nat → Nat) (X : Nat → Option va_E) {ks kr k kb : Nat} (hks : ks < 128) (hkr : kr < 128) (hk : k < 128) (hkb : kb < 128) (hne3 : ks ≠ kr) {n m : Nat} {a : Nat → Int32} {ml : Int32} (h1 : X k = some (sbE (lay kb) (nI n) ml)) (h2 : X kb = some (bsE cy m a)) (h3 : X kr = none) (h4 : X ks = none) (hf : sb_Fit a) (hm : capOk m) (hnm : n ≤ m) (sz : Nat) : Met l yJ4_toString_0e30d wsJ4_toString_0e30d (rmS 5 2 74) (va_Pc [.ref (lay k)] (sI D cy none lay X sz)) (va_Qr (S := GY) (fun Y => ∃ q o a', sb_Fit a' ∧ Y = (gU (gU lay ks q) kr o, gU (gU (gU X ks (some (.inr (0, [.ref o, .int 0, .int 0, .int 0])))) kr (some (bsE cy n a'))) ks (some (.inr (0, [.ref o, .int 0, .int 0, .int 0]))))) (fun Y a t => a = Y.1 ks ∧ gO D (gA lay X sz) Y t) (gA lay X sz)) 2 74 (gA lay X sz) := by
  refine s_ofW (cc := cJ4_toString_0e30d) (maxL := 1) (ret := (some (.object "java/lang/String"))) (own := RJ4) (Qc := fun sz => va_Qr (S := GY) (fun Y => ∃ q o a', sb_Fit a' ∧ Y = (gU (gU lay ks q) kr o, gU (gU (gU X ks (some (.inr (0, [.ref o, .int 0, .int 0, .int 0])))) kr (some (bsE cy n a'))) ks (some (.inr (0, [.ref o, .int 0, .int 0, .int 0]))))) (fun Y a t => a = Y.1 ks ∧ gO D (gA lay X sz) Y t) (gA lay X sz)) (by decide) rfl (Nat.le_of_ble_eq_true rfl) rfl ?_
  intro p e0 s m9 args below meth c ls hC hr hlocks hname hT hX G hl
  have hl : lv_has ls 1 [(0, .ref (lay k))] := hl
  have hA : ∀ q, s.heap.size ≤ q → gA lay X s.heap.size q := fun _ h => Or.inr h
  have hne1 : ks ≠ k := fun e => by rw [← e, h4] at h1; cases h1
  have hne2 : ks ≠ kb := fun e => by rw [← e, h4] at h2; cases h2
  refine g_new (k := ks) (fs := [.null, .int 0, .int 0, .int 0]) hC hT.1 G hA h4 k_S0 (fun _ h => List.mem_cons_of_mem _ (List.mem_append_left _ (List.mem_append_right _ h))) (wm 1 rfl) (wm 2 rfl) (wm 3 rfl) df_S0 (Nat.le_of_ble_eq_true rfl) (Nat.le_of_ble_eq_true rfl) dJ4_toString_0e30d_0 (fun q H G => ?_)
  refine lv_dup hC.1 hC.2.1 dJ4_toString_0e30d_3 rfl ?_
  refine lv_aload_n hC.1 hC.2.1 dJ4_toString_0e30d_4 rfl (lv_at hl 0 rfl) ?_
  have e1 : gU lay ks q k = lay k := gU_ne (Ne.symm hne1)
  have e2 : gU lay ks q kb = lay kb := gU_ne (Ne.symm hne2)
  rw [← e1]
  refine g_v G hA (s_runI (As := [.ref (gU lay ks q k)]) (rest := [.ref (gU lay ks q ks)]) (b := gU lay ks q ks) hC hT hA G (fun _ h => by cases h) (c_S0i l D cy (gU lay ks q) (gU X ks (some (.inr (0, [.null, .int 0, .int 0, .int 0])))) hks hkr hk hkb hne1 hne2 hne3 ((gU_ne (Ne.symm hne1)).trans (by rw [e2]; exact h1)) ((gU_ne (Ne.symm hne2)).trans h2) ((gU_ne (Ne.symm hne3)).trans h3) hf hm hnm gU_eq _) ⟨callB_of 1 hC.2.2.2.2 gJ4_toString_0e30d_J0_init_81219 rfl rfl rfl (hC.2.2.2.2 (.initialized RJ0) (wm 3 rfl)) (hC.2.2.2.2 (.methodLink RJ4 137 yJ0_init_81219) (wm 4 rfl)) hdI_J0_init_81219 ⟨Nat.le_of_ble_eq_true rfl, Nat.le_of_ble_eq_true rfl⟩, rfl, hC.2.2.2.2 (.instanceMethod yJ0_init_81219) (wm 5 rfl)⟩  rfl hl.1 rfl (Nat.le_of_ble_eq_true rfl) dJ4_toString_0e30d_5 ⟨Nat.le_of_ble_eq_true rfl, Nat.le_of_ble_eq_true rfl⟩) (fun Y H locs hY G => ?_)
  obtain ⟨o, a', hf', rfl⟩ := hY
  have eY : gU (gU (gU X ks (some (.inr (0, [.null, .int 0, .int 0, .int 0])))) kr (some (bsE cy n a'))) ks (some (.inr (0, [.ref o, .int 0, .int 0, .int 0]))) = gU (gU (gU X ks (some (.inr (0, [.ref o, .int 0, .int 0, .int 0])))) kr (some (bsE cy n a'))) ks (some (.inr (0, [.ref o, .int 0, .int 0, .int 0]))) := gU3e
  dsimp only at G
  rw [eY] at G
  have e5 : gU (gU lay ks q) kr o ks = gU lay ks q ks := gU_ne hne3
  exact W.aret (v := .ref (gU lay ks q ks)) hC.1 hC.2.1 hr (Or.inl ⟨_, rfl⟩) (Or.inr ⟨_, rfl⟩) (fun t ht hW => ⟨⟨(gU (gU lay ks q) kr o, gU (gU (gU X ks (some (.inr (0, [.ref o, .int 0, .int 0, .int 0])))) kr (some (bsE cy n a'))) ks (some (.inr (0, [.ref o, .int 0, .int 0, .int 0])))), gU lay ks q ks, rfl, ⟨q, o, a', hf', rfl⟩, e5.symm, by rw [ht]; exact G.1, G.2.1⟩, G.2.2.F ht⟩) G.2.2.2.2 dJ4_toString_0e30d_8 hlocks
set_option maxHeartbeats 4000000 in
set_option maxRecDepth 100000 in
/-- AbstractStringBuilder(int) -/
theorem c_sb5 (l : Launch) (D : va_G) (cy : Nat → ClassId) (lay : Nat → Nat) (X : Nat → Option va_E) {k kb : Nat} (hk : k < 128) (hkb : kb < 128) (hne : kb ≠ k) (h1 : X k = some (.inr (1, [.null, .int 0, .int 0, .int 0]))) (h2 : X kb = none) (sz : Nat) : Met l yJ5_init_d00df wsJ5_init_d00df (rmS 1 1 16) (va_Pc [.ref (lay k), .int 16] (sI D cy none lay X sz)) (va_Qv (fun Y : GY => ∃ o, Y = (gU lay kb o, sbX cy X k kb o 16 (fun _ => 0) (nI 0) 0)) (gO D (gA lay X sz)) (gA lay X sz)) 1 16 (gA lay X sz) := by
  refine s_ofW (cc := cJ5_init_d00df) (maxL := 2) (ret := none) (own := RJ5) (Qc := fun sz => va_Qv (fun Y : GY => ∃ o, Y = (gU lay kb o, sbX cy X k kb o 16 (fun _ => 0) (nI 0) 0)) (gO D (gA lay X sz)) (gA lay X sz)) (by decide) rfl (Nat.le_of_ble_eq_true rfl) rfl ?_
  intro p e0 s m9 args below meth c ls hC hr hlocks hname hT hX G hl
  have hl : lv_has ls 2 [(0, .ref (lay k)), (1, .int 16)] := hl
  have hA : ∀ q, s.heap.size ≤ q → gA lay X s.heap.size q := fun _ h => Or.inr h
  refine lv_aload_n hC.1 hC.2.1 dJ5_init_d00df_0 rfl (lv_at hl 0 rfl) ?_
  refine W.objInit hC.1 hC.2.1 hC.2.2.2.1 (hC.2.2.2.2 _ (wm 1 rfl)) (hC.2.2.2.2 _ (wm 2 rfl)) (hC.2.2.2.2 _ (wm 3 rfl)) rfl (by rw [hC.2.2.1]; exact hl.1) rfl dJ5_init_d00df_1 (Nat.le_of_ble_eq_true rfl) (Nat.le_of_ble_eq_true rfl) ?_
  show W _ _ _ _ _ _ _ _ _ _ _ _ _ _ _ (F0 m9 4 ls [])
  refine va_gets hC.1 hC.2.1 hT.2.2.1 G.2.2 hC.2.2.2.1 (hC.2.2.2.2 _ (wm 4 rfl)) (fun _ h => h) dJ5_init_d00df_4 ?_
  refine lv_if_eq (tgt := 25) hC.1 hC.2.1 dJ5_init_d00df_7 (by decide) (fun c1 => absurd c1 (by decide)) (fun _ => ?_)
  refine lv_aload_n hC.1 hC.2.1 dJ5_init_d00df_10 rfl (lv_at hl 0 rfl) ?_
  refine lv_iload_n hC.1 hC.2.1 dJ5_init_d00df_11 rfl (lv_at hl 1 rfl) ?_
  refine g_newa_b (k := kb) (N := 16) hC hT.1 G hA h2 (wm 5 rfl) (by decide) (by decide) (by decide) (Nat.le_of_ble_eq_true rfl) (Nat.le_of_ble_eq_true rfl) dJ5_init_d00df_12 (fun o H G => ?_)
  have e1 : gU lay kb o k = lay k := gU_ne (Ne.symm hne)
  refine g_putA (a := lay k) e1 hC hT.1 G hk ((gU_ne (Ne.symm hne)).trans h1) k_SB (fun _ h => List.mem_cons_of_mem _ (List.mem_append_right _ h)) 0 (by decide) (wm 6 rfl) rfl rfl rfl (by simp) dJ5_init_d00df_14 (fun H locs G => ?_)
  refine lv_aload_n hC.1 hC.2.1 dJ5_init_d00df_17 rfl (lv_at hl 0 rfl) ?_
  refine lv_iconst (v := 0) hC.1 hC.2.1 dJ5_init_d00df_18 (by decide) ?_
  refine g_putA (a := lay k) e1 hC hT.1 G hk gU_eq k_SB (fun _ h => List.mem_cons_of_mem _ (List.mem_append_right _ h)) 1 (by decide) (wm 7 rfl) rfl rfl rfl (by simp) dJ5_init_d00df_19 (fun H locs G => ?_)
  refine lv_goto (tgt := 38) hC.1 hC.2.1 dJ5_init_d00df_22 (by decide) ?_
  have G : gG D (gU lay kb o) (sbX cy X k kb o 16 (fun _ => 0) (nI 0) 0) (gA lay X s.heap.size) s.heap H locs := by
    rw [gU_gU] at G
    exact G
  exact g_vret (Y := (gU lay kb o, sbX cy X k kb o 16 (fun _ => 0) (nI 0) 0)) hC hr hlocks G ⟨o, rfl⟩ dJ5_init_d00df_38
set_option maxHeartbeats 4000000 in
set_option maxRecDepth 100000 in
/-- new StringBuilder() -/
theorem c_sb0 (l : Launch) (D : va_G) (cy : Nat → ClassId) (lay : Nat → Nat) (X : Nat → Option va_E) {k kb : Nat} (hk : k < 128) (hkb : kb < 128) (hne : kb ≠ k) (h1 : X k = some (.inr (1, [.null, .int 0, .int 0, .int 0]))) (h2 : X kb = none) (sz : Nat) : Met l yJ4_init_da8c8 wsJ4_init_da8c8 (rmS 2 1 16) (va_Pc [.ref (lay k)] (sI D cy none lay X sz)) (va_Qv (fun Y : GY => ∃ o, Y = (gU lay kb o, sbX cy X k kb o 16 (fun _ => 0) (nI 0) 0)) (gO D (gA lay X sz)) (gA lay X sz)) 1 16 (gA lay X sz) := by
  refine s_ofW (cc := cJ4_init_da8c8) (maxL := 1) (ret := none) (own := RJ4) (Qc := fun sz => va_Qv (fun Y : GY => ∃ o, Y = (gU lay kb o, sbX cy X k kb o 16 (fun _ => 0) (nI 0) 0)) (gO D (gA lay X sz)) (gA lay X sz)) (by decide) rfl (Nat.le_of_ble_eq_true rfl) rfl ?_
  intro p e0 s m9 args below meth c ls hC hr hlocks hname hT hX G hl
  have hl : lv_has ls 1 [(0, .ref (lay k))] := hl
  have hA : ∀ q, s.heap.size ≤ q → gA lay X s.heap.size q := fun _ h => Or.inr h
  refine lv_aload_n hC.1 hC.2.1 dJ4_init_da8c8_0 rfl (lv_at hl 0 rfl) ?_
  refine lv_bipush (v := 16) hC.1 hC.2.1 dJ4_init_da8c8_1 (by decide) ?_
  refine g_v G hA (s_runI (As := [.int 16]) (rest := []) (b := lay k) hC hT hA G (fun _ h => by cases h) (c_sb5 l D cy lay X hk hkb hne h1 h2 _) ⟨callB_of 1 hC.2.2.2.2 gJ4_init_da8c8_J5_init_d00df rfl rfl rfl (hC.2.2.2.2 (.initialized RJ5) (wm 3 rfl)) (hC.2.2.2.2 (.methodLink RJ4 1 yJ5_init_d00df) (wm 1 rfl)) hdI_J5_init_d00df ⟨Nat.le_of_ble_eq_true rfl, Nat.le_of_ble_eq_true rfl⟩, rfl, hC.2.2.2.2 (.instanceMethod yJ5_init_d00df) (wm 2 rfl)⟩  rfl hl.1 rfl (Nat.le_of_ble_eq_true rfl) dJ4_init_da8c8_3 ⟨Nat.le_of_ble_eq_true rfl, Nat.le_of_ble_eq_true rfl⟩) (fun Y H locs hY G => ?_)
  exact g_vret (Y := Y) hC hr hlocks G hY dJ4_init_da8c8_6
