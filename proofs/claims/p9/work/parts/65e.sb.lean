/-! TEXTS: walks of StringBuilder, String (65e.sb) -/
set_option maxHeartbeats 4000000 in
set_option maxRecDepth 100000 in
/-- inflateIfNeededFor: nothing -/
theorem c_infl (l : Launch) (D : va_G) (cy : Nat → ClassId) (lay : Nat → Nat) (X : Nat → Option va_E) {k : Nat} (hk : k < 128) {o : Nat} {n ml : Int32} (h1 : X k = some (sbE o n ml)) {sa w : Nat} (sz : Nat) : Met l yJ5_inflateIfNeededFor_a7421 wsJ5_inflateIfNeededFor_a7421 (rmS 1 0 0) (va_Pc [.ref (lay k), .ref sa] (sI D cy (some (sa, w)) lay X sz)) (va_Qv (fun Y : GY => Y = (lay, X)) (gO D (gA lay X sz)) (gA lay X sz)) 0 0 (gA lay X sz) := by
  refine s_ofW (cc := cJ5_inflateIfNeededFor_a7421) (maxL := 2) (ret := none) (own := RJ5) (Qc := fun sz => va_Qv (fun Y : GY => Y = (lay, X)) (gO D (gA lay X sz)) (gA lay X sz)) (by decide) rfl (Nat.le_of_ble_eq_true rfl) rfl ?_
  intro p e0 s m9 args below meth c ls hC hr hlocks hname hT hX G hl
  have hl : lv_has ls 2 [(0, .ref (lay k)), (1, .ref sa)] := hl
  have hA : ∀ q, s.heap.size ≤ q → gA lay X s.heap.size q := fun _ h => Or.inr h
  refine va_gets hC.1 hC.2.1 hT.2.2.1 G.2.2 hC.2.2.2.1 (hC.2.2.2.2 _ (wm 1 rfl)) (fun _ h => h) dJ5_inflateIfNeededFor_a7421_0 ?_
  refine lv_if_eq (tgt := 21) hC.1 hC.2.1 dJ5_inflateIfNeededFor_a7421_3 (by decide) (fun c1 => absurd c1 (by decide)) (fun _ => ?_)
  refine lv_aload_n hC.1 hC.2.1 dJ5_inflateIfNeededFor_a7421_6 rfl (lv_at hl 0 rfl) ?_
  refine g_get hC hT.1 G hk h1 k_SB (fun _ h => List.mem_cons_of_mem _ (List.mem_append_left _ (List.mem_append_right _ h))) 1 (by decide) (wm 2 rfl) rfl dJ5_inflateIfNeededFor_a7421_7 ?_
  refine lv_aload_n hC.1 hC.2.1 dJ5_inflateIfNeededFor_a7421_10 rfl (lv_at hl 1 rfl) ?_
  refine g_i G hA (s_runV (As := []) (rest := [.int 0]) (b := sa) hC hT hA G hX (c_coder l D cy lay X (sa := sa) (w := w) _) (cwV 0 hC.2.2.2.2 gJ5_inflateIfNeededFor_a7421_J0_coder_7d493 rfl rfl rfl hdV_J0_coder_7d493 ⟨Nat.le_of_ble_eq_true rfl, Nat.le_of_ble_eq_true rfl⟩) (t_recv (hX _ rfl) G.2.2) rfl hl.1 rfl (Nat.le_of_ble_eq_true rfl) dJ5_inflateIfNeededFor_a7421_11 ⟨Nat.le_of_ble_eq_true rfl, Nat.le_of_ble_eq_true rfl⟩) (fun r Y H locs hY G => ?_)
  obtain ⟨rfl, rfl⟩ := hY
  refine lv_icmp_eq (tgt := 21) hC.1 hC.2.1 dJ5_inflateIfNeededFor_a7421_14 (by decide) (fun _ => ?_) (fun c1 => absurd rfl c1)
  exact g_vret (Y := (lay, X)) hC hr hlocks G rfl dJ5_inflateIfNeededFor_a7421_21
set_option maxHeartbeats 4000000 in
set_option maxRecDepth 100000 in
/-- String.getBytes into a row -/
theorem c_gby (l : Launch) (D : va_G) (cy : Nat → ClassId) (lay : Nat → Nat) (X : Nat → Option va_E) {kb : Nat} (hkb : kb < 128) {m : Nat} {a : Nat → Int32} (h2 : X kb = some (bsE cy m a)) (hf : sb_Fit a) (hm : m < 100) {sa w d : Nat} (hd : d + w ≤ m) (sz : Nat) : Met l yJ0_getBytes_840e7 wsJ0_getBytes_840e7 (rmS 1 0 0) (va_Pc [.ref sa, .ref (lay kb), .int (nI d), .int 0] (sI D cy (some (sa, w)) lay X sz)) (va_Qv (fun Y : GY => ∃ a', sb_Fit a' ∧ Y = (lay, gU X kb (some (bsE cy m a')))) (gO D (gA lay X sz)) (gA lay X sz)) 0 0 (gA lay X sz) := by
  refine s_ofW (cc := cJ0_getBytes_840e7) (maxL := 4) (ret := none) (own := RJ0) (Qc := fun sz => va_Qv (fun Y : GY => ∃ a', sb_Fit a' ∧ Y = (lay, gU X kb (some (bsE cy m a')))) (gO D (gA lay X sz)) (gA lay X sz)) (by decide) rfl (Nat.le_of_ble_eq_true rfl) rfl ?_
  intro p e0 s m9 args below meth c ls hC hr hlocks hname hT hX G hl
  have hl : lv_has ls 4 [(0, .ref sa), (1, .ref (lay kb)), (2, .int (nI d)), (3, .int 0)] := hl
  have hA : ∀ q, s.heap.size ≤ q → gA lay X s.heap.size q := fun _ h => Or.inr h
  obtain ⟨x1, x2, ra, g, x3, x4, x5⟩ := hX _ rfl
  refine lv_aload_n hC.1 hC.2.1 dJ0_getBytes_840e7_0 rfl (lv_at hl 0 rfl) ?_
  refine g_i G hA (s_runV (As := []) (rest := []) (b := sa) hC hT hA G hX (c_coder l D cy lay X (sa := sa) (w := w) _) (cwV 0 hC.2.2.2.2 gJ0_getBytes_840e7_J0_coder_7d493 rfl rfl rfl hdV_J0_coder_7d493 ⟨Nat.le_of_ble_eq_true rfl, Nat.le_of_ble_eq_true rfl⟩) (t_recv (hX _ rfl) G.2.2) rfl hl.1 rfl (Nat.le_of_ble_eq_true rfl) dJ0_getBytes_840e7_1 ⟨Nat.le_of_ble_eq_true rfl, Nat.le_of_ble_eq_true rfl⟩) (fun r Y H locs hY G => ?_)
  obtain ⟨rfl, rfl⟩ := hY
  refine lv_iload_n hC.1 hC.2.1 dJ0_getBytes_840e7_4 rfl (lv_at hl 3 rfl) ?_
  refine lv_icmp_ne (tgt := 28) hC.1 hC.2.1 dJ0_getBytes_840e7_5 (by decide) (fun c1 => absurd rfl c1) (fun _ => ?_)
  refine lv_aload_n hC.1 hC.2.1 dJ0_getBytes_840e7_8 rfl (lv_at hl 0 rfl) ?_
  refine vk_getf hC.1 hC.2.1 x3 G.2.2 hC.2.2.2.1 (hC.2.2.2.2 _ (wm 1 rfl)) (fun _ h => h) dJ0_getBytes_840e7_9 ?_
  refine lv_iconst (v := 0) hC.1 hC.2.1 dJ0_getBytes_840e7_12 (by decide) ?_
  refine lv_aload_n hC.1 hC.2.1 dJ0_getBytes_840e7_13 rfl (lv_at hl 1 rfl) ?_
  refine lv_iload_n hC.1 hC.2.1 dJ0_getBytes_840e7_14 rfl (lv_at hl 2 rfl) ?_
  refine lv_iload_n hC.1 hC.2.1 dJ0_getBytes_840e7_15 rfl (lv_at hl 3 rfl) ?_
  refine lv_ishl hC.1 hC.2.1 dJ0_getBytes_840e7_16 ?_
  rw [sb_shl0]
  refine lv_aload_n hC.1 hC.2.1 dJ0_getBytes_840e7_17 rfl (lv_at hl 0 rfl) ?_
  refine vk_getf hC.1 hC.2.1 x3 G.2.2 hC.2.2.2.1 (hC.2.2.2.2 _ (wm 1 rfl)) (fun _ h => h) dJ0_getBytes_840e7_18 ?_
  refine va_tlen hC.1 hC.2.1 x4 G.2.2 rfl dJ0_getBytes_840e7_21 ?_
  refine g_tcopy hC hl.1 hT.1 G (wm 2 rfl) (wm 3 rfl) (wm 4 rfl) (wm 5 rfl) x4 x5 rfl hkb h2 (d := d) (by omega) (by omega) hd (Nat.le_of_ble_eq_true rfl) (Nat.le_of_ble_eq_true rfl) dJ0_getBytes_840e7_22 (fun H locs G => ?_)
  refine lv_goto (tgt := 43) hC.1 hC.2.1 dJ0_getBytes_840e7_25 (by decide) ?_
  exact g_vret (Y := (lay, gU X kb (some (bsE cy m (va_cpy g a 0 d w))))) hC hr hlocks G ⟨_, t_fitC hf x5, rfl⟩ dJ0_getBytes_840e7_43
set_option maxHeartbeats 4000000 in
set_option maxRecDepth 100000 in
/-- putStringAt -/
theorem c_putS (l : Launch) (D : va_G) (cy : Nat → ClassId) (lay : Nat → Nat) (X : Nat → Option va_E) {k kb : Nat} (hk : k < 128) (hkb : kb < 128) {n m : Nat} {a : Nat → Int32} {n ml : Int32} (h1 : X k = some (sbE (lay kb) n ml)) (h2 : X kb = some (bsE cy m a)) (hf : sb_Fit a) (hm : m < 100) {sa w d : Nat} (hd : d + w ≤ m) (sz : Nat) : Met l yJ5_putStringAt_47b60 wsJ5_putStringAt_47b60 (rmS 2 0 0) (va_Pc [.ref (lay k), .int (nI d), .ref sa] (sI D cy (some (sa, w)) lay X sz)) (va_Qv (fun Y : GY => ∃ a', sb_Fit a' ∧ Y = (lay, gU X kb (some (bsE cy m a')))) (gO D (gA lay X sz)) (gA lay X sz)) 0 0 (gA lay X sz) := by
  refine s_ofW (cc := cJ5_putStringAt_47b60) (maxL := 3) (ret := none) (own := RJ5) (Qc := fun sz => va_Qv (fun Y : GY => ∃ a', sb_Fit a' ∧ Y = (lay, gU X kb (some (bsE cy m a')))) (gO D (gA lay X sz)) (gA lay X sz)) (by decide) rfl (Nat.le_of_ble_eq_true rfl) rfl ?_
  intro p e0 s m9 args below meth c ls hC hr hlocks hname hT hX G hl
  have hl : lv_has ls 3 [(0, .ref (lay k)), (1, .int (nI d)), (2, .ref sa)] := hl
  have hA : ∀ q, s.heap.size ≤ q → gA lay X s.heap.size q := fun _ h => Or.inr h
  refine lv_aload_n hC.1 hC.2.1 dJ5_putStringAt_47b60_0 rfl (lv_at hl 0 rfl) ?_
  refine lv_aload_n hC.1 hC.2.1 dJ5_putStringAt_47b60_1 rfl (lv_at hl 2 rfl) ?_
  refine g_v G hA (s_runU (As := [.ref sa]) (rest := []) hC hT hA G hX (c_infl l D cy lay X hk h1 (sa := sa) (w := w) _) (va_cwU 1 hC.2.2.2.2 gJ5_putStringAt_47b60_J5_inflateIfNeededFor_a7421_u397J4 rfl rfl rfl rfl hdU_J5_inflateIfNeededFor_a7421 ⟨Nat.le_of_ble_eq_true rfl, Nat.le_of_ble_eq_true rfl⟩) (s_recv hT G hk h1 k_SB) rfl hl.1 rfl (Nat.le_of_ble_eq_true rfl) dJ5_putStringAt_47b60_2 ⟨Nat.le_of_ble_eq_true rfl, Nat.le_of_ble_eq_true rfl⟩) (fun Y H locs hY G => ?_)
  subst hY
  refine lv_aload_n hC.1 hC.2.1 dJ5_putStringAt_47b60_5 rfl (lv_at hl 2 rfl) ?_
  refine lv_aload_n hC.1 hC.2.1 dJ5_putStringAt_47b60_6 rfl (lv_at hl 0 rfl) ?_
  refine g_get hC hT.1 G hk h1 k_SB (fun _ h => List.mem_cons_of_mem _ (List.mem_append_left _ (List.mem_append_right _ h))) 0 (by decide) (wm 1 rfl) rfl dJ5_putStringAt_47b60_7 ?_
  refine lv_iload_n hC.1 hC.2.1 dJ5_putStringAt_47b60_10 rfl (lv_at hl 1 rfl) ?_
  refine lv_aload_n hC.1 hC.2.1 dJ5_putStringAt_47b60_11 rfl (lv_at hl 0 rfl) ?_
  refine g_get hC hT.1 G hk h1 k_SB (fun _ h => List.mem_cons_of_mem _ (List.mem_append_left _ (List.mem_append_right _ h))) 1 (by decide) (wm 2 rfl) rfl dJ5_putStringAt_47b60_12 ?_
  refine g_v G hA (s_runV (As := [.ref (lay kb), .int (nI d), .int 0]) (rest := []) (b := sa) hC hT hA G hX (c_gby l D cy lay X hkb h2 hf hm (sa := sa) (w := w) hd _) (cwV 3 hC.2.2.2.2 gJ5_putStringAt_47b60_J0_getBytes_840e7 rfl rfl rfl hdV_J0_getBytes_840e7 ⟨Nat.le_of_ble_eq_true rfl, Nat.le_of_ble_eq_true rfl⟩) (t_recv (hX _ rfl) G.2.2) rfl hl.1 rfl (Nat.le_of_ble_eq_true rfl) dJ5_putStringAt_47b60_15 ⟨Nat.le_of_ble_eq_true rfl, Nat.le_of_ble_eq_true rfl⟩) (fun Y H locs hY G => ?_)
  obtain ⟨a', hf', rfl⟩ := hY
  exact g_vret (Y := (lay, gU X kb (some (bsE cy m a')))) hC hr hlocks G ⟨a', hf', rfl⟩ dJ5_putStringAt_47b60_18
set_option maxHeartbeats 4000000 in
set_option maxRecDepth 100000 in
/-- AbstractStringBuilder.append(String) -/
theorem c_apS5 (l : Launch) (D : va_G) (cy : Nat → ClassId) (lay : Nat → Nat) (X : Nat → Option va_E) {k kb kn : Nat} (hk : k < 128) (hkb : kb < 128) (hkn : kn < 128) (hne : kb ≠ k) {n m : Nat} {a : Nat → Int32} {ml : Int32} (h1 : X k = some (sbE (lay kb) (nI n) ml)) (h2 : X kb = some (bsE cy m a)) (h3 : X kn = none) (hf : sb_Fit a) (hm : capOk m) (hnm : n ≤ m) {sa w : Nat} (hw : w ≤ 16) (hn : n + w ≤ 70) (sz : Nat) : Met l yJ5_append_cf1ce wsJ5_append_cf1ce (rmS 4 1 70) (va_Pc [.ref (lay k), .ref sa] (sI D cy (some (sa, w)) lay X sz)) (va_Qr (S := GY) (fun Y => ∃ o m' a', sb_Fit a' ∧ capOk m' ∧ n + w ≤ m' ∧ Y = (gU lay kb o, sbX cy X k kb o m' a' (nI (n + w)) ml)) (fun Y a t => a = lay k ∧ gO D (gA lay X sz) Y t) (gA lay X sz)) 1 70 (gA lay X sz) := by
  refine s_ofW (cc := cJ5_append_cf1ce) (maxL := 3) (ret := (some (.object "java/lang/AbstractStringBuilder"))) (own := RJ5) (Qc := fun sz => va_Qr (S := GY) (fun Y => ∃ o m' a', sb_Fit a' ∧ capOk m' ∧ n + w ≤ m' ∧ Y = (gU lay kb o, sbX cy X k kb o m' a' (nI (n + w)) ml)) (fun Y a t => a = lay k ∧ gO D (gA lay X sz) Y t) (gA lay X sz)) (by decide) rfl (Nat.le_of_ble_eq_true rfl) rfl ?_
  intro p e0 s m9 args below meth c ls hC hr hlocks hname hT hX G hl
  have hl : lv_has ls 3 [(0, .ref (lay k)), (1, .ref sa)] := hl
  have hA : ∀ q, s.heap.size ≤ q → gA lay X s.heap.size q := fun _ h => Or.inr h
  have hcap : m < 100 := by unfold capOk at hm; omega
  refine lv_aload_n hC.1 hC.2.1 dJ5_append_cf1ce_0 rfl (lv_at hl 1 rfl) ?_
  refine lv_ifnonnull (tgt := 9) hC.1 hC.2.1 dJ5_append_cf1ce_1 (by decide) ?_
  refine lv_aload_n hC.1 hC.2.1 dJ5_append_cf1ce_9 rfl (lv_at hl 1 rfl) ?_
  refine g_i G hA (s_runV (As := []) (rest := []) (b := sa) hC hT hA G hX (c_slen l D cy lay X (sa := sa) (w := w) (by omega) _) (cwV 0 hC.2.2.2.2 gJ5_append_cf1ce_J0_length_8abf5 rfl rfl rfl hdV_J0_length_8abf5 ⟨Nat.le_of_ble_eq_true rfl, Nat.le_of_ble_eq_true rfl⟩) (t_recv (hX _ rfl) G.2.2) rfl hl.1 rfl (Nat.le_of_ble_eq_true rfl) dJ5_append_cf1ce_10 ⟨Nat.le_of_ble_eq_true rfl, Nat.le_of_ble_eq_true rfl⟩) (fun r Y H locs hY G => ?_)
  obtain ⟨rfl, rfl⟩ := hY
  refine lv_istore_n (lv' := [(2, .int (nI w)), (0, .ref (lay k)), (1, .ref sa)]) hC.1 hC.2.1 dJ5_append_cf1ce_13 rfl hl (by decide) rfl (fun ls hl => ?_)
  refine lv_aload_n hC.1 hC.2.1 dJ5_append_cf1ce_14 rfl (lv_at hl 1 rfl) ?_
  refine lv_aload_n hC.1 hC.2.1 dJ5_append_cf1ce_15 rfl (lv_at hl 1 rfl) ?_
  refine g_get hC hT.1 G hk h1 k_SB (fun _ h => List.mem_cons_of_mem _ (List.mem_append_left _ (List.mem_append_right _ h))) 3 (by decide) (wm 1 rfl) rfl dJ5_append_cf1ce_16 ?_
  refine lv_iload_n hC.1 hC.2.1 dJ5_append_cf1ce_19 rfl (lv_at hl 0 rfl) ?_
  refine lv_iadd hC.1 hC.2.1 dJ5_append_cf1ce_20 ?_
  rw [nI_add]
  refine g_v G hA (s_runU (As := [.int (nI (n + w))]) (rest := []) hC hT hA G (fun _ h => by cases h) (c_ensure l D cy lay X hk hkb hkn hne h1 h2 h3 hf hm (q := n + w) (by omega) (by omega) _) (va_cwU 1 hC.2.2.2.2 gJ5_append_cf1ce_J5_ensureCapacityInternal_d00df_u100J4 rfl rfl rfl rfl hdU_J5_ensureCapacityInternal_d00df ⟨Nat.le_of_ble_eq_true rfl, Nat.le_of_ble_eq_true rfl⟩) (s_recv hT G hk h1 k_SB) rfl hl.1 rfl (Nat.le_of_ble_eq_true rfl) dJ5_append_cf1ce_21 ⟨Nat.le_of_ble_eq_true rfl, Nat.le_of_ble_eq_true rfl⟩) (fun Y H locs hY G => ?_)
  obtain ⟨o, m1, a1, hf1, hm1, hq1, hmm1, rfl⟩ := hY
  have e1 : gU lay kb o k = lay k := gU_ne (Ne.symm hne)
  have e2 : gU lay kb o kb = o := gU_eq
  dsimp only at G
  generalize hL : gU lay kb o = L at e1 e2 G
  subst e2
  rw [← e1] at hl
  have hm100 : m1 < 100 := by unfold capOk at hm1; omega
  refine lv_aload_n hC.1 hC.2.1 dJ5_append_cf1ce_24 rfl (lv_at hl 1 rfl) ?_
  refine lv_aload_n hC.1 hC.2.1 dJ5_append_cf1ce_25 rfl (lv_at hl 1 rfl) ?_
  refine g_get hC hT.1 G hk sbX_k k_SB (fun _ h => List.mem_cons_of_mem _ (List.mem_append_left _ (List.mem_append_right _ h))) 3 (by decide) (wm 1 rfl) rfl dJ5_append_cf1ce_26 ?_
  refine lv_aload_n hC.1 hC.2.1 dJ5_append_cf1ce_29 rfl (lv_at hl 2 rfl) ?_
  refine g_v G hA (s_runU (As := [.int (nI n), .ref sa]) (rest := []) hC hT hA G hX (c_putS l D cy L (sbX cy X k kb (L kb) m1 a1 (nI n) ml) hk hkb (n := n) sbX_k (sbX_b hne) hf1 hm100 (sa := sa) (w := w) (d := n) hq1 _) (va_cwU 2 hC.2.2.2.2 gJ5_append_cf1ce_J5_putStringAt_47b60_u208J4 rfl rfl rfl rfl hdU_J5_putStringAt_47b60 ⟨Nat.le_of_ble_eq_true rfl, Nat.le_of_ble_eq_true rfl⟩) (s_recv hT G hk sbX_k k_SB) rfl hl.1 rfl (Nat.le_of_ble_eq_true rfl) dJ5_append_cf1ce_30 ⟨Nat.le_of_ble_eq_true rfl, Nat.le_of_ble_eq_true rfl⟩) (fun Y H locs hY G => ?_)
  obtain ⟨a2, hf2, rfl⟩ := hY
  have G : gG D L (sbX cy X k kb (L kb) m1 a2 (nI n) ml) (gA lay X s.heap.size) s.heap H locs := by rw [← sbX_pb hne]; exact G
  refine lv_aload_n hC.1 hC.2.1 dJ5_append_cf1ce_33 rfl (lv_at hl 1 rfl) ?_
  refine lv_dup hC.1 hC.2.1 dJ5_append_cf1ce_34 rfl ?_
  refine g_get hC hT.1 G hk sbX_k k_SB (fun _ h => List.mem_cons_of_mem _ (List.mem_append_left _ (List.mem_append_right _ h))) 3 (by decide) (wm 1 rfl) rfl dJ5_append_cf1ce_35 ?_
  refine lv_iload_n hC.1 hC.2.1 dJ5_append_cf1ce_38 rfl (lv_at hl 0 rfl) ?_
  refine lv_iadd hC.1 hC.2.1 dJ5_append_cf1ce_39 ?_
  rw [nI_add]
  refine g_put hC hT.1 G hk sbX_k k_SB (fun _ h => List.mem_cons_of_mem _ (List.mem_append_left _ (List.mem_append_right _ h))) 3 (by decide) (wm 1 rfl) rfl rfl rfl (by simp) dJ5_append_cf1ce_40 (fun H locs G => ?_)
  have G : gG D L (sbX cy X k kb (L kb) m1 a2 (nI (n + w)) ml) (gA lay X s.heap.size) s.heap H locs := by rw [← sbX_pk (o := L kb) (n := nI n) (ml := ml)]; exact G
  refine lv_aload_n hC.1 hC.2.1 dJ5_append_cf1ce_43 rfl (lv_at hl 1 rfl) ?_
  exact W.aret (v := .ref (L k)) hC.1 hC.2.1 hr (Or.inl ⟨_, rfl⟩) (Or.inr ⟨_, rfl⟩) (fun t ht hW => ⟨⟨(L, sbX cy X k kb (L kb) m1 a2 (nI (n + w)) ml), L k, rfl, ⟨L kb, m1, a2, hf2, hm1, hq1, by rw [hL]⟩, e1, by rw [ht]; exact G.1, G.2.1⟩, G.2.2.F ht⟩) G.2.2.2.2 dJ5_append_cf1ce_44 hlocks
set_option maxHeartbeats 4000000 in
set_option maxRecDepth 100000 in
/-- c_apS -/
theorem c_apS (l : Launch) (D : va_G) (cy : Nat → ClassId) (lay : Nat → Nat) (X : Nat → Option va_E) {k kb kn : Nat} (hk : k < 128) (hkb : kb < 128) (hkn : kn < 128) (hne : kb ≠ k) {n m : Nat} {a : Nat → Int32} {ml : Int32} (h1 : X k = some (sbE (lay kb) (nI n) ml)) (h2 : X kb = some (bsE cy m a)) (h3 : X kn = none) (hf : sb_Fit a) (hm : capOk m) (hnm : n ≤ m) {sa w : Nat} (hw : w ≤ 16) (hn : n + w ≤ 70) (sz : Nat) : Met l yJ4_append_15ec4 wsJ4_append_15ec4 (rmS 5 1 70) (va_Pc [.ref (lay k), .ref sa] (sI D cy (some (sa, w)) lay X sz)) (va_Qr (S := GY) (fun Y => ∃ o m' a', sb_Fit a' ∧ capOk m' ∧ n + w ≤ m' ∧ Y = (gU lay kb o, sbX cy X k kb o m' a' (nI (n + w)) ml)) (fun Y a t => a = lay k ∧ gO D (gA lay X sz) Y t) (gA lay X sz)) 1 70 (gA lay X sz) := by
  refine s_ofW (cc := cJ4_append_15ec4) (maxL := 2) (ret := (some (.object "java/lang/StringBuilder"))) (own := RJ4) (Qc := fun sz => va_Qr (S := GY) (fun Y => ∃ o m' a', sb_Fit a' ∧ capOk m' ∧ n + w ≤ m' ∧ Y = (gU lay kb o, sbX cy X k kb o m' a' (nI (n + w)) ml)) (fun Y a t => a = lay k ∧ gO D (gA lay X sz) Y t) (gA lay X sz)) (by decide) rfl (Nat.le_of_ble_eq_true rfl) rfl ?_
  intro p e0 s m9 args below meth c ls hC hr hlocks hname hT hX G hl
  have hl : lv_has ls 2 [(0, .ref (lay k)), (1, .ref sa)] := hl
  have hA : ∀ q, s.heap.size ≤ q → gA lay X s.heap.size q := fun _ h => Or.inr h
  refine lv_aload_n hC.1 hC.2.1 dJ4_append_15ec4_0 rfl (lv_at hl 0 rfl) ?_
  refine lv_aload_n hC.1 hC.2.1 dJ4_append_15ec4_1 rfl (lv_at hl 1 rfl) ?_
  refine k_r (f := fun _ => lay k) G hA (s_runSU (As := [.ref sa]) (rest := []) hC hT hA G hX (c_apS5 l D cy lay X hk hkb hkn hne h1 h2 h3 hf hm hnm (sa := sa) hw hn _) (va_cwSU 1 hC.2.2.2.2 gJ4_append_15ec4_J5_append_cf1ce_s29 rfl rfl rfl hdX_J5_append_cf1ce ⟨Nat.le_of_ble_eq_true rfl, Nat.le_of_ble_eq_true rfl⟩) (s_recv hT G hk h1 k_SB) rfl hl.1 rfl (Nat.le_of_ble_eq_true rfl) dJ4_append_15ec4_2 ⟨Nat.le_of_ble_eq_true rfl, Nat.le_of_ble_eq_true rfl⟩) (fun Y H locs hY G => ?_)
  obtain ⟨o, m1, a1, hf1, hm1, hq1, rfl⟩ := hY
  refine lv_pop hC.1 hC.2.1 dJ4_append_15ec4_5 rfl ?_
  refine lv_aload_n hC.1 hC.2.1 dJ4_append_15ec4_6 rfl (lv_at hl 0 rfl) ?_
  exact W.aret (v := .ref (lay k)) hC.1 hC.2.1 hr (Or.inl ⟨_, rfl⟩) (Or.inr ⟨_, rfl⟩) (fun t ht hW => ⟨⟨(gU lay kb o, sbX cy X k kb o m1 a1 (nI (n + w)) ml), lay k, rfl, ⟨o, m1, a1, hf1, hm1, hq1, rfl⟩, rfl, by rw [ht]; exact G.1, G.2.1⟩, G.2.2.F ht⟩) G.2.2.2.2 dJ4_append_15ec4_7 hlocks
