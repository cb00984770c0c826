/-! THE REFERENCE: the eleventh of a list -/
set_option maxHeartbeats 4000000 in
set_option maxRecDepth 100000 in
theorem c_gC0 (l : Launch) (D : va_G) (cy : Nat → ClassId) (lay : Nat → Nat) (X : Nat → Option va_E) (ea mi : Nat) {kl ke kn ci qn : Nat} {r : vw_C} {f : Nat → Option Nat} (hkl : kl < 128) (hke : ke < 128) (hkn : kn < 128) (hne : kl ≠ ke) {mo : Int32} (h1 : X kl = some (.inr (4, [.int mo, .ref (lay ke), .int (nI 10)]))) (h2 : X ke = some (.inl (cy 7, 10, rfS f))) (h3 : X kn = none) (hel : ∀ i y, i < 10 → f i = some y → ∃ kv vs, kv < 128 ∧ X kv = some (.inr (ci, vs)) ∧ lay kv = y) (hc : vwCl[ci]? = some r) (hqn : nestR[qn]? = some (.castable r.1 "java/lang/Object")) (sz : Nat) : Met l yJx4a65c_grow_92f84 wsJx4a65c_grow_92f84 rm_gC0 (va_Pc [.ref (lay kl), .int (nI 11)] (hK D cy lay X ea mi sz)) (va_Qr (S := GY) (fun Y => ∃ q, Y = (gU lay ke q, gU (gU X ke (some (.inl (cy 7, 15, rfS (va_cpy f (fun _ => none) 0 0 10))))) kl (some (.inr (4, [.int mo, .ref q, .int (nI 10)]))))) (fun Y a t => a = Y.1 ke ∧ gO D (gA lay X sz) Y t) (gA lay X sz)) 1 15 (gA lay X sz) := by
  refine k_ofW (cc := cJx4a65c_grow_92f84) (maxL := 4) (ret := some (.array (.object "java/lang/Object"))) (own := RJx4a65c) (Qc := fun sz => (va_Qr (S := GY) (fun Y => ∃ q, Y = (gU lay ke q, gU (gU X ke (some (.inl (cy 7, 15, rfS (va_cpy f (fun _ => none) 0 0 10))))) kl (some (.inr (4, [.int mo, .ref q, .int (nI 10)]))))) (fun Y a t => a = Y.1 ke ∧ gO D (gA lay X sz) Y t) (gA lay X sz))) (by decide) rfl (Nat.le_of_ble_eq_true rfl) rfl ?_
  intro p e0 s m args below meth c ls hC hr hlocks hname hT hZ G hl
  have hl : lv_has ls 4 [(0, .ref (lay kl)), (1, .int (nI 11))] := hl
  have hA : ∀ q, s.heap.size ≤ q → gA lay X s.heap.size q := fun _ h => Or.inr h
  have hnl : kl ≠ kn := fun z => by rw [z, h3] at h1; cases h1
  have hnk : ke ≠ kn := fun z => by rw [z, h3] at h2; cases h2
  refine lv_aload_n hC.1 hC.2.1 dJx4a65c_grow_92f84_0 rfl (lv_at hl 0 rfl) ?_
  refine g_get hC hT.1 G hkl h1 k_AL i_gr0_L 1 (by decide) (wm 1 rfl) rfl dJx4a65c_grow_92f84_1 ?_
  obtain ⟨q0, hq0⟩ := gW_pos (lay := lay) hke h2
  refine va_alen (v := nI 10) hC.1 hC.2.1 hT.1 (gP_list G.1) q0 7 hq0 rfl rfl dJx4a65c_grow_92f84_4 ?_
  refine lv_istore_n (lv' := [(2, .int (nI 10)), (0, .ref (lay kl)), (1, .int (nI 11))]) hC.1 hC.2.1 dJx4a65c_grow_92f84_5 rfl hl (by decide) rfl (fun ls hl => ?_)
  refine lv_iload_n hC.1 hC.2.1 dJx4a65c_grow_92f84_6 rfl (lv_at hl 0 rfl) ?_
  refine lv_if_gt (tgt := 20) hC.1 hC.2.1 dJx4a65c_grow_92f84_7 (by decide) (fun _ => ?_) (fun c1 => absurd (show (0 : Int32) < nI 10 from by decide +kernel) c1)
  refine lv_iload_n hC.1 hC.2.1 dJx4a65c_grow_92f84_20 rfl (lv_at hl 0 rfl) ?_
  refine lv_iload_n hC.1 hC.2.1 dJx4a65c_grow_92f84_21 rfl (lv_at hl 2 rfl) ?_
  refine lv_iload_n hC.1 hC.2.1 dJx4a65c_grow_92f84_22 rfl (lv_at hl 0 rfl) ?_
  refine lv_isub hC.1 hC.2.1 dJx4a65c_grow_92f84_23  ?_
  refine lv_iload_n hC.1 hC.2.1 dJx4a65c_grow_92f84_24 rfl (lv_at hl 0 rfl) ?_
  refine lv_iconst (v := 1) hC.1 hC.2.1 dJx4a65c_grow_92f84_25 (by decide) ?_
  refine lv_ishr hC.1 hC.2.1 dJx4a65c_grow_92f84_26  ?_
  refine g_i G hA (k_runS (As := [.int (nI 10), .int (nI 11 - nI 10), .int (nI 10 >>> (1 &&& 31))]) (rest := []) hC hT hZ hA G (c_newLen l D cy lay X ea mi (r := nI 15) (by decide +kernel) (by decide +kernel) (by decide +kernel) _) (va_cwS 3 hC.2.2.2.2 gJx4a65c_grow_92f84_J8_newLength_cabcc rfl rfl rfl hdS_nl ⟨Nat.le_of_ble_eq_true rfl, Nat.le_of_ble_eq_true rfl⟩) rfl hl.1 rfl (Nat.le_of_ble_eq_true rfl) dJx4a65c_grow_92f84_27 ⟨Nat.le_of_ble_eq_true rfl, Nat.le_of_ble_eq_true rfl⟩) (fun r0 Y H locs hY G => ?_)
  obtain ⟨rfl, rfl⟩ := hY
  have G : gG D lay X (gA lay X s.heap.size) s.heap H locs := G
  refine lv_istore_n (lv' := [(3, .int (nI 15)), (2, .int (nI 10)), (0, .ref (lay kl)), (1, .int (nI 11))]) hC.1 hC.2.1 dJx4a65c_grow_92f84_30 rfl hl (by decide) rfl (fun ls hl => ?_)
  refine lv_aload_n hC.1 hC.2.1 dJx4a65c_grow_92f84_31 rfl (lv_at hl 2 rfl) ?_
  refine lv_aload_n hC.1 hC.2.1 dJx4a65c_grow_92f84_32 rfl (lv_at hl 2 rfl) ?_
  refine g_get hC hT.1 G hkl h1 k_AL i_gr0_L 1 (by decide) (wm 1 rfl) rfl dJx4a65c_grow_92f84_33 ?_
  refine lv_iload_n hC.1 hC.2.1 dJx4a65c_grow_92f84_36 rfl (lv_at hl 0 rfl) ?_
  refine k_r (f := fun Y => Y.1 kn) G hA (k_runS (As := [.ref (lay ke), .int (nI 15)]) (rest := [.ref (lay kl)]) hC hT hZ hA G (c_cp2 l D cy lay X ea mi hke hkn (by decide) (by decide) h2 h3 hel hc hqn _) (va_cwS 2 hC.2.2.2.2 gJx4a65c_grow_92f84_J7_copyOf_1904c rfl rfl rfl hdS_cp2 ⟨Nat.le_of_ble_eq_true rfl, Nat.le_of_ble_eq_true rfl⟩) rfl hl.1 rfl (Nat.le_of_ble_eq_true rfl) dJx4a65c_grow_92f84_37 ⟨Nat.le_of_ble_eq_true rfl, Nat.le_of_ble_eq_true rfl⟩) (fun Y H locs hY G => ?_)
  obtain ⟨q, rfl⟩ := hY
  have G : gG D (gU lay kn q) (gU X kn (some (.inl (cy 7, 15, rfS (va_cpy f (fun _ => none) 0 0 10))))) (gA lay X s.heap.size) s.heap H locs := G
  have e0 : gU lay kn q kn = q := gU_eq
  have G1 : gG D (gU lay ke q) (gU X ke (some (.inl (cy 7, 15, rfS (va_cpy f (fun _ => none) 0 0 10))))) (gA lay X s.heap.size) s.heap H locs := gG_move (ke := ke) hkn gU_eq (gU_eq.trans e0.symm) (fun i a b => (gU_ne a).trans (gU_ne b).symm) gU_eq ((gU_ne (Ne.symm hnk)).trans h3) (fun i a b => (gU_ne a).trans (gU_ne b).symm) G
  have e1 : gU lay ke q kl = lay kl := gU_ne hne
  dsimp only
  rw [e0]
  refine lv_dup_x1 hC.1 hC.2.1 dJx4a65c_grow_92f84_40 rfl rfl ?_
  refine g_putA (a := lay kl) e1 hC hT.1 G1 hkl ((gU_ne hne).trans h1) k_AL i_gr0_L 1 (by decide) (wm 1 rfl) rfl rfl rfl (by simp) dJx4a65c_grow_92f84_41 (fun H locs G => ?_)
  have G : gG D (gU lay ke q) (gU (gU X ke (some (.inl (cy 7, 15, rfS (va_cpy f (fun _ => none) 0 0 10))))) kl (some (.inr (4, [.int mo, .ref q, .int (nI 10)])))) (gA lay X s.heap.size) s.heap H locs := G
  exact W.aret (v := .ref q) hC.1 hC.2.1 hr (Or.inr ⟨_, rfl⟩) (Or.inr ⟨_, rfl⟩) (fun t ht hW => ⟨⟨_, q, rfl, ⟨q, rfl⟩, gU_eq.symm, by rw [ht]; exact G.1, G.2.1⟩, G.2.2.F ht⟩) G.2.2.2.2 dJx4a65c_grow_92f84_44 hlocks
set_option maxHeartbeats 4000000 in
set_option maxRecDepth 100000 in
theorem c_gC1 (l : Launch) (D : va_G) (cy : Nat → ClassId) (lay : Nat → Nat) (X : Nat → Option va_E) (ea mi : Nat) {kl ke kn ci qn : Nat} {r : vw_C} {f : Nat → Option Nat} (hkl : kl < 128) (hke : ke < 128) (hkn : kn < 128) (hne : kl ≠ ke) {mo : Int32} (h1 : X kl = some (.inr (4, [.int mo, .ref (lay ke), .int (nI 10)]))) (h2 : X ke = some (.inl (cy 7, 10, rfS f))) (h3 : X kn = none) (hel : ∀ i y, i < 10 → f i = some y → ∃ kv vs, kv < 128 ∧ X kv = some (.inr (ci, vs)) ∧ lay kv = y) (hc : vwCl[ci]? = some r) (hqn : nestR[qn]? = some (.castable r.1 "java/lang/Object")) (sz : Nat) : Met l yJx4a65c_grow_d5877 wsJx4a65c_grow_d5877 rm_gC1 (va_Pc [.ref (lay kl)] (hK D cy lay X ea mi sz)) (va_Qr (S := GY) (fun Y => ∃ q, Y = (gU lay ke q, gU (gU X ke (some (.inl (cy 7, 15, rfS (va_cpy f (fun _ => none) 0 0 10))))) kl (some (.inr (4, [.int mo, .ref q, .int (nI 10)]))))) (fun Y a t => a = Y.1 ke ∧ gO D (gA lay X sz) Y t) (gA lay X sz)) 1 15 (gA lay X sz) := by
  refine k_ofW (cc := cJx4a65c_grow_d5877) (maxL := 1) (ret := some (.array (.object "java/lang/Object"))) (own := RJx4a65c) (Qc := fun sz => (va_Qr (S := GY) (fun Y => ∃ q, Y = (gU lay ke q, gU (gU X ke (some (.inl (cy 7, 15, rfS (va_cpy f (fun _ => none) 0 0 10))))) kl (some (.inr (4, [.int mo, .ref q, .int (nI 10)]))))) (fun Y a t => a = Y.1 ke ∧ gO D (gA lay X sz) Y t) (gA lay X sz))) (by decide) rfl (Nat.le_of_ble_eq_true rfl) rfl ?_
  intro p e0 s m args below meth c ls hC hr hlocks hname hT hZ G hl
  have hl : lv_has ls 1 [(0, .ref (lay kl))] := hl
  have hA : ∀ q, s.heap.size ≤ q → gA lay X s.heap.size q := fun _ h => Or.inr h
  refine lv_aload_n hC.1 hC.2.1 dJx4a65c_grow_d5877_0 rfl (lv_at hl 0 rfl) ?_
  refine lv_aload_n hC.1 hC.2.1 dJx4a65c_grow_d5877_1 rfl (lv_at hl 0 rfl) ?_
  refine g_get hC hT.1 G hkl h1 k_AL i_gr1_L 2 (by decide) (wm 1 rfl) rfl dJx4a65c_grow_d5877_2 ?_
  refine lv_iconst (v := 1) hC.1 hC.2.1 dJx4a65c_grow_d5877_5 (by decide) ?_
  refine lv_iadd hC.1 hC.2.1 dJx4a65c_grow_d5877_6 ?_
  rw [show nI 10 + 1 = nI 11 from by decide +kernel]
  refine k_r (f := fun Y => Y.1 ke) G hA (k_runV (As := [.int (nI 11)]) (rest := []) hC hT hZ hA G (c_gC0 l D cy lay X ea mi hkl hke hkn hne h1 h2 h3 hel hc hqn _) (cwV 1 hC.2.2.2.2 gJx4a65c_grow_d5877_Jx4a65c_grow_92f84 rfl rfl rfl hdV_gr0 ⟨Nat.le_of_ble_eq_true rfl, Nat.le_of_ble_eq_true rfl⟩) (h_recv hT G hkl h1 k_AL) rfl hl.1 rfl (Nat.le_of_ble_eq_true rfl) dJx4a65c_grow_d5877_7 ⟨Nat.le_of_ble_eq_true rfl, Nat.le_of_ble_eq_true rfl⟩) (fun Y H locs hY G => ?_)
  obtain ⟨q, rfl⟩ := hY
  exact W.aret (v := .ref (gU lay ke q ke)) hC.1 hC.2.1 hr (Or.inr ⟨_, rfl⟩) (Or.inr ⟨_, rfl⟩) (fun t ht hW => ⟨⟨_, gU lay ke q ke, rfl, ⟨q, rfl⟩, rfl, by rw [ht]; exact G.1, G.2.1⟩, G.2.2.F ht⟩) G.2.2.2.2 dJx4a65c_grow_d5877_10 hlocks
set_option maxHeartbeats 4000000 in
set_option maxRecDepth 100000 in
theorem c_aC3 (l : Launch) (D : va_G) (cy : Nat → ClassId) (lay : Nat → Nat) (X : Nat → Option va_E) (ea mi : Nat) {kl ke kn ci qn : Nat} {r : vw_C} {f : Nat → Option Nat} (hkl : kl < 128) (hke : ke < 128) (hkn : kn < 128) (hne : kl ≠ ke) {mo : Int32} (h1 : X kl = some (.inr (4, [.int mo, .ref (lay ke), .int (nI 10)]))) (h2 : X ke = some (.inl (cy 7, 10, rfS f))) (h3 : X kn = none) (hel : ∀ i y, i < 10 → f i = some y → ∃ kv vs, kv < 128 ∧ X kv = some (.inr (ci, vs)) ∧ lay kv = y) (hc : vwCl[ci]? = some r) (hqn : nestR[qn]? = some (.castable r.1 "java/lang/Object")) {kv : Nat} {vs : List Value} (hkv : kv < 128) (hne2 : kv ≠ ke) (hne3 : kv ≠ kl) (h4 : X kv = some (.inr (ci, vs))) (sz : Nat) : Met l yJx4a65c_add_72be8 wsJx4a65c_add_72be8 rm_aC3 (va_Pc [.ref (lay kl), .ref (lay kv), .ref (lay ke), .int (nI 10)] (hK D cy lay X ea mi sz)) (va_Qv (fun Y : GY => ∃ q, Y = (gU lay ke q, adX cy X kl ke mo q 15 10 (va_cpy f (fun _ => none) 0 0 10) (lay kv))) (gO D (gA lay X sz)) (gA lay X sz)) 1 15 (gA lay X sz) := by
  refine k_ofW (cc := cJx4a65c_add_72be8) (maxL := 4) (ret := none) (own := RJx4a65c) (Qc := fun sz => (va_Qv (fun Y : GY => ∃ q, Y = (gU lay ke q, adX cy X kl ke mo q 15 10 (va_cpy f (fun _ => none) 0 0 10) (lay kv))) (gO D (gA lay X sz)) (gA lay X sz))) (by decide) rfl (Nat.le_of_ble_eq_true rfl) rfl ?_
  intro p e0 s m args below meth c ls hC hr hlocks hname hT hZ G hl
  have hl : lv_has ls 4 [(0, .ref (lay kl)), (1, .ref (lay kv)), (2, .ref (lay ke)), (3, .int (nI 10))] := hl
  have hA : ∀ q, s.heap.size ≤ q → gA lay X s.heap.size q := fun _ h => Or.inr h
  refine lv_iload_n hC.1 hC.2.1 dJx4a65c_add_72be8_0 rfl (lv_at hl 3 rfl) ?_
  refine lv_aload_n hC.1 hC.2.1 dJx4a65c_add_72be8_1 rfl (lv_at hl 2 rfl) ?_
  obtain ⟨q0, hq0⟩ := gW_pos (lay := lay) hke h2
  refine va_alen (v := nI 10) hC.1 hC.2.1 hT.1 (gP_list G.1) q0 7 hq0 rfl rfl dJx4a65c_add_72be8_2 ?_
  refine lv_icmp_ne (tgt := 11) hC.1 hC.2.1 dJx4a65c_add_72be8_3 (by decide) (fun c1 => absurd rfl c1) (fun _ => ?_)
  refine lv_aload_n hC.1 hC.2.1 dJx4a65c_add_72be8_6 rfl (lv_at hl 0 rfl) ?_
  refine k_r (f := fun Y => Y.1 ke) G hA (k_runV (As := []) (rest := []) hC hT hZ hA G (c_gC1 l D cy lay X ea mi hkl hke hkn hne h1 h2 h3 hel hc hqn _) (cwV 0 hC.2.2.2.2 gJx4a65c_add_72be8_Jx4a65c_grow_d5877 rfl rfl rfl hdV_gr1 ⟨Nat.le_of_ble_eq_true rfl, Nat.le_of_ble_eq_true rfl⟩) (h_recv hT G hkl h1 k_AL) rfl hl.1 rfl (Nat.le_of_ble_eq_true rfl) dJx4a65c_add_72be8_7 ⟨Nat.le_of_ble_eq_true rfl, Nat.le_of_ble_eq_true rfl⟩) (fun Y H locs hY G => ?_)
  obtain ⟨q, rfl⟩ := hY
  have G : gG D (gU lay ke q) (gU (gU X ke (some (.inl (cy 7, 15, rfS (va_cpy f (fun _ => none) 0 0 10))))) kl (some (.inr (4, [.int mo, .ref q, .int (nI 10)])))) (gA lay X s.heap.size) s.heap H locs := G
  have e1 : gU lay ke q kl = lay kl := gU_ne hne
  have e2 : gU lay ke q kv = lay kv := gU_ne hne2
  have e3 : gU lay ke q ke = q := gU_eq
  refine lv_astore_n (lv' := [(2, .ref q), (0, .ref (lay kl)), (1, .ref (lay kv)), (3, .int (nI 10))]) hC.1 hC.2.1 dJx4a65c_add_72be8_10 rfl hl (by decide) (by show (2, Value.ref (gU lay ke q ke)) :: _ = _; rw [e3]; rfl) (fun ls hl => ?_)
  refine lv_aload_n hC.1 hC.2.1 dJx4a65c_add_72be8_11 rfl (lv_at hl 0 rfl) ?_
  refine lv_iload_n hC.1 hC.2.1 dJx4a65c_add_72be8_12 rfl (lv_at hl 3 rfl) ?_
  refine lv_aload_n hC.1 hC.2.1 dJx4a65c_add_72be8_13 rfl (lv_at hl 2 rfl) ?_
  refine g_astoA e3 e2 hC hT.1 G hke hkv ci ((gU_ne (Ne.symm hne)).trans gU_eq) (hT.2.1 _ (wm qn hqn)) ((gU_ne hne3).trans ((gU_ne hne2).trans h4)) hc (show vp_in (nI 10) 15 from vp_in_nI (by decide) (by decide)) dJx4a65c_add_72be8_14 (fun H locs G => ?_)
  refine lv_aload_n hC.1 hC.2.1 dJx4a65c_add_72be8_15 rfl (lv_at hl 1 rfl) ?_
  refine lv_iload_n hC.1 hC.2.1 dJx4a65c_add_72be8_16 rfl (lv_at hl 3 rfl) ?_
  refine lv_iconst (v := 1) hC.1 hC.2.1 dJx4a65c_add_72be8_17 (by decide) ?_
  refine lv_iadd hC.1 hC.2.1 dJx4a65c_add_72be8_18 ?_
  rw [nI_1, nI_clamp (n := 10) (by decide)] at *
  refine g_putA (a := lay kl) e1 hC hT.1 G hkl ((gU_ne hne).trans gU_eq) k_AL i_ad3_L 2 (by decide) (wm 1 rfl) rfl rfl rfl (by simp) dJx4a65c_add_72be8_19 (fun H locs G => ?_)
  have G : gG D (gU lay ke q) (adX cy X kl ke mo q 15 10 (va_cpy f (fun _ => none) 0 0 10) (lay kv)) (gA lay X s.heap.size) s.heap H locs := by
    unfold adX
    rw [← gU4 (a := (some (.inl (cy 7, 15, rfS (va_cpy f (fun _ => none) 0 0 10))))) (b := (some (.inr (4, [.int mo, .ref q, .int (nI 10)]))))]
    exact G
  exact g_vret (Y := (gU lay ke q, adX cy X kl ke mo q 15 10 (va_cpy f (fun _ => none) 0 0 10) (lay kv))) hC hr hlocks G ⟨q, rfl⟩ dJx4a65c_add_72be8_22
set_option maxHeartbeats 4000000 in
set_option maxRecDepth 100000 in
theorem c_adC (l : Launch) (D : va_G) (cy : Nat → ClassId) (lay : Nat → Nat) (X : Nat → Option va_E) (ea mi : Nat) {kl ke kn ci qn : Nat} {r : vw_C} {f : Nat → Option Nat} (hkl : kl < 128) (hke : ke < 128) (hkn : kn < 128) (hne : kl ≠ ke) {mo : Int32} (h1 : X kl = some (.inr (4, [.int mo, .ref (lay ke), .int (nI 10)]))) (h2 : X ke = some (.inl (cy 7, 10, rfS f))) (h3 : X kn = none) (hel : ∀ i y, i < 10 → f i = some y → ∃ kv vs, kv < 128 ∧ X kv = some (.inr (ci, vs)) ∧ lay kv = y) (hc : vwCl[ci]? = some r) (hqn : nestR[qn]? = some (.castable r.1 "java/lang/Object")) {kv : Nat} {vs : List Value} (hkv : kv < 128) (hne2 : kv ≠ ke) (hne3 : kv ≠ kl) (h4 : X kv = some (.inr (ci, vs))) (sz : Nat) : Met l yJx4a65c_add_9ea2d wsJx4a65c_add_9ea2d rm_adC (va_Pc [.ref (lay kl), .ref (lay kv)] (hK D cy lay X ea mi sz)) (va_Qi (fun x (Y : GY) => x = 1 ∧ ∃ q, Y = (gU lay ke q, adX cy X kl ke (mo + 1) q 15 10 (va_cpy f (fun _ => none) 0 0 10) (lay kv))) (gO D (gA lay X sz)) (gA lay X sz)) 1 15 (gA lay X sz) := by
  refine k_ofW (cc := cJx4a65c_add_9ea2d) (maxL := 2) (ret := some .boolean) (own := RJx4a65c) (Qc := fun sz => (va_Qi (fun x (Y : GY) => x = 1 ∧ ∃ q, Y = (gU lay ke q, adX cy X kl ke (mo + 1) q 15 10 (va_cpy f (fun _ => none) 0 0 10) (lay kv))) (gO D (gA lay X sz)) (gA lay X sz))) (by decide) rfl (Nat.le_of_ble_eq_true rfl) rfl ?_
  intro p e0 s m args below meth c ls hC hr hlocks hname hT hZ G hl
  have hl : lv_has ls 2 [(0, .ref (lay kl)), (1, .ref (lay kv))] := hl
  have hA : ∀ q, s.heap.size ≤ q → gA lay X s.heap.size q := fun _ h => Or.inr h
  have hnl : kn ≠ kl := fun z => by rw [← z, h3] at h1; cases h1
  refine lv_aload_n hC.1 hC.2.1 dJx4a65c_add_9ea2d_0 rfl (lv_at hl 0 rfl) ?_
  refine lv_dup hC.1 hC.2.1 dJx4a65c_add_9ea2d_1 rfl ?_
  refine g_getS hC hT.1 G hkl h1 k_AL i_add_L 0 (by decide) (wm 1 rfl) (wm 2 rfl) rfl dJx4a65c_add_9ea2d_2 ?_
  refine lv_iconst (v := 1) hC.1 hC.2.1 dJx4a65c_add_9ea2d_5 (by decide) ?_
  refine lv_iadd hC.1 hC.2.1 dJx4a65c_add_9ea2d_6 ?_
  refine g_putS hC hT.1 G hkl h1 k_AL i_add_L 0 (by decide) (wm 1 rfl) (wm 2 rfl) rfl rfl rfl (by simp) dJx4a65c_add_9ea2d_7 (fun H locs G => ?_)
  have G : gG D lay (gU X kl (some (.inr (4, [.int (mo + 1), .ref (lay ke), .int (nI 10)])))) (gA lay X s.heap.size) s.heap H locs := G
  refine lv_aload_n hC.1 hC.2.1 dJx4a65c_add_9ea2d_10 rfl (lv_at hl 0 rfl) ?_
  refine lv_aload_n hC.1 hC.2.1 dJx4a65c_add_9ea2d_11 rfl (lv_at hl 1 rfl) ?_
  refine lv_aload_n hC.1 hC.2.1 dJx4a65c_add_9ea2d_12 rfl (lv_at hl 0 rfl) ?_
  refine g_get hC hT.1 G hkl gU_eq k_AL i_add_L 1 (by decide) (wm 3 rfl) rfl dJx4a65c_add_9ea2d_13 ?_
  refine lv_aload_n hC.1 hC.2.1 dJx4a65c_add_9ea2d_16 rfl (lv_at hl 0 rfl) ?_
  refine g_get hC hT.1 G hkl gU_eq k_AL i_add_L 2 (by decide) (wm 4 rfl) rfl dJx4a65c_add_9ea2d_17 ?_
  have hel' : ∀ i y, i < 10 → f i = some y → ∃ kv vs, kv < 128 ∧ (gU X kl (some (.inr (4, [.int (mo + 1), .ref (lay ke), .int (nI 10)])))) kv = some (.inr (ci, vs)) ∧ lay kv = y := fun i y hi hy => by
    obtain ⟨k1, vs1, a1, a2, a3⟩ := hel i y hi hy
    by_cases hk : k1 = kl
    · subst hk
      rw [h1] at a2
      cases a2
      exact ⟨k1, _, a1, gU_eq, a3⟩
    · exact ⟨k1, vs1, a1, (gU_ne hk).trans a2, a3⟩
  refine g_v G hA (k_runV (As := [.ref (lay kv), .ref (lay ke), .int (nI 10)]) (rest := []) hC hT hZ hA G (c_aC3 l D cy lay (gU X kl (some (.inr (4, [.int (mo + 1), .ref (lay ke), .int (nI 10)])))) ea mi hkl hke hkn hne gU_eq ((gU_ne (Ne.symm hne)).trans h2) ((gU_ne hnl).trans h3) hel' hc hqn hkv hne2 hne3 ((gU_ne hne3).trans h4) _) (cwV 3 hC.2.2.2.2 gJx4a65c_add_9ea2d_Jx4a65c_add_72be8 rfl rfl rfl hdV_ad3 ⟨Nat.le_of_ble_eq_true rfl, Nat.le_of_ble_eq_true rfl⟩) (h_recv hT G hkl gU_eq k_AL) rfl hl.1 rfl (Nat.le_of_ble_eq_true rfl) dJx4a65c_add_9ea2d_20 ⟨Nat.le_of_ble_eq_true rfl, Nat.le_of_ble_eq_true rfl⟩) (fun Y H locs hY G => ?_)
  obtain ⟨q, rfl⟩ := hY
  have G : gG D (gU lay ke q) (adX cy X kl ke (mo + 1) q 15 10 (va_cpy f (fun _ => none) 0 0 10) (lay kv)) (gA lay X s.heap.size) s.heap H locs := by
    have e : adX cy (gU X kl (some (.inr (4, [.int (mo + 1), .ref (lay ke), .int (nI 10)])))) kl ke (mo + 1) q 15 10 (va_cpy f (fun _ => none) 0 0 10) (lay kv) = adX cy X kl ke (mo + 1) q 15 10 (va_cpy f (fun _ => none) 0 0 10) (lay kv) := by
      unfold adX
      exact gU3
    rw [← e]
    exact G
  refine lv_iconst (v := 1) hC.1 hC.2.1 dJx4a65c_add_9ea2d_23 (by decide) ?_
  exact W.zret (v := 1) hC.1 hC.2.1 hr rfl (fun t ht hW => ⟨⟨1, (gU lay ke q, adX cy X kl ke (mo + 1) q 15 10 (va_cpy f (fun _ => none) 0 0 10) (lay kv)), rfl, ⟨rfl, q, rfl⟩, by rw [ht]; exact G.1, G.2.1⟩, G.2.2.F ht⟩) G.2.2.2.2 dJx4a65c_add_9ea2d_24 hlocks
