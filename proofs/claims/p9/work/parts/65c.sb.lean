/-! TEXTS: walks of StringBuilder, String (65c.sb) -/
set_option maxHeartbeats 4000000 in
set_option maxRecDepth 100000 in
/-- Integer.stringSize -/
theorem c_ssz (l : Launch) (D : va_G) (cy : Nat → ClassId) (lay : Nat → Nat) (X : Nat → Option va_E) {v : Nat} (hv : v < 1000) (sz : Nat) : Met l yJ6_stringSize_0f7a4 wsJ6_stringSize_0f7a4 (rmS 0 0 0) (va_Pc [.int (nI v)] (sI D cy none lay X sz)) (va_Qi (fun (r : Int32) (Y : GY) => r = nI (dg v) ∧ Y = (lay, X)) (gO D (gA lay X sz)) (gA lay X sz)) 0 0 (gA lay X sz) := by
  refine s_ofW (cc := cJ6_stringSize_0f7a4) (maxL := 4) (ret := (some .int)) (own := RJ6) (Qc := fun sz => va_Qi (fun (r : Int32) (Y : GY) => r = nI (dg v) ∧ Y = (lay, X)) (gO D (gA lay X sz)) (gA lay X sz)) (by decide) rfl (Nat.le_of_ble_eq_true rfl) rfl ?_
  intro p e0 s m9 args below meth c ls hC hr hlocks hname hT hX G hl
  have hl : lv_has ls 4 [(0, .int (nI v))] := hl
  have hA : ∀ q, s.heap.size ≤ q → gA lay X s.heap.size q := fun _ h => Or.inr h
  refine lv_iconst (v := 1) hC.1 hC.2.1 dJ6_stringSize_0f7a4_0 (by decide) ?_
  refine lv_istore_n (lv' := [(1, .int 1), (0, .int (nI v))]) hC.1 hC.2.1 dJ6_stringSize_0f7a4_1 rfl hl (by decide) rfl (fun ls hl => ?_)
  refine lv_iload_n hC.1 hC.2.1 dJ6_stringSize_0f7a4_2 rfl (lv_at hl 1 rfl) ?_
  refine lv_if_lt (tgt := 11) hC.1 hC.2.1 dJ6_stringSize_0f7a4_3 (by decide) (fun c1 => absurd c1 (nI_pos (by omega))) (fun _ => ?_)
  refine lv_iconst (v := 0) hC.1 hC.2.1 dJ6_stringSize_0f7a4_6 (by decide) ?_
  refine lv_istore_n (lv' := [(1, .int 0), (0, .int (nI v))]) hC.1 hC.2.1 dJ6_stringSize_0f7a4_7 rfl hl (by decide) rfl (fun ls hl => ?_)
  refine lv_iload_n hC.1 hC.2.1 dJ6_stringSize_0f7a4_8 rfl (lv_at hl 1 rfl) ?_
  refine lv_ineg hC.1 hC.2.1 dJ6_stringSize_0f7a4_9 ?_
  refine lv_istore_n (lv' := [(0, .int (-(nI v))), (1, .int 0)]) hC.1 hC.2.1 dJ6_stringSize_0f7a4_10 rfl hl (by decide) rfl (fun ls hl => ?_)
  refine lv_bipush (v := (-10)) hC.1 hC.2.1 dJ6_stringSize_0f7a4_11 (by decide) ?_
  refine lv_istore_n (lv' := [(2, .int (-10)), (0, .int (-(nI v))), (1, .int 0)]) hC.1 hC.2.1 dJ6_stringSize_0f7a4_13 rfl hl (by decide) rfl (fun ls hl => ?_)
  refine lv_iconst (v := 1) hC.1 hC.2.1 dJ6_stringSize_0f7a4_14 (by decide) ?_
  refine lv_istore_n (lv' := [(3, .int 1), (2, .int (-10)), (0, .int (-(nI v))), (1, .int 0)]) hC.1 hC.2.1 dJ6_stringSize_0f7a4_15 rfl hl (by decide) rfl (fun ls hl => ?_)
  refine lv_iload_n hC.1 hC.2.1 dJ6_stringSize_0f7a4_16 rfl (lv_at hl 0 rfl) ?_
  refine lv_bipush (v := 10) hC.1 hC.2.1 dJ6_stringSize_0f7a4_17 (by decide) ?_
  refine lv_icmp_ge (tgt := 42) hC.1 hC.2.1 dJ6_stringSize_0f7a4_19 (by decide) (fun c1 => absurd c1 (by decide)) (fun _ => ?_)
  refine lv_iload_n hC.1 hC.2.1 dJ6_stringSize_0f7a4_22 rfl (lv_at hl 2 rfl) ?_
  refine lv_iload_n hC.1 hC.2.1 dJ6_stringSize_0f7a4_23 rfl (lv_at hl 1 rfl) ?_
  refine lv_icmp_le (tgt := 31) hC.1 hC.2.1 dJ6_stringSize_0f7a4_24 (by decide) (fun c1 => ?_) (fun c1 => ?_)
  rotate_left
  · skip
    have hlt : v < 10 := Nat.lt_of_not_le fun q => c1 ((ng_le (a := v) (b := 10) (by omega) (by decide)).mpr q)
    have hd : nI 1 + 0 = nI (dg v) := by
      rw [show dg v = 1 from by unfold dg; split <;> (try split) <;> omega]
      rfl
    refine lv_iload_n hC.1 hC.2.1 dJ6_stringSize_0f7a4_27 rfl (lv_at hl 0 rfl) ?_
    refine lv_iload_n hC.1 hC.2.1 dJ6_stringSize_0f7a4_28 rfl (lv_at hl 3 rfl) ?_
    refine lv_iadd hC.1 hC.2.1 dJ6_stringSize_0f7a4_29 ?_
    rw [show (1 : Int32) + 0 = nI (dg v) from hd]
    exact W.iret (v := nI (dg v)) hC.1 hC.2.1 hr (fun t ht hW => ⟨⟨nI (dg v), (lay, X), rfl, ⟨rfl, rfl⟩, by rw [ht]; exact G.1, G.2.1⟩, G.2.2.F ht⟩) G.2.2.2.2 dJ6_stringSize_0f7a4_30 hlocks
  have hge1 : 10 ≤ v := (ng_le (a := v) (b := 10) (by omega) (by decide)).mp c1
  refine lv_bipush (v := 10) hC.1 hC.2.1 dJ6_stringSize_0f7a4_31 (by decide) ?_
  refine lv_iload_n hC.1 hC.2.1 dJ6_stringSize_0f7a4_33 rfl (lv_at hl 1 rfl) ?_
  refine lv_imul hC.1 hC.2.1 dJ6_stringSize_0f7a4_34 ?_
  rw [show (10 : Int32) * (-10) = -100 from by decide]
  refine lv_istore_n (lv' := [(2, .int (-100)), (3, .int 1), (0, .int (-(nI v))), (1, .int 0)]) hC.1 hC.2.1 dJ6_stringSize_0f7a4_35 rfl hl (by decide) rfl (fun ls hl => ?_)
  refine lv_iinc (k := 1) (v := 2) (lv' := [(3, .int 2), (2, .int (-100)), (0, .int (-(nI v))), (1, .int 0)]) hC.1 hC.2.1 dJ6_stringSize_0f7a4_36 hl rfl (by decide) (by decide) rfl (fun ls hl => ?_)
  refine lv_goto (tgt := 16) hC.1 hC.2.1 dJ6_stringSize_0f7a4_39 (by decide) ?_
  refine lv_iload_n hC.1 hC.2.1 dJ6_stringSize_0f7a4_16 rfl (lv_at hl 0 rfl) ?_
  refine lv_bipush (v := 10) hC.1 hC.2.1 dJ6_stringSize_0f7a4_17 (by decide) ?_
  refine lv_icmp_ge (tgt := 42) hC.1 hC.2.1 dJ6_stringSize_0f7a4_19 (by decide) (fun c1 => absurd c1 (by decide)) (fun _ => ?_)
  refine lv_iload_n hC.1 hC.2.1 dJ6_stringSize_0f7a4_22 rfl (lv_at hl 2 rfl) ?_
  refine lv_iload_n hC.1 hC.2.1 dJ6_stringSize_0f7a4_23 rfl (lv_at hl 1 rfl) ?_
  refine lv_icmp_le (tgt := 31) hC.1 hC.2.1 dJ6_stringSize_0f7a4_24 (by decide) (fun c1 => ?_) (fun c1 => ?_)
  rotate_left
  · skip
    have hlt : v < 100 := Nat.lt_of_not_le fun q => c1 ((ng_le (a := v) (b := 100) (by omega) (by decide)).mpr q)
    have hd : nI 2 + 0 = nI (dg v) := by
      rw [show dg v = 2 from by unfold dg; split <;> (try split) <;> omega]
      rfl
    refine lv_iload_n hC.1 hC.2.1 dJ6_stringSize_0f7a4_27 rfl (lv_at hl 0 rfl) ?_
    refine lv_iload_n hC.1 hC.2.1 dJ6_stringSize_0f7a4_28 rfl (lv_at hl 3 rfl) ?_
    refine lv_iadd hC.1 hC.2.1 dJ6_stringSize_0f7a4_29 ?_
    rw [show (2 : Int32) + 0 = nI (dg v) from hd]
    exact W.iret (v := nI (dg v)) hC.1 hC.2.1 hr (fun t ht hW => ⟨⟨nI (dg v), (lay, X), rfl, ⟨rfl, rfl⟩, by rw [ht]; exact G.1, G.2.1⟩, G.2.2.F ht⟩) G.2.2.2.2 dJ6_stringSize_0f7a4_30 hlocks
  have hge2 : 100 ≤ v := (ng_le (a := v) (b := 100) (by omega) (by decide)).mp c1
  refine lv_bipush (v := 10) hC.1 hC.2.1 dJ6_stringSize_0f7a4_31 (by decide) ?_
  refine lv_iload_n hC.1 hC.2.1 dJ6_stringSize_0f7a4_33 rfl (lv_at hl 1 rfl) ?_
  refine lv_imul hC.1 hC.2.1 dJ6_stringSize_0f7a4_34 ?_
  rw [show (10 : Int32) * (-100) = -1000 from by decide]
  refine lv_istore_n (lv' := [(2, .int (-1000)), (3, .int 2), (0, .int (-(nI v))), (1, .int 0)]) hC.1 hC.2.1 dJ6_stringSize_0f7a4_35 rfl hl (by decide) rfl (fun ls hl => ?_)
  refine lv_iinc (k := 1) (v := 3) (lv' := [(3, .int 3), (2, .int (-1000)), (0, .int (-(nI v))), (1, .int 0)]) hC.1 hC.2.1 dJ6_stringSize_0f7a4_36 hl rfl (by decide) (by decide) rfl (fun ls hl => ?_)
  refine lv_goto (tgt := 16) hC.1 hC.2.1 dJ6_stringSize_0f7a4_39 (by decide) ?_
  refine lv_iload_n hC.1 hC.2.1 dJ6_stringSize_0f7a4_16 rfl (lv_at hl 0 rfl) ?_
  refine lv_bipush (v := 10) hC.1 hC.2.1 dJ6_stringSize_0f7a4_17 (by decide) ?_
  refine lv_icmp_ge (tgt := 42) hC.1 hC.2.1 dJ6_stringSize_0f7a4_19 (by decide) (fun c1 => absurd c1 (by decide)) (fun _ => ?_)
  refine lv_iload_n hC.1 hC.2.1 dJ6_stringSize_0f7a4_22 rfl (lv_at hl 2 rfl) ?_
  refine lv_iload_n hC.1 hC.2.1 dJ6_stringSize_0f7a4_23 rfl (lv_at hl 1 rfl) ?_
  refine lv_icmp_le (tgt := 31) hC.1 hC.2.1 dJ6_stringSize_0f7a4_24 (by decide) (fun c1 => absurd ((ng_le (a := v) (b := 1000) (by omega) (by decide)).mp c1) (by omega)) (fun c1 => ?_)
  have hge : 100 ≤ v := hge2
  have hd : nI 3 + 0 = nI (dg v) := by
    rw [show dg v = 3 from by unfold dg; split <;> (try split) <;> omega]
    rfl
  refine lv_iload_n hC.1 hC.2.1 dJ6_stringSize_0f7a4_27 rfl (lv_at hl 0 rfl) ?_
  refine lv_iload_n hC.1 hC.2.1 dJ6_stringSize_0f7a4_28 rfl (lv_at hl 3 rfl) ?_
  refine lv_iadd hC.1 hC.2.1 dJ6_stringSize_0f7a4_29 ?_
  rw [show (3 : Int32) + 0 = nI (dg v) from hd]
  exact W.iret (v := nI (dg v)) hC.1 hC.2.1 hr (fun t ht hW => ⟨⟨nI (dg v), (lay, X), rfl, ⟨rfl, rfl⟩, by rw [ht]; exact G.1, G.2.1⟩, G.2.2.F ht⟩) G.2.2.2.2 dJ6_stringSize_0f7a4_30 hlocks
set_option maxHeartbeats 4000000 in
set_option maxRecDepth 100000 in
theorem l_gc_72 {p : Program} {l : Launch} {e : Env} {s : State} {m0 : MethodId} {args : Array Value} {below : List Frame} {meth : Method} {c : Code} {D : va_G} {cy : Nat → ClassId} {lay : Nat → Nat} {X : Nat → Option va_E} {kb m : Nat} (hC : CallFix p m0 c cJ6_getChars_ba4f3 7 s args wsJ6_getChars_ba4f3 RJ6) (hr : meth.sig.returnType = some .int) (hlocks : meth.locks = false) (hT : tB D cy (gA lay X s.heap.size) s s.heap) (hkb : kb < 128) (hm : m < 100) :
    ∀ (u pp : Nat) (b : Nat → Int32) (H : Heap) (locs : List Loc) (ls : Array Slot), u < 100 → (if u < 10 then 1 else 2) ≤ pp → pp ≤ m → sb_Fit b → gG D lay (gU X kb (some (bsE cy m b))) (gA lay X s.heap.size) s.heap H locs → lv_has ls 7 [(5, .int (nI pp)), (0, .int (-(nI u))), (6, .int 0), (2, .ref (lay kb))] →
      W p l e (rmS 0 0 0) s m0 args below meth c H locs 0 0 (MQ below (va_Qi (fun (r : Int32) (Y : GY) => ∃ a', sb_Fit a' ∧ Y = (lay, gU X kb (some (bsE cy m a')))) (gO D (gA lay X s.heap.size)) (gA lay X s.heap.size)) args s 0 0 (gA lay X s.heap.size)) (F0 m0 72 ls []) := by
  intro u pp b H locs ls hu hpp hpm hb G hl
  have hp1 : 1 ≤ pp := by
    split at hpp <;> omega
  obtain ⟨-, -, -, q1, q2, f1, f2, z1, t1, z2, t2⟩ := id hT
  refine lv_aload_n hC.1 hC.2.1 dJ6_getChars_ba4f3_72 rfl (lv_at hl 3 rfl) ?_
  refine lv_iinc (k := 0) (v := nI (pp - 1)) (lv' := [(5, .int (nI (pp - 1))), (0, .int (-(nI u))), (6, .int 0), (2, .ref (lay kb))]) hC.1 hC.2.1 dJ6_getChars_ba4f3_73 hl rfl (iinc_m1 (by omega)) (by decide) rfl (fun ls hl => ?_)
  refine lv_iload hC.1 hC.2.1 dJ6_getChars_ba4f3_76 (lv_at hl 0 rfl) ?_
  refine va_gets hC.1 hC.2.1 z1 G.2.2 hC.2.2.2.1 (hC.2.2.2.2 _ (wm 1 rfl)) (fun _ h => h) dJ6_getChars_ba4f3_78 ?_
  refine lv_iload_n hC.1 hC.2.1 dJ6_getChars_ba4f3_81 rfl (lv_at hl 1 rfl) ?_
  refine lv_ineg hC.1 hC.2.1 dJ6_getChars_ba4f3_82 ?_
  rw [ng_ng]
  refine va_tb hC.1 hC.2.1 t1 G.2.2 (show vp_in (nI u) 100 from vp_in_nI hu (by decide)) rfl dJ6_getChars_ba4f3_83 ?_
  refine g_bast hC hT.1 G hkb rfl gU_eq (show vp_in (nI (pp - 1)) m from vp_in_nI (by omega) (by omega)) dJ6_getChars_ba4f3_84 (fun H locs G => ?_)
  rw [gU_gU] at G
  refine lv_iload_n hC.1 hC.2.1 dJ6_getChars_ba4f3_85 rfl (lv_at hl 1 rfl) ?_
  refine lv_bipush (v := (-9)) hC.1 hC.2.1 dJ6_getChars_ba4f3_86 (by decide) ?_
  refine lv_icmp_ge (tgt := 104) hC.1 hC.2.1 dJ6_getChars_ba4f3_88 (by decide) (fun c1 => ?_) (fun c1 => ?_)
  · skip
    refine lv_iload hC.1 hC.2.1 dJ6_getChars_ba4f3_104 (lv_at hl 2 rfl) ?_
    refine lv_if_eq (tgt := 118) hC.1 hC.2.1 dJ6_getChars_ba4f3_106 (by decide) (fun _ => ?_) (fun c1 => absurd rfl c1)
    refine lv_iload hC.1 hC.2.1 dJ6_getChars_ba4f3_118 (lv_at hl 0 rfl) ?_
    exact W.iret (v := nI (pp - 1)) hC.1 hC.2.1 hr (fun t ht hW => ⟨⟨nI (pp - 1), (lay, gU X kb (some (bsE cy m (upd b (nI (pp - 1)).toNatClampNeg (vp_nar .byte (f1 (nI u).toNatClampNeg)))))), rfl, ⟨_, sb_fitU hb (pk_fb _), rfl⟩, by rw [ht]; exact G.1, G.2.1⟩, G.2.2.F ht⟩) G.2.2.2.2 dJ6_getChars_ba4f3_120 hlocks
  have hu10 : 10 ≤ u := by
    rcases Nat.lt_or_ge u 10 with q | q
    · exact absurd ((ng_le (a := 9) (b := u) (by decide) (by omega)).mpr (by omega)) c1
    · exact q
  rw [if_neg (by omega)] at hpp
  refine lv_aload_n hC.1 hC.2.1 dJ6_getChars_ba4f3_91 rfl (lv_at hl 3 rfl) ?_
  refine lv_iinc (k := 0) (v := nI (pp - 1 - 1)) (lv' := [(5, .int (nI (pp - 1 - 1))), (0, .int (-(nI u))), (6, .int 0), (2, .ref (lay kb))]) hC.1 hC.2.1 dJ6_getChars_ba4f3_92 hl rfl (iinc_m1 (by omega)) (by decide) rfl (fun ls hl => ?_)
  refine lv_iload hC.1 hC.2.1 dJ6_getChars_ba4f3_95 (lv_at hl 0 rfl) ?_
  refine va_gets hC.1 hC.2.1 z2 G.2.2 hC.2.2.2.1 (hC.2.2.2.2 _ (wm 2 rfl)) (fun _ h => h) dJ6_getChars_ba4f3_97 ?_
  refine lv_iload_n hC.1 hC.2.1 dJ6_getChars_ba4f3_100 rfl (lv_at hl 1 rfl) ?_
  refine lv_ineg hC.1 hC.2.1 dJ6_getChars_ba4f3_101 ?_
  rw [ng_ng]
  refine va_tb hC.1 hC.2.1 t2 G.2.2 (show vp_in (nI u) 100 from vp_in_nI hu (by decide)) rfl dJ6_getChars_ba4f3_102 ?_
  refine g_bast hC hT.1 G hkb rfl gU_eq (show vp_in (nI (pp - 1 - 1)) m from vp_in_nI (by omega) (by omega)) dJ6_getChars_ba4f3_103 (fun H locs G => ?_)
  rw [gU_gU] at G
  refine lv_iload hC.1 hC.2.1 dJ6_getChars_ba4f3_104 (lv_at hl 2 rfl) ?_
  refine lv_if_eq (tgt := 118) hC.1 hC.2.1 dJ6_getChars_ba4f3_106 (by decide) (fun _ => ?_) (fun c1 => absurd rfl c1)
  refine lv_iload hC.1 hC.2.1 dJ6_getChars_ba4f3_118 (lv_at hl 0 rfl) ?_
  exact W.iret (v := nI (pp - 1 - 1)) hC.1 hC.2.1 hr (fun t ht hW => ⟨⟨nI (pp - 1 - 1), (lay, gU X kb (some (bsE cy m (upd (upd b (nI (pp - 1)).toNatClampNeg (vp_nar .byte (f1 (nI u).toNatClampNeg))) (nI (pp - 1 - 1)).toNatClampNeg (vp_nar .byte (f2 (nI u).toNatClampNeg)))))), rfl, ⟨_, sb_fitU (sb_fitU hb (pk_fb _)) (pk_fb _), rfl⟩, by rw [ht]; exact G.1, G.2.1⟩, G.2.2.F ht⟩) G.2.2.2.2 dJ6_getChars_ba4f3_120 hlocks
set_option maxHeartbeats 4000000 in
set_option maxRecDepth 100000 in
/-- Integer.getChars -/
theorem c_gch (l : Launch) (D : va_G) (cy : Nat → ClassId) (lay : Nat → Nat) (X : Nat → Option va_E) {kb : Nat} (hkb : kb < 128) {m v pp : Nat} {a : Nat → Int32} (h2 : X kb = some (bsE cy m a)) (hf : sb_Fit a) (hm : m < 100) (hv : v < 1000) (hp : dg v ≤ pp) (hpm : pp ≤ m) (sz : Nat) : Met l yJ6_getChars_ba4f3 wsJ6_getChars_ba4f3 (rmS 0 0 0) (va_Pc [.int (nI v), .int (nI pp), .ref (lay kb)] (sI D cy none lay X sz)) (va_Qi (fun (r : Int32) (Y : GY) => ∃ a', sb_Fit a' ∧ Y = (lay, gU X kb (some (bsE cy m a')))) (gO D (gA lay X sz)) (gA lay X sz)) 0 0 (gA lay X sz) := by
  refine s_ofW (cc := cJ6_getChars_ba4f3) (maxL := 7) (ret := (some .int)) (own := RJ6) (Qc := fun sz => va_Qi (fun (r : Int32) (Y : GY) => ∃ a', sb_Fit a' ∧ Y = (lay, gU X kb (some (bsE cy m a')))) (gO D (gA lay X sz)) (gA lay X sz)) (by decide) rfl (Nat.le_of_ble_eq_true rfl) rfl ?_
  intro p e0 s m9 args below meth c ls hC hr hlocks hname hT hX G hl
  have hl : lv_has ls 7 [(0, .int (nI v)), (1, .int (nI pp)), (2, .ref (lay kb))] := hl
  have hA : ∀ q, s.heap.size ≤ q → gA lay X s.heap.size q := fun _ h => Or.inr h
  obtain ⟨-, -, -, q1, q2, f1, f2, z1, t1, z2, t2⟩ := id hT
  refine lv_iload_n hC.1 hC.2.1 dJ6_getChars_ba4f3_0 rfl (lv_at hl 1 rfl) ?_
  refine lv_istore (lv' := [(5, .int (nI pp)), (0, .int (nI v)), (1, .int (nI pp)), (2, .ref (lay kb))]) hC.1 hC.2.1 dJ6_getChars_ba4f3_1 hl (by decide) rfl (fun ls hl => ?_)
  refine lv_iload_n hC.1 hC.2.1 dJ6_getChars_ba4f3_3 rfl (lv_at hl 1 rfl) ?_
  refine lv_if_ge (tgt := 11) hC.1 hC.2.1 dJ6_getChars_ba4f3_4 (by decide) (fun _ => ?_) (fun c1 => absurd (show (0 : Int32) ≤ nI v from nI_le (a := 0) (by omega) (by omega)) c1)
  refine lv_iconst (v := 0) hC.1 hC.2.1 dJ6_getChars_ba4f3_11 (by decide) ?_
  refine lv_istore (lv' := [(6, .int 0), (5, .int (nI pp)), (0, .int (nI v)), (1, .int (nI pp)), (2, .ref (lay kb))]) hC.1 hC.2.1 dJ6_getChars_ba4f3_12 hl (by decide) rfl (fun ls hl => ?_)
  refine lv_iload hC.1 hC.2.1 dJ6_getChars_ba4f3_14 (lv_at hl 0 rfl) ?_
  refine lv_if_ne (tgt := 22) hC.1 hC.2.1 dJ6_getChars_ba4f3_16 (by decide) (fun c1 => absurd rfl c1) (fun _ => ?_)
  refine lv_iload_n hC.1 hC.2.1 dJ6_getChars_ba4f3_19 rfl (lv_at hl 2 rfl) ?_
  refine lv_ineg hC.1 hC.2.1 dJ6_getChars_ba4f3_20 ?_
  refine lv_istore_n (lv' := [(0, .int (-(nI v))), (6, .int 0), (5, .int (nI pp)), (1, .int (nI pp)), (2, .ref (lay kb))]) hC.1 hC.2.1 dJ6_getChars_ba4f3_21 rfl hl (by decide) rfl (fun ls hl => ?_)
  refine lv_iload_n hC.1 hC.2.1 dJ6_getChars_ba4f3_22 rfl (lv_at hl 0 rfl) ?_
  refine lv_bipush (v := (-100)) hC.1 hC.2.1 dJ6_getChars_ba4f3_23 (by decide) ?_
  have G : gG D lay (gU X kb (some (bsE cy m a))) (gA lay X s.heap.size) s.heap s.heap [] := by rw [gU_self h2]; exact G
  refine lv_icmp_gt (tgt := 72) hC.1 hC.2.1 dJ6_getChars_ba4f3_25 (by decide) (fun c1 => ?_) (fun c1 => ?_)
  · have hv100 : v < 100 := (ng_lt (a := 100) (b := v) (by decide) (by omega)).mp c1
    exact l_gc_72 hC hr hlocks hT hkb hm v pp a _ _ _ hv100 (by unfold dg at hp; split at hp <;> split <;> first | omega | (split at hp <;> omega)) hpm hf G (lv_sub hl [2, 0, 1, 4] rfl)
  have hv100 : 100 ≤ v := Nat.le_of_not_lt fun q => c1 ((ng_lt (a := 100) (b := v) (by decide) (by omega)).mpr q)
  have hp3 : 3 ≤ pp := by
    unfold dg at hp
    rw [if_neg (by omega), if_neg (by omega)] at hp
    exact hp
  refine lv_iload_n hC.1 hC.2.1 dJ6_getChars_ba4f3_28 rfl (lv_at hl 0 rfl) ?_
  refine lv_bipush (v := 100) hC.1 hC.2.1 dJ6_getChars_ba4f3_29 (by decide) ?_
  refine lv_idiv hC.1 hC.2.1 dJ6_getChars_ba4f3_31 (by decide) ?_
  rw [ng_d v hv]
  refine lv_istore_n (lv' := [(3, .int (-(nI (v / 100)))), (0, .int (-(nI v))), (6, .int 0), (5, .int (nI pp)), (1, .int (nI pp)), (2, .ref (lay kb))]) hC.1 hC.2.1 dJ6_getChars_ba4f3_32 rfl hl (by decide) rfl (fun ls hl => ?_)
  refine lv_iload_n hC.1 hC.2.1 dJ6_getChars_ba4f3_33 rfl (lv_at hl 0 rfl) ?_
  refine lv_bipush (v := 100) hC.1 hC.2.1 dJ6_getChars_ba4f3_34 (by decide) ?_
  refine lv_imul hC.1 hC.2.1 dJ6_getChars_ba4f3_36 ?_
  refine lv_iload_n hC.1 hC.2.1 dJ6_getChars_ba4f3_37 rfl (lv_at hl 1 rfl) ?_
  refine lv_isub hC.1 hC.2.1 dJ6_getChars_ba4f3_38 ?_
  rw [ng_r v hv]
  refine lv_istore (lv' := [(4, .int (nI (v % 100))), (3, .int (-(nI (v / 100)))), (0, .int (-(nI v))), (6, .int 0), (5, .int (nI pp)), (1, .int (nI pp)), (2, .ref (lay kb))]) hC.1 hC.2.1 dJ6_getChars_ba4f3_39 hl (by decide) rfl (fun ls hl => ?_)
  refine lv_iload_n hC.1 hC.2.1 dJ6_getChars_ba4f3_41 rfl (lv_at hl 1 rfl) ?_
  refine lv_istore_n (lv' := [(0, .int (-(nI (v / 100)))), (4, .int (nI (v % 100))), (3, .int (-(nI (v / 100)))), (6, .int 0), (5, .int (nI pp)), (1, .int (nI pp)), (2, .ref (lay kb))]) hC.1 hC.2.1 dJ6_getChars_ba4f3_42 rfl hl (by decide) rfl (fun ls hl => ?_)
  refine lv_aload_n hC.1 hC.2.1 dJ6_getChars_ba4f3_43 rfl (lv_at hl 6 rfl) ?_
  refine lv_iinc (k := 4) (v := nI (pp - 1)) (lv' := [(5, .int (nI (pp - 1))), (0, .int (-(nI (v / 100)))), (4, .int (nI (v % 100))), (3, .int (-(nI (v / 100)))), (6, .int 0), (1, .int (nI pp)), (2, .ref (lay kb))]) hC.1 hC.2.1 dJ6_getChars_ba4f3_44 hl rfl (iinc_m1 (by omega)) (by decide) rfl (fun ls hl => ?_)
  refine lv_iload hC.1 hC.2.1 dJ6_getChars_ba4f3_47 (lv_at hl 0 rfl) ?_
  refine va_gets hC.1 hC.2.1 z1 G.2.2 hC.2.2.2.1 (hC.2.2.2.2 _ (wm 1 rfl)) (fun _ h => h) dJ6_getChars_ba4f3_49 ?_
  refine lv_iload hC.1 hC.2.1 dJ6_getChars_ba4f3_52 (lv_at hl 2 rfl) ?_
  refine va_tb hC.1 hC.2.1 t1 G.2.2 (show vp_in (nI (v % 100)) 100 from vp_in_nI (by omega) (by decide)) rfl dJ6_getChars_ba4f3_54 ?_
  refine g_bast hC hT.1 G hkb rfl gU_eq (show vp_in (nI (pp - 1)) m from vp_in_nI (by omega) (by omega)) dJ6_getChars_ba4f3_55 (fun H locs G => ?_)
  rw [gU_gU] at G
  refine lv_aload_n hC.1 hC.2.1 dJ6_getChars_ba4f3_56 rfl (lv_at hl 6 rfl) ?_
  refine lv_iinc (k := 0) (v := nI (pp - 1 - 1)) (lv' := [(5, .int (nI (pp - 1 - 1))), (0, .int (-(nI (v / 100)))), (4, .int (nI (v % 100))), (3, .int (-(nI (v / 100)))), (6, .int 0), (1, .int (nI pp)), (2, .ref (lay kb))]) hC.1 hC.2.1 dJ6_getChars_ba4f3_57 hl rfl (iinc_m1 (by omega)) (by decide) rfl (fun ls hl => ?_)
  refine lv_iload hC.1 hC.2.1 dJ6_getChars_ba4f3_60 (lv_at hl 0 rfl) ?_
  refine va_gets hC.1 hC.2.1 z2 G.2.2 hC.2.2.2.1 (hC.2.2.2.2 _ (wm 2 rfl)) (fun _ h => h) dJ6_getChars_ba4f3_62 ?_
  refine lv_iload hC.1 hC.2.1 dJ6_getChars_ba4f3_65 (lv_at hl 2 rfl) ?_
  refine va_tb hC.1 hC.2.1 t2 G.2.2 (show vp_in (nI (v % 100)) 100 from vp_in_nI (by omega) (by decide)) rfl dJ6_getChars_ba4f3_67 ?_
  refine g_bast hC hT.1 G hkb rfl gU_eq (show vp_in (nI (pp - 1 - 1)) m from vp_in_nI (by omega) (by omega)) dJ6_getChars_ba4f3_68 (fun H locs G => ?_)
  rw [gU_gU] at G
  refine lv_goto (tgt := 22) hC.1 hC.2.1 dJ6_getChars_ba4f3_69 (by decide) ?_
  refine lv_iload_n hC.1 hC.2.1 dJ6_getChars_ba4f3_22 rfl (lv_at hl 1 rfl) ?_
  refine lv_bipush (v := (-100)) hC.1 hC.2.1 dJ6_getChars_ba4f3_23 (by decide) ?_
  refine lv_icmp_gt (tgt := 72) hC.1 hC.2.1 dJ6_getChars_ba4f3_25 (by decide) (fun _ => ?_) (fun c2 => absurd ((ng_lt (a := 100) (b := v / 100) (by decide) (by omega)).mpr (by omega)) c2)
  exact l_gc_72 hC hr hlocks hT hkb hm (v / 100) (pp - 1 - 1) _ _ _ _ (by omega) (by rw [if_pos (by omega)]; omega) (by omega) (sb_fitU (sb_fitU hf (pk_fb _)) (pk_fb _)) G (lv_sub hl [0, 1, 4, 6] rfl)
