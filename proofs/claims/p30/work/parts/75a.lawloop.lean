/-! THE LAW'S LOOP: call after call, to the script's end -/
theorem li_7 : ∀ k, k < 7 → (nI k - 7 : Int32) < 0 := by decide
theorem lr_out {L i : Nat} (hL : L ≤ 3584) (hi : 7 * i ≤ 3584) (h : ¬ nI L - 7 < nI (7 * i)) : 7 * i + 7 ≤ L := by
  rcases Nat.lt_or_ge L 7 with c | c
  · exfalso
    have h1 := li_7 L c
    refine h ?_
    rw [Int32.lt_iff_toInt_lt] at h1 ⊢
    have h2 : (nI (7 * i)).toInt = ((7 * i : Nat) : Int) := nI_toInt (by omega)
    have h3 : (0 : Int32).toInt = 0 := by decide
    omega
  · have e : (nI L - 7 : Int32) = nI (L - 7) := by
      have h1 := nI_add (L - 7) 7
      rw [Nat.sub_add_cancel c] at h1
      rw [← h1]
      show nI (L - 7) + nI 7 - 7 = nI (L - 7)
      rw [show nI 7 = 7 from rfl]
      grind
    rw [e] at h
    rcases Nat.lt_or_ge (L - 7) (7 * i) with d | d
    · exact absurd (nI_lt d (by omega)) h
    · omega
theorem sw_31 (x : Int32) : ∃ k, k < 32 ∧ x &&& 31 = nI k := by
  obtain ⟨k, hk, e⟩ := and_small (i := 31) (M := 32) (by decide) (by decide) x
  exact ⟨k, by omega, by rw [← e, Int32.and_comm]; rfl⟩
section LOOP
variable {p : Program} {l : Launch} {e : Env} {s : State} {m : MethodId} {below : List Frame} {meth : Method} {c : Code} {D : va_G} {cy : Nat → ClassId} {lay : Nat → Nat} {o b L m0 ea mi ta : Nat} {ad ac am : Nat → Nat} {xs : Nat → Int32}
abbrev lwLV (i b a m0 o : Nat) : List (Nat × Value) := [(4, .int (nI (7 * i))), (0, .ref b), (1, .ref a), (2, .ref m0), (3, .ref o)]
set_option maxHeartbeats 4000000 in
set_option maxRecDepth 100000 in
theorem lw_one {Q : State → Prop} {i K S : Nat} {u : OU} {Y : RY} {H : Heap} {locs : List Loc} {ls : Array Slot} (hl0 : l.stackTraces = false) (hC : CallFix p m c cL_law 7 s #[Value.ref b] (wsL_law ++ lkL) RL) (hr : meth.sig.returnType = some .boolean) (hT : lwT D cy ea mi ta ad ac am s) (hL : L ≤ 3584) (hX : va_X b L xs s s.heap) (hb : b < s.heap.size) (hi : 7 * i + 7 ≤ L) (hK : K + 400 ≤ 601024) (hS : S + 6000 ≤ 7293034) (hm : Y.1 0 = m0) (I : LI ea u Y) (G : lwG D cy lay o u Y s H locs) (hl : lv_has ls 7 (lwLV i b (lay 0) m0 o))
    (kk : ∀ (u' : OU) (Y' : RY) (H1 : Heap) (locs1 : List Loc) (ls1 : Array Slot), LI ea u' Y' → Y'.1 0 = m0 → lwG D cy lay o u' Y' s H1 locs1 → lv_has ls1 7 (lwLV i b (lay 0) m0 o) → W p l e room_1 s m #[Value.ref b] below meth c H1 locs1 (K + 400) (S + 6000) Q (F0 m 1345 ls1 [])) : W p l e room_1 s m #[Value.ref b] below meth c H locs K S Q (F0 m 37 ls []) := by
  refine lv_aload_n hC.1 hC.2.1 dL_law_37 rfl (lv_at hl 1 rfl) ?_
  refine lv_iload hC.1 hC.2.1 dL_law_38 (lv_at hl 0 rfl) ?_
  refine va_sld hC.1 hC.2.1 hX hb (Nat.not_le.mpr hb) G.2.2.2.2.2 (vp_in_nI (show 7 * i < L by omega) (by omega)) dL_law_40 ?_
  refine lv_bipush (v := 31) hC.1 hC.2.1 dL_law_41 (by decide) ?_
  refine lv_iand hC.1 hC.2.1 dL_law_43 ?_
  obtain ⟨k, hk, ek⟩ := sw_31 (xs (Int32.toNatClampNeg (nI (7 * i))))
  rw [ek]
  match k, hk with
  | 0, _ =>
    refine lv_tableIn (off := 132) (tgt := 176) hC.1 hC.2.1 dL_law_44 (by decide) (by decide) rfl (by decide) ?_
    exact lc_player hl0 hC hr hT hL hX hb hi hK hS hm I G hl kk
  | 1, _ =>
    refine lv_tableIn (off := 196) (tgt := 240) hC.1 hC.2.1 dL_law_44 (by decide) (by decide) rfl (by decide) ?_
    exact lc_learn hl0 hC hr hT hL hX hb hi hK hS hm I G hl kk
  | 2, _ =>
    refine lv_tableIn (off := 236) (tgt := 280) hC.1 hC.2.1 dL_law_44 (by decide) (by decide) rfl (by decide) ?_
    exact lc_song hl0 hC hr hT hL hX hb hi hK hS hm I G hl kk
  | 3, _ =>
    refine lv_tableIn (off := 300) (tgt := 344) hC.1 hC.2.1 dL_law_44 (by decide) (by decide) rfl (by decide) ?_
    exact lc_feud hl0 hC hr hT hL hX hb hi hK hS hm I G hl kk
  | 4, _ =>
    refine lv_tableIn (off := 368) (tgt := 412) hC.1 hC.2.1 dL_law_44 (by decide) (by decide) rfl (by decide) ?_
    exact lc_road hl0 hC hr hT hL hX hb hi hK hS hm I G hl kk
  | 5, _ =>
    refine lv_tableIn (off := 420) (tgt := 464) hC.1 hC.2.1 dL_law_44 (by decide) (by decide) rfl (by decide) ?_
    exact lc_band hl0 hC hr hT hL hX hb hi hK hS hm I G hl kk
  | 6, _ =>
    refine lv_tableIn (off := 448) (tgt := 492) hC.1 hC.2.1 dL_law_44 (by decide) (by decide) rfl (by decide) ?_
    exact lc_ask hl0 hC hr hT hL hX hb hi hK hS hm I G hl kk
  | 7, _ =>
    refine lv_tableIn (off := 538) (tgt := 582) hC.1 hC.2.1 dL_law_44 (by decide) (by decide) rfl (by decide) ?_
    exact lc_fix hl0 hC hr hT hL hX hb hi hK hS hm I G hl kk
  | 8, _ =>
    refine lv_tableIn (off := 566) (tgt := 610) hC.1 hC.2.1 dL_law_44 (by decide) (by decide) rfl (by decide) ?_
    exact lc_cancel hl0 hC hr hT hL hX hb hi hK hS hm I G hl kk
  | 9, _ =>
    refine lv_tableIn (off := 594) (tgt := 638) hC.1 hC.2.1 dL_law_44 (by decide) (by decide) rfl (by decide) ?_
    exact lc_ill hl0 hC hr hT hL hX hb hi hK hS hm I G hl kk
  | 10, _ =>
    refine lv_tableIn (off := 634) (tgt := 678) hC.1 hC.2.1 dL_law_44 (by decide) (by decide) rfl (by decide) ?_
    exact lc_late hl0 hC hr hT hL hX hb hi hK hS hm I G hl kk
  | 11, _ =>
    refine lv_tableIn (off := 674) (tgt := 718) hC.1 hC.2.1 dL_law_44 (by decide) (by decide) rfl (by decide) ?_
    exact lc_pass hl0 hC hr hT hL hX hb hi hK hS hm I G hl kk
  | 12, _ =>
    refine lv_tableIn (off := 702) (tgt := 746) hC.1 hC.2.1 dL_law_44 (by decide) (by decide) rfl (by decide) ?_
    exact lc_ofPlayer hl0 hC hr hT hL hX hb hi hK hS hm I G hl kk
  | 13, _ =>
    refine lv_tableIn (off := 742) (tgt := 786) hC.1 hC.2.1 dL_law_44 (by decide) (by decide) rfl (by decide) ?_
    exact lc_ofSong hl0 hC hr hT hL hX hb hi hK hS hm I G hl kk
  | 14, _ =>
    refine lv_tableIn (off := 782) (tgt := 826) hC.1 hC.2.1 dL_law_44 (by decide) (by decide) rfl (by decide) ?_
    exact lc_ofBand hl0 hC hr hT hL hX hb hi hK hS hm I G hl kk
  | 15, _ =>
    refine lv_tableIn (off := 822) (tgt := 866) hC.1 hC.2.1 dL_law_44 (by decide) (by decide) rfl (by decide) ?_
    exact lc_ofWedding hl0 hC hr hT hL hX hb hi hK hS hm I G hl kk
  | 16, _ =>
    refine lv_tableIn (off := 862) (tgt := 906) hC.1 hC.2.1 dL_law_44 (by decide) (by decide) rfl (by decide) ?_
    exact lc_drive hl0 hC hr hT hL hX hb hi hK hS hm I G hl kk
  | 17, _ =>
    refine lv_tableIn (off := 902) (tgt := 946) hC.1 hC.2.1 dL_law_44 (by decide) (by decide) rfl (by decide) ?_
    exact lc_free hl0 hC hr hT hL hX hb hi hK hS hm I G hl kk
  | 18, _ =>
    refine lv_tableIn (off := 942) (tgt := 986) hC.1 hC.2.1 dL_law_44 (by decide) (by decide) rfl (by decide) ?_
    exact lc_filling hl0 hC hr hT hL hX hb hi hK hS hm I G hl kk
  | 19, _ =>
    refine lv_tableIn (off := 982) (tgt := 1026) hC.1 hC.2.1 dL_law_44 (by decide) (by decide) rfl (by decide) ?_
    exact lc_set hl0 hC hr hT hL hX hb hi hK hS hm I G hl kk
  | 20, _ =>
    refine lv_tableIn (off := 1038) (tgt := 1082) hC.1 hC.2.1 dL_law_44 (by decide) (by decide) rfl (by decide) ?_
    exact lc_songs hl0 hC hr hT hL hX hb hi hK hS hm I G hl kk
  | 21, _ =>
    refine lv_tableIn (off := 1066) (tgt := 1110) hC.1 hC.2.1 dL_law_44 (by decide) (by decide) rfl (by decide) ?_
    exact lc_desk hl0 hC hr hT hL hX hb hi hK hS hm I G hl kk
  | 22, _ =>
    refine lv_tableIn (off := 1094) (tgt := 1138) hC.1 hC.2.1 dL_law_44 (by decide) (by decide) rfl (by decide) ?_
    exact lc_tell hl0 hC hr hT hL hX hb hi hK hS hm I G hl kk
  | 23, _ =>
    refine lv_tableIn (off := 1122) (tgt := 1166) hC.1 hC.2.1 dL_law_44 (by decide) (by decide) rfl (by decide) ?_
    exact lc_wouldLose hl0 hC hr hT hL hX hb hi hK hS hm I G hl kk
  | 24, _ =>
    refine lv_tableIn (off := 1162) (tgt := 1206) hC.1 hC.2.1 dL_law_44 (by decide) (by decide) rfl (by decide) ?_
    exact lc_plan hl0 hC hr hT hL hX hb hi hK hS hm I G hl kk
  | 25, _ =>
    refine lv_tableIn (off := 1218) (tgt := 1262) hC.1 hC.2.1 dL_law_44 (by decide) (by decide) rfl (by decide) ?_
    exact lc_wouldCancel hl0 hC hr hT hL hX hb hi hK hS hm I G hl kk
  | 26, _ =>
    refine lv_tableIn (off := 1246) (tgt := 1290) hC.1 hC.2.1 dL_law_44 (by decide) (by decide) rfl (by decide) ?_
    exact lc_key hl0 hC hr hT hL hX hb hi hK hS hm I G hl kk
  | 27, _ =>
    refine lv_tableIn (off := 1274) (tgt := 1318) hC.1 hC.2.1 dL_law_44 (by decide) (by decide) rfl (by decide) ?_
    exact lc_isSound hl0 hC hr hT hL hX hb hi hK hS hm I G hl kk
  | 28, _ =>
    refine lv_tableIn (off := 1287) (tgt := 1331) hC.1 hC.2.1 dL_law_44 (by decide) (by decide) rfl (by decide) ?_
    exact lc_digest hl0 hC hr hT hL hX hb hi hK hS hm I G hl kk
  | 29, _ =>
    refine lv_tableOut (tgt := 1345) hC.1 hC.2.1 dL_law_44 (Or.inr (by decide)) (by decide) ?_
    refine W.widen (k := K + 400) (n := S + 6000) (by omega) (by omega) ?_
    exact kk u Y _ _ _ I hm G hl
  | 30, _ =>
    refine lv_tableOut (tgt := 1345) hC.1 hC.2.1 dL_law_44 (Or.inr (by decide)) (by decide) ?_
    refine W.widen (k := K + 400) (n := S + 6000) (by omega) (by omega) ?_
    exact kk u Y _ _ _ I hm G hl
  | 31, _ =>
    refine lv_tableOut (tgt := 1345) hC.1 hC.2.1 dL_law_44 (Or.inr (by decide)) (by decide) ?_
    refine W.widen (k := K + 400) (n := S + 6000) (by omega) (by omega) ?_
    exact kk u Y _ _ _ I hm G hl
  | k + 32, hk => exact absurd hk (by omega)

set_option maxHeartbeats 4000000 in
set_option maxRecDepth 100000 in
theorem lw_head {K S i : Nat} {u : OU} {Y : RY} {H : Heap} {locs : List Loc} {ls : Array Slot} (hC : CallFix p m c cL_law 7 s #[Value.ref b] (wsL_law ++ lkL) RL) (hr : meth.sig.returnType = some .boolean) (hlocks : meth.locks = false) (hL : L ≤ 3584) (hX : va_X b L xs s s.heap) (hb : b < s.heap.size) (hi : 7 * i ≤ 3584) (hK : K ≤ 601024) (hS : S ≤ 7293034) (G : lwG D cy lay o u Y s H locs) (hl : lv_has ls 7 (lwLV i b (lay 0) m0 o))
    (kk : 7 * i + 7 ≤ L → W p l e room_1 s m #[Value.ref b] below meth c H locs K S (lw_Z below #[Value.ref b] s) (F0 m 37 ls [])) : W p l e room_1 s m #[Value.ref b] below meth c H locs K S (lw_Z below #[Value.ref b] s) (F0 m 27 ls []) := by
  refine lv_iload hC.1 hC.2.1 dL_law_27 (lv_at hl 0 rfl) ?_
  refine lv_aload_n hC.1 hC.2.1 dL_law_29 rfl (lv_at hl 1 rfl) ?_
  refine va_slen hC.1 hC.2.1 hX hb (Nat.not_le.mpr hb) G.2.2.2.2.2 dL_law_30 ?_
  refine lv_bipush (v := 7) hC.1 hC.2.1 dL_law_31 (by decide) ?_
  refine lv_isub hC.1 hC.2.1 dL_law_33 ?_
  refine lv_icmp_gt (tgt := 1351) hC.1 hC.2.1 dL_law_34 (by decide) (fun _ => ?_) (fun c1 => kk (lr_out hL hi c1))
  refine lv_iconst (v := 1) hC.1 hC.2.1 dL_law_1351 (by decide) ?_
  refine va_forget (fun z hz => G.2.2.2.2.2.2.2 z hz) ?_
  refine W.widen (k := 601024) (n := 7293034) hK hS ?_
  exact lw_ret hC.1 hC.2.1 hr hlocks dL_law_1352

set_option maxHeartbeats 4000000 in
set_option maxRecDepth 100000 in
theorem lw_loop {K S : Nat} (hl0 : l.stackTraces = false) (hC : CallFix p m c cL_law 7 s #[Value.ref b] (wsL_law ++ lkL) RL) (hr : meth.sig.returnType = some .boolean) (hlocks : meth.locks = false) (hT : lwT D cy ea mi ta ad ac am s) (hL : L ≤ 3584) (hX : va_X b L xs s s.heap) (hb : b < s.heap.size) (hK : K + 400 * 512 ≤ 601024) (hS : S + 6000 * 512 ≤ 7293034) : ∀ d i, i + d = 512 → ∀ (u : OU) (Y : RY) (H : Heap) (locs : List Loc) (ls : Array Slot), Y.1 0 = m0 → LI ea u Y → lwG D cy lay o u Y s H locs → lv_has ls 7 (lwLV i b (lay 0) m0 o) → W p l e room_1 s m #[Value.ref b] below meth c H locs (K + 400 * i) (S + 6000 * i) (lw_Z below #[Value.ref b] s) (F0 m 27 ls []) := by
  intro d
  induction d with
  | zero =>
    intro i hi u Y H locs ls hm I G hl
    obtain rfl : i = 512 := by omega
    exact lw_head hC hr hlocks hL hX hb (by omega) (by omega) (by omega) G hl (fun h7 => absurd h7 (by omega))
  | succ d ih =>
    intro i hi u Y H locs ls hm I G hl
    refine lw_head hC hr hlocks hL hX hb (by omega) (by omega) (by omega) G hl (fun h7 => ?_)
    refine lw_one hl0 hC hr hT hL hX hb h7 (by omega) (by omega) hm I G hl (fun u' Y' H1 locs1 ls1 I' hm' G' hl' => ?_)
    have e7 : nI (7 * i) + Int32.ofInt 7 = nI (7 * (i + 1)) := by
      rw [show Int32.ofInt 7 = nI 7 from rfl, nI_add]
      rfl
    refine lv_iinc (v := nI (7 * (i + 1))) (lv' := lwLV (i + 1) b (lay 0) m0 o) hC.1 hC.2.1 dL_law_1345 hl' (k := 0) rfl e7 (by decide) rfl (fun ls2 hl2 => ?_)
    refine lv_goto (tgt := 27) hC.1 hC.2.1 dL_law_1348 (by decide) ?_
    refine W.widen (k := K + 400 * (i + 1)) (n := S + 6000 * (i + 1)) (by omega) (by omega) ?_
    exact ih (i + 1) (by omega) u' Y' H1 locs1 ls2 hm' I' G' hl2
end LOOP
