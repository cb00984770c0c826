abbrev rm_X7_has : Room := { frames := 0, cells := 0, slots := 0, locals := 0 }
def w_X7_has (post : Int32 → MS → Prop) (σ : MS) (a0 : Int32) (a1 : Int32) : Prop := ((((a0 >>> (a1 &&& 31)) &&& 1) = 0 → post 0 σ) ∧ (¬ ((a0 >>> (a1 &&& 31)) &&& 1) = 0 → post 1 σ))
set_option maxHeartbeats 4000000 in
set_option maxRecDepth 100000 in
theorem c_X7_has (l : Launch) (D : va_G) (cy : Nat → ClassId) (lay : Nat → Nat) {σ : MS} {post : Int32 → MS → Prop} {a0 : Int32} {a1 : Int32} (h : w_X7_has post σ a0 a1) (sz : Nat) : Met l yX7_has wsX7_has rm_X7_has (va_Pc [.int a0, .int a1] (agI D cy lay σ sz)) (va_Qi post (agO D cy lay) (agA lay sz)) 0 0 (agA lay sz) := by
  refine ag_ofW (cc := cX7_has) (maxL := 2) (ret := some .boolean) (own := RX7) (Qc := fun sz => va_Qi post (agO D cy lay) (agA lay sz)) (by decide) rfl (Nat.le_of_ble_eq_true rfl) rfl ?_
  intro p e s m args below meth c ls hC hr hlocks hT G hl
  unfold w_X7_has at h
  have hl : lv_has ls 2 [(0, .int a0), (1, .int a1)] := hl
  refine lv_iload_n hC.1 hC.2.1 dX7_has_0 rfl (lv_at hl 0 rfl) ?_
  refine lv_iload_n hC.1 hC.2.1 dX7_has_1 rfl (lv_at hl 1 rfl) ?_
  refine lv_ishr hC.1 hC.2.1 dX7_has_2 ?_
  refine lv_iconst (v := 1) hC.1 hC.2.1 dX7_has_3 (by decide) ?_
  refine lv_iand hC.1 hC.2.1 dX7_has_4 ?_
  refine lv_if_eq (tgt := 12) hC.1 hC.2.1 dX7_has_5 (by decide) (fun c1 => ?_) (fun c1 => ?_)
  · replace h := h.1 c1
    refine lv_iconst (v := 0) hC.1 hC.2.1 dX7_has_12 (by decide) ?_
    exact ag_zret hC hr hlocks G rfl h dX7_has_13
  · replace h := h.2 c1
    refine lv_iconst (v := 1) hC.1 hC.2.1 dX7_has_8 (by decide) ?_
    refine lv_goto (tgt := 13) hC.1 hC.2.1 dX7_has_9 (by decide) ?_
    exact ag_zret hC hr hlocks G rfl h dX7_has_13
theorem hdS_X7_has : yX7_has.cls ≠ "java/lang/invoke/MethodHandle" ∧ yX7_has.cls ≠ "java/lang/invoke/VarHandle" ∧ (parseMethodDescriptor yX7_has.desc).map (fun d => d.parameters.length) = some 2 := by decide +kernel
abbrev rm_J6_bitCount_0f7a4 : Room := { frames := 0, cells := 0, slots := 0, locals := 0 }
def w_J6_bitCount_0f7a4 (post : Int32 → MS → Prop) (σ : MS) (a0 : Int32) : Prop := (∀ y1 : Int32, y1 = ((Int32.toUInt32 (a0 - ((((Int32.toUInt32 a0) >>> ((Int32.toUInt32 1) &&& Int32.toUInt32 31)).toInt32) &&& 1431655765))) >>> ((Int32.toUInt32 2) &&& Int32.toUInt32 31)).toInt32 → (∀ y2 : Int32, y2 = ((Int32.toUInt32 (((a0 - ((((Int32.toUInt32 a0) >>> ((Int32.toUInt32 1) &&& Int32.toUInt32 31)).toInt32) &&& 1431655765)) &&& 858993459) + (y1 &&& 858993459))) >>> ((Int32.toUInt32 4) &&& Int32.toUInt32 31)).toInt32 → (∀ y3 : Int32, y3 = ((((a0 - ((((Int32.toUInt32 a0) >>> ((Int32.toUInt32 1) &&& Int32.toUInt32 31)).toInt32) &&& 1431655765)) &&& 858993459) + (y1 &&& 858993459)) + y2) &&& 252645135 → (∀ y4 : Int32, y4 = ((Int32.toUInt32 (y3 + (((Int32.toUInt32 y3) >>> ((Int32.toUInt32 8) &&& Int32.toUInt32 31)).toInt32))) >>> ((Int32.toUInt32 16) &&& Int32.toUInt32 31)).toInt32 → post (((y3 + (((Int32.toUInt32 y3) >>> ((Int32.toUInt32 8) &&& Int32.toUInt32 31)).toInt32)) + y4) &&& 63) σ))))
set_option maxHeartbeats 4000000 in
set_option maxRecDepth 100000 in
theorem c_J6_bitCount_0f7a4 (l : Launch) (D : va_G) (cy : Nat → ClassId) (lay : Nat → Nat) {σ : MS} {post : Int32 → MS → Prop} {a0 : Int32} (h : w_J6_bitCount_0f7a4 post σ a0) (sz : Nat) : Met l yJ6_bitCount_0f7a4 wsJ6_bitCount_0f7a4 rm_J6_bitCount_0f7a4 (va_Pc [.int a0] (agI D cy lay σ sz)) (va_Qi post (agO D cy lay) (agA lay sz)) 0 0 (agA lay sz) := by
  refine ag_ofW (cc := cJ6_bitCount_0f7a4) (maxL := 1) (ret := some .int) (own := RJ6) (Qc := fun sz => va_Qi post (agO D cy lay) (agA lay sz)) (by decide) rfl (Nat.le_of_ble_eq_true rfl) rfl ?_
  intro p e s m args below meth c ls hC hr hlocks hT G hl
  unfold w_J6_bitCount_0f7a4 at h
  have hl : lv_has ls 1 [(0, .int a0)] := hl
  refine lv_iload_n hC.1 hC.2.1 dJ6_bitCount_0f7a4_0 rfl (lv_at hl 0 rfl) ?_
  refine lv_iload_n hC.1 hC.2.1 dJ6_bitCount_0f7a4_1 rfl (lv_at hl 0 rfl) ?_
  refine lv_iconst (v := 1) hC.1 hC.2.1 dJ6_bitCount_0f7a4_2 (by decide) ?_
  refine lv_iushr (v := ((Int32.toUInt32 a0) >>> ((Int32.toUInt32 1) &&& Int32.toUInt32 31)).toInt32) hC.1 hC.2.1 dJ6_bitCount_0f7a4_3 rfl ?_
  refine lv_ldcw (v := 1431655765) hC.1 hC.2.1 hC.2.2.2.1 (hC.2.2.2.2 _ (wm 1 rfl)) dJ6_bitCount_0f7a4_4 ?_
  refine lv_iand hC.1 hC.2.1 dJ6_bitCount_0f7a4_7 ?_
  refine lv_isub hC.1 hC.2.1 dJ6_bitCount_0f7a4_8 ?_
  refine lv_istore_n (lv' := [(0, .int (a0 - ((((Int32.toUInt32 a0) >>> ((Int32.toUInt32 1) &&& Int32.toUInt32 31)).toInt32) &&& 1431655765)))]) hC.1 hC.2.1 dJ6_bitCount_0f7a4_9 rfl hl (by decide) rfl (fun ls hl => ?_)
  refine lv_iload_n hC.1 hC.2.1 dJ6_bitCount_0f7a4_10 rfl (lv_at hl 0 rfl) ?_
  refine lv_ldcw (v := 858993459) hC.1 hC.2.1 hC.2.2.2.1 (hC.2.2.2.2 _ (wm 2 rfl)) dJ6_bitCount_0f7a4_11 ?_
  refine lv_iand hC.1 hC.2.1 dJ6_bitCount_0f7a4_14 ?_
  refine lv_iload_n hC.1 hC.2.1 dJ6_bitCount_0f7a4_15 rfl (lv_at hl 0 rfl) ?_
  refine lv_iconst (v := 2) hC.1 hC.2.1 dJ6_bitCount_0f7a4_16 (by decide) ?_
  refine lv_iushr (v := ((Int32.toUInt32 (a0 - ((((Int32.toUInt32 a0) >>> ((Int32.toUInt32 1) &&& Int32.toUInt32 31)).toInt32) &&& 1431655765))) >>> ((Int32.toUInt32 2) &&& Int32.toUInt32 31)).toInt32) hC.1 hC.2.1 dJ6_bitCount_0f7a4_17 rfl ?_
  refine lv_topi (fun y1 ey1 => ?_)
  replace h := h y1 ey1
  refine lv_ldcw (v := 858993459) hC.1 hC.2.1 hC.2.2.2.1 (hC.2.2.2.2 _ (wm 2 rfl)) dJ6_bitCount_0f7a4_18 ?_
  refine lv_iand hC.1 hC.2.1 dJ6_bitCount_0f7a4_21 ?_
  refine lv_iadd hC.1 hC.2.1 dJ6_bitCount_0f7a4_22 ?_
  refine lv_istore_n (lv' := [(0, .int (((a0 - ((((Int32.toUInt32 a0) >>> ((Int32.toUInt32 1) &&& Int32.toUInt32 31)).toInt32) &&& 1431655765)) &&& 858993459) + (y1 &&& 858993459)))]) hC.1 hC.2.1 dJ6_bitCount_0f7a4_23 rfl hl (by decide) rfl (fun ls hl => ?_)
  refine lv_iload_n hC.1 hC.2.1 dJ6_bitCount_0f7a4_24 rfl (lv_at hl 0 rfl) ?_
  refine lv_iload_n hC.1 hC.2.1 dJ6_bitCount_0f7a4_25 rfl (lv_at hl 0 rfl) ?_
  refine lv_iconst (v := 4) hC.1 hC.2.1 dJ6_bitCount_0f7a4_26 (by decide) ?_
  refine lv_iushr (v := ((Int32.toUInt32 (((a0 - ((((Int32.toUInt32 a0) >>> ((Int32.toUInt32 1) &&& Int32.toUInt32 31)).toInt32) &&& 1431655765)) &&& 858993459) + (y1 &&& 858993459))) >>> ((Int32.toUInt32 4) &&& Int32.toUInt32 31)).toInt32) hC.1 hC.2.1 dJ6_bitCount_0f7a4_27 rfl ?_
  refine lv_topi (fun y2 ey2 => ?_)
  replace h := h y2 ey2
  refine lv_iadd hC.1 hC.2.1 dJ6_bitCount_0f7a4_28 ?_
  refine lv_ldcw (v := 252645135) hC.1 hC.2.1 hC.2.2.2.1 (hC.2.2.2.2 _ (wm 3 rfl)) dJ6_bitCount_0f7a4_29 ?_
  refine lv_iand hC.1 hC.2.1 dJ6_bitCount_0f7a4_32 ?_
  refine lv_topi (fun y3 ey3 => ?_)
  replace h := h y3 ey3
  refine lv_istore_n (lv' := [(0, .int y3)]) hC.1 hC.2.1 dJ6_bitCount_0f7a4_33 rfl hl (by decide) rfl (fun ls hl => ?_)
  refine lv_iload_n hC.1 hC.2.1 dJ6_bitCount_0f7a4_34 rfl (lv_at hl 0 rfl) ?_
  refine lv_iload_n hC.1 hC.2.1 dJ6_bitCount_0f7a4_35 rfl (lv_at hl 0 rfl) ?_
  refine lv_bipush (v := 8) hC.1 hC.2.1 dJ6_bitCount_0f7a4_36 (by decide) ?_
  refine lv_iushr (v := ((Int32.toUInt32 y3) >>> ((Int32.toUInt32 8) &&& Int32.toUInt32 31)).toInt32) hC.1 hC.2.1 dJ6_bitCount_0f7a4_38 rfl ?_
  refine lv_iadd hC.1 hC.2.1 dJ6_bitCount_0f7a4_39 ?_
  refine lv_istore_n (lv' := [(0, .int (y3 + (((Int32.toUInt32 y3) >>> ((Int32.toUInt32 8) &&& Int32.toUInt32 31)).toInt32)))]) hC.1 hC.2.1 dJ6_bitCount_0f7a4_40 rfl hl (by decide) rfl (fun ls hl => ?_)
  refine lv_iload_n hC.1 hC.2.1 dJ6_bitCount_0f7a4_41 rfl (lv_at hl 0 rfl) ?_
  refine lv_iload_n hC.1 hC.2.1 dJ6_bitCount_0f7a4_42 rfl (lv_at hl 0 rfl) ?_
  refine lv_bipush (v := 16) hC.1 hC.2.1 dJ6_bitCount_0f7a4_43 (by decide) ?_
  refine lv_iushr (v := ((Int32.toUInt32 (y3 + (((Int32.toUInt32 y3) >>> ((Int32.toUInt32 8) &&& Int32.toUInt32 31)).toInt32))) >>> ((Int32.toUInt32 16) &&& Int32.toUInt32 31)).toInt32) hC.1 hC.2.1 dJ6_bitCount_0f7a4_45 rfl ?_
  refine lv_topi (fun y4 ey4 => ?_)
  replace h := h y4 ey4
  refine lv_iadd hC.1 hC.2.1 dJ6_bitCount_0f7a4_46 ?_
  refine lv_istore_n (lv' := [(0, .int ((y3 + (((Int32.toUInt32 y3) >>> ((Int32.toUInt32 8) &&& Int32.toUInt32 31)).toInt32)) + y4))]) hC.1 hC.2.1 dJ6_bitCount_0f7a4_47 rfl hl (by decide) rfl (fun ls hl => ?_)
  refine lv_iload_n hC.1 hC.2.1 dJ6_bitCount_0f7a4_48 rfl (lv_at hl 0 rfl) ?_
  refine lv_bipush (v := 63) hC.1 hC.2.1 dJ6_bitCount_0f7a4_49 (by decide) ?_
  refine lv_iand hC.1 hC.2.1 dJ6_bitCount_0f7a4_51 ?_
  exact ag_iret hC hr hlocks G h dJ6_bitCount_0f7a4_52
theorem hdS_J6_bitCount_0f7a4 : yJ6_bitCount_0f7a4.cls ≠ "java/lang/invoke/MethodHandle" ∧ yJ6_bitCount_0f7a4.cls ≠ "java/lang/invoke/VarHandle" ∧ (parseMethodDescriptor yJ6_bitCount_0f7a4.desc).map (fun d => d.parameters.length) = some 1 := by decide +kernel
abbrev rm_X7_isTown : Room := { frames := 0, cells := 0, slots := 0, locals := 0 }
def w_X7_isTown (post : Int32 → MS → Prop) (σ : MS) (a0 : Int32) : Prop := ((a0 < 0 → post 0 σ) ∧ (¬ a0 < 0 → ((6 ≤ a0 → post 0 σ) ∧ (¬ 6 ≤ a0 → post 1 σ))))
set_option maxHeartbeats 4000000 in
set_option maxRecDepth 100000 in
theorem c_X7_isTown (l : Launch) (D : va_G) (cy : Nat → ClassId) (lay : Nat → Nat) {σ : MS} {post : Int32 → MS → Prop} {a0 : Int32} (h : w_X7_isTown post σ a0) (sz : Nat) : Met l yX7_isTown wsX7_isTown rm_X7_isTown (va_Pc [.int a0] (agI D cy lay σ sz)) (va_Qi post (agO D cy lay) (agA lay sz)) 0 0 (agA lay sz) := by
  refine ag_ofW (cc := cX7_isTown) (maxL := 1) (ret := some .boolean) (own := RX7) (Qc := fun sz => va_Qi post (agO D cy lay) (agA lay sz)) (by decide) rfl (Nat.le_of_ble_eq_true rfl) rfl ?_
  intro p e s m args below meth c ls hC hr hlocks hT G hl
  unfold w_X7_isTown at h
  have hl : lv_has ls 1 [(0, .int a0)] := hl
  refine lv_iload_n hC.1 hC.2.1 dX7_isTown_0 rfl (lv_at hl 0 rfl) ?_
  refine lv_if_lt (tgt := 14) hC.1 hC.2.1 dX7_isTown_1 (by decide) (fun c1 => ?_) (fun c1 => ?_)
  · replace h := h.1 c1
    refine lv_iconst (v := 0) hC.1 hC.2.1 dX7_isTown_14 (by decide) ?_
    exact ag_zret hC hr hlocks G rfl h dX7_isTown_15
  · replace h := h.2 c1
    refine lv_iload_n hC.1 hC.2.1 dX7_isTown_4 rfl (lv_at hl 0 rfl) ?_
    refine lv_bipush (v := 6) hC.1 hC.2.1 dX7_isTown_5 (by decide) ?_
    refine lv_icmp_ge (tgt := 14) hC.1 hC.2.1 dX7_isTown_7 (by decide) (fun c2 => ?_) (fun c2 => ?_)
    · replace h := h.1 c2
      refine lv_iconst (v := 0) hC.1 hC.2.1 dX7_isTown_14 (by decide) ?_
      exact ag_zret hC hr hlocks G rfl h dX7_isTown_15
    · replace h := h.2 c2
      refine lv_iconst (v := 1) hC.1 hC.2.1 dX7_isTown_10 (by decide) ?_
      refine lv_goto (tgt := 15) hC.1 hC.2.1 dX7_isTown_11 (by decide) ?_
      exact ag_zret hC hr hlocks G rfl h dX7_isTown_15
theorem hdS_X7_isTown : yX7_isTown.cls ≠ "java/lang/invoke/MethodHandle" ∧ yX7_isTown.cls ≠ "java/lang/invoke/VarHandle" ∧ (parseMethodDescriptor yX7_isTown.desc).map (fun d => d.parameters.length) = some 1 := by decide +kernel
abbrev rm_X7_isSetOfSongs : Room := { frames := 0, cells := 0, slots := 0, locals := 0 }
def w_X7_isSetOfSongs (post : Int32 → MS → Prop) (σ : MS) (a0 : Int32) : Prop := ((a0 < 0 → post 0 σ) ∧ (¬ a0 < 0 → ((65536 ≤ a0 → post 0 σ) ∧ (¬ 65536 ≤ a0 → post 1 σ))))
set_option maxHeartbeats 4000000 in
set_option maxRecDepth 100000 in
theorem c_X7_isSetOfSongs (l : Launch) (D : va_G) (cy : Nat → ClassId) (lay : Nat → Nat) {σ : MS} {post : Int32 → MS → Prop} {a0 : Int32} (h : w_X7_isSetOfSongs post σ a0) (sz : Nat) : Met l yX7_isSetOfSongs wsX7_isSetOfSongs rm_X7_isSetOfSongs (va_Pc [.int a0] (agI D cy lay σ sz)) (va_Qi post (agO D cy lay) (agA lay sz)) 0 0 (agA lay sz) := by
  refine ag_ofW (cc := cX7_isSetOfSongs) (maxL := 1) (ret := some .boolean) (own := RX7) (Qc := fun sz => va_Qi post (agO D cy lay) (agA lay sz)) (by decide) rfl (Nat.le_of_ble_eq_true rfl) rfl ?_
  intro p e s m args below meth c ls hC hr hlocks hT G hl
  unfold w_X7_isSetOfSongs at h
  have hl : lv_has ls 1 [(0, .int a0)] := hl
  refine lv_iload_n hC.1 hC.2.1 dX7_isSetOfSongs_0 rfl (lv_at hl 0 rfl) ?_
  refine lv_if_lt (tgt := 15) hC.1 hC.2.1 dX7_isSetOfSongs_1 (by decide) (fun c1 => ?_) (fun c1 => ?_)
  · replace h := h.1 c1
    refine lv_iconst (v := 0) hC.1 hC.2.1 dX7_isSetOfSongs_15 (by decide) ?_
    exact ag_zret hC hr hlocks G rfl h dX7_isSetOfSongs_16
  · replace h := h.2 c1
    refine lv_iload_n hC.1 hC.2.1 dX7_isSetOfSongs_4 rfl (lv_at hl 0 rfl) ?_
    refine lv_ldcw (v := 65536) hC.1 hC.2.1 hC.2.2.2.1 (hC.2.2.2.2 _ (wm 1 rfl)) dX7_isSetOfSongs_5 ?_
    refine lv_icmp_ge (tgt := 15) hC.1 hC.2.1 dX7_isSetOfSongs_8 (by decide) (fun c2 => ?_) (fun c2 => ?_)
    · replace h := h.1 c2
      refine lv_iconst (v := 0) hC.1 hC.2.1 dX7_isSetOfSongs_15 (by decide) ?_
      exact ag_zret hC hr hlocks G rfl h dX7_isSetOfSongs_16
    · replace h := h.2 c2
      refine lv_iconst (v := 1) hC.1 hC.2.1 dX7_isSetOfSongs_11 (by decide) ?_
      refine lv_goto (tgt := 16) hC.1 hC.2.1 dX7_isSetOfSongs_12 (by decide) ?_
      exact ag_zret hC hr hlocks G rfl h dX7_isSetOfSongs_16
theorem hdS_X7_isSetOfSongs : yX7_isSetOfSongs.cls ≠ "java/lang/invoke/MethodHandle" ∧ yX7_isSetOfSongs.cls ≠ "java/lang/invoke/VarHandle" ∧ (parseMethodDescriptor yX7_isSetOfSongs.desc).map (fun d => d.parameters.length) = some 1 := by decide +kernel
abbrev rm_X7_areHours : Room := { frames := 0, cells := 0, slots := 0, locals := 0 }
def w_X7_areHours (post : Int32 → MS → Prop) (σ : MS) (a0 : Int32) (a1 : Int32) : Prop := ((a0 < 10 → post 0 σ) ∧ (¬ a0 < 10 → ((22 < a0 → post 0 σ) ∧ (¬ 22 < a0 → ((a1 < 1 → post 0 σ) ∧ (¬ a1 < 1 → ((6 < a1 → post 0 σ) ∧ (¬ 6 < a1 → ((24 < (a0 + a1) → post 0 σ) ∧ (¬ 24 < (a0 + a1) → post 1 σ))))))))))
set_option maxHeartbeats 4000000 in
set_option maxRecDepth 100000 in
theorem c_X7_areHours (l : Launch) (D : va_G) (cy : Nat → ClassId) (lay : Nat → Nat) {σ : MS} {post : Int32 → MS → Prop} {a0 : Int32} {a1 : Int32} (h : w_X7_areHours post σ a0 a1) (sz : Nat) : Met l yX7_areHours wsX7_areHours rm_X7_areHours (va_Pc [.int a0, .int a1] (agI D cy lay σ sz)) (va_Qi post (agO D cy lay) (agA lay sz)) 0 0 (agA lay sz) := by
  refine ag_ofW (cc := cX7_areHours) (maxL := 2) (ret := some .boolean) (own := RX7) (Qc := fun sz => va_Qi post (agO D cy lay) (agA lay sz)) (by decide) rfl (Nat.le_of_ble_eq_true rfl) rfl ?_
  intro p e s m args below meth c ls hC hr hlocks hT G hl
  unfold w_X7_areHours at h
  have hl : lv_has ls 2 [(0, .int a0), (1, .int a1)] := hl
  refine lv_iload_n hC.1 hC.2.1 dX7_areHours_0 rfl (lv_at hl 0 rfl) ?_
  refine lv_bipush (v := 10) hC.1 hC.2.1 dX7_areHours_1 (by decide) ?_
  refine lv_icmp_lt (tgt := 35) hC.1 hC.2.1 dX7_areHours_3 (by decide) (fun c1 => ?_) (fun c1 => ?_)
  · replace h := h.1 c1
    refine lv_iconst (v := 0) hC.1 hC.2.1 dX7_areHours_35 (by decide) ?_
    exact ag_zret hC hr hlocks G rfl h dX7_areHours_36
  · replace h := h.2 c1
    refine lv_iload_n hC.1 hC.2.1 dX7_areHours_6 rfl (lv_at hl 0 rfl) ?_
    refine lv_bipush (v := 22) hC.1 hC.2.1 dX7_areHours_7 (by decide) ?_
    refine lv_icmp_gt (tgt := 35) hC.1 hC.2.1 dX7_areHours_9 (by decide) (fun c2 => ?_) (fun c2 => ?_)
    · replace h := h.1 c2
      refine lv_iconst (v := 0) hC.1 hC.2.1 dX7_areHours_35 (by decide) ?_
      exact ag_zret hC hr hlocks G rfl h dX7_areHours_36
    · replace h := h.2 c2
      refine lv_iload_n hC.1 hC.2.1 dX7_areHours_12 rfl (lv_at hl 1 rfl) ?_
      refine lv_iconst (v := 1) hC.1 hC.2.1 dX7_areHours_13 (by decide) ?_
      refine lv_icmp_lt (tgt := 35) hC.1 hC.2.1 dX7_areHours_14 (by decide) (fun c3 => ?_) (fun c3 => ?_)
      · replace h := h.1 c3
        refine lv_iconst (v := 0) hC.1 hC.2.1 dX7_areHours_35 (by decide) ?_
        exact ag_zret hC hr hlocks G rfl h dX7_areHours_36
      · replace h := h.2 c3
        refine lv_iload_n hC.1 hC.2.1 dX7_areHours_17 rfl (lv_at hl 1 rfl) ?_
        refine lv_bipush (v := 6) hC.1 hC.2.1 dX7_areHours_18 (by decide) ?_
        refine lv_icmp_gt (tgt := 35) hC.1 hC.2.1 dX7_areHours_20 (by decide) (fun c4 => ?_) (fun c4 => ?_)
        · replace h := h.1 c4
          refine lv_iconst (v := 0) hC.1 hC.2.1 dX7_areHours_35 (by decide) ?_
          exact ag_zret hC hr hlocks G rfl h dX7_areHours_36
        · replace h := h.2 c4
          refine lv_iload_n hC.1 hC.2.1 dX7_areHours_23 rfl (lv_at hl 0 rfl) ?_
          refine lv_iload_n hC.1 hC.2.1 dX7_areHours_24 rfl (lv_at hl 1 rfl) ?_
          refine lv_iadd hC.1 hC.2.1 dX7_areHours_25 ?_
          refine lv_bipush (v := 24) hC.1 hC.2.1 dX7_areHours_26 (by decide) ?_
          refine lv_icmp_gt (tgt := 35) hC.1 hC.2.1 dX7_areHours_28 (by decide) (fun c5 => ?_) (fun c5 => ?_)
          · replace h := h.1 c5
            refine lv_iconst (v := 0) hC.1 hC.2.1 dX7_areHours_35 (by decide) ?_
            exact ag_zret hC hr hlocks G rfl h dX7_areHours_36
          · replace h := h.2 c5
            refine lv_iconst (v := 1) hC.1 hC.2.1 dX7_areHours_31 (by decide) ?_
            refine lv_goto (tgt := 36) hC.1 hC.2.1 dX7_areHours_32 (by decide) ?_
            exact ag_zret hC hr hlocks G rfl h dX7_areHours_36
theorem hdS_X7_areHours : yX7_areHours.cls ≠ "java/lang/invoke/MethodHandle" ∧ yX7_areHours.cls ≠ "java/lang/invoke/VarHandle" ∧ (parseMethodDescriptor yX7_areHours.desc).map (fun d => d.parameters.length) = some 2 := by decide +kernel
abbrev rm_X7_sizeOf : Room := { frames := 0, cells := 0, slots := 0, locals := 0 }
def u_X7_sizeOf_6 (post : Int32 → MS → Prop) (a0 : Int32) : Nat → MS → Int32 → Int32 → Int32 → Prop
  | 0, _, _, _, _ => False
  | n + 1, σ, v1, v2, v3 => ((6 ≤ v3 → post v1 σ) ∧ (¬ 6 ≤ v3 → u_X7_sizeOf_6 post a0 n σ (v1 + (v2 - v2 / 3 * 3)) (v2 / 3) (v3 + 1)))
set_option maxHeartbeats 4000000 in
set_option maxRecDepth 100000 in
theorem l_X7_sizeOf_6 {p : Program} {l : Launch} {e : Env} {s : State} {m : MethodId} {args : Array Value} {below : List Frame} {meth : Method} {c : Code} {D : va_G} {cy : Nat → ClassId} {lay : Nat → Nat} {post : Int32 → MS → Prop} (a0 : Int32) (hC : CallFix p m c cX7_sizeOf 4 s args wsX7_sizeOf RX7) (hr : meth.sig.returnType = some .int) (hlocks : meth.locks = false) (hT : agT D cy lay s) : ∀ (n : Nat), ∀ (σ : MS) (v1 : Int32) (v2 : Int32) (v3 : Int32), u_X7_sizeOf_6 post a0 n σ v1 v2 v3 → ∀ (H : Heap) (locs : List Loc) (ls : Array Slot), agG D cy lay σ (agA lay s.heap.size) s.heap H locs → lv_has ls 4 [(0, .int a0), (1, .int v1), (2, .int v2), (3, .int v3)] → W p l e rm_X7_sizeOf s m args below meth c H locs 0 0 (MQ below (va_Qi post (agO D cy lay) (agA lay s.heap.size)) args s 0 0 (agA lay s.heap.size)) (F0 m 6 ls []) := by
  intro n
  induction n with
  | zero =>
    intro σ v1 v2 v3 h
    exact h.elim
  | succ n ih =>
    intro σ v1 v2 v3 h H locs ls G hl
    rw [u_X7_sizeOf_6] at h
    refine lv_iload_n hC.1 hC.2.1 dX7_sizeOf_6 rfl (lv_at hl 3 rfl) ?_
    refine lv_bipush (v := 6) hC.1 hC.2.1 dX7_sizeOf_7 (by decide) ?_
    refine lv_icmp_ge (tgt := 28) hC.1 hC.2.1 dX7_sizeOf_9 (by decide) (fun c1 => ?_) (fun c1 => ?_)
    · replace h := h.1 c1
      refine lv_iload_n hC.1 hC.2.1 dX7_sizeOf_28 rfl (lv_at hl 1 rfl) ?_
      exact ag_iret hC hr hlocks G h dX7_sizeOf_29
    · replace h := h.2 c1
      refine lv_iload_n hC.1 hC.2.1 dX7_sizeOf_12 rfl (lv_at hl 1 rfl) ?_
      refine lv_iload_n hC.1 hC.2.1 dX7_sizeOf_13 rfl (lv_at hl 2 rfl) ?_
      refine lv_iconst (v := 3) hC.1 hC.2.1 dX7_sizeOf_14 (by decide) ?_
      refine lv_irem hC.1 hC.2.1 dX7_sizeOf_15 (by decide) ?_
      refine lv_iadd hC.1 hC.2.1 dX7_sizeOf_16 ?_
      refine lv_istore_n (lv' := [(1, .int (v1 + (v2 - v2 / 3 * 3))), (0, .int a0), (2, .int v2), (3, .int v3)]) hC.1 hC.2.1 dX7_sizeOf_17 rfl hl (by decide) rfl (fun ls hl => ?_)
      refine lv_iload_n hC.1 hC.2.1 dX7_sizeOf_18 rfl (lv_at hl 2 rfl) ?_
      refine lv_iconst (v := 3) hC.1 hC.2.1 dX7_sizeOf_19 (by decide) ?_
      refine lv_idiv hC.1 hC.2.1 dX7_sizeOf_20 (by decide) ?_
      refine lv_istore_n (lv' := [(2, .int (v2 / 3)), (1, .int (v1 + (v2 - v2 / 3 * 3))), (0, .int a0), (3, .int v3)]) hC.1 hC.2.1 dX7_sizeOf_21 rfl hl (by decide) rfl (fun ls hl => ?_)
      refine lv_iinc (v := v3 + 1) (lv' := [(3, .int (v3 + 1)), (2, .int (v2 / 3)), (1, .int (v1 + (v2 - v2 / 3 * 3))), (0, .int a0)]) hC.1 hC.2.1 dX7_sizeOf_22 hl (k := 3) rfl rfl (by decide) rfl (fun ls hl => ?_)
      refine lv_goto (tgt := 6) hC.1 hC.2.1 dX7_sizeOf_25 (by decide) ?_
      exact ih _ _ _ _ h _ _ _ G (lv_sub hl [3, 2, 1, 0] rfl)
def w_X7_sizeOf (post : Int32 → MS → Prop) (σ : MS) (a0 : Int32) : Prop := (∃ k, u_X7_sizeOf_6 post a0 k σ 0 a0 0)
set_option maxHeartbeats 4000000 in
set_option maxRecDepth 100000 in
theorem c_X7_sizeOf (l : Launch) (D : va_G) (cy : Nat → ClassId) (lay : Nat → Nat) {σ : MS} {post : Int32 → MS → Prop} {a0 : Int32} (h : w_X7_sizeOf post σ a0) (sz : Nat) : Met l yX7_sizeOf wsX7_sizeOf rm_X7_sizeOf (va_Pc [.int a0] (agI D cy lay σ sz)) (va_Qi post (agO D cy lay) (agA lay sz)) 0 0 (agA lay sz) := by
  refine ag_ofW (cc := cX7_sizeOf) (maxL := 4) (ret := some .int) (own := RX7) (Qc := fun sz => va_Qi post (agO D cy lay) (agA lay sz)) (by decide) rfl (Nat.le_of_ble_eq_true rfl) rfl ?_
  intro p e s m args below meth c ls hC hr hlocks hT G hl
  unfold w_X7_sizeOf at h
  have hl : lv_has ls 4 [(0, .int a0)] := hl
  refine lv_iconst (v := 0) hC.1 hC.2.1 dX7_sizeOf_0 (by decide) ?_
  refine lv_istore_n (lv' := [(1, .int 0), (0, .int a0)]) hC.1 hC.2.1 dX7_sizeOf_1 rfl hl (by decide) rfl (fun ls hl => ?_)
  refine lv_iload_n hC.1 hC.2.1 dX7_sizeOf_2 rfl (lv_at hl 1 rfl) ?_
  refine lv_istore_n (lv' := [(2, .int a0), (1, .int 0), (0, .int a0)]) hC.1 hC.2.1 dX7_sizeOf_3 rfl hl (by decide) rfl (fun ls hl => ?_)
  refine lv_iconst (v := 0) hC.1 hC.2.1 dX7_sizeOf_4 (by decide) ?_
  refine lv_istore_n (lv' := [(3, .int 0), (2, .int a0), (1, .int 0), (0, .int a0)]) hC.1 hC.2.1 dX7_sizeOf_5 rfl hl (by decide) rfl (fun ls hl => ?_)
  obtain ⟨n1, h⟩ := h
  exact l_X7_sizeOf_6 a0 hC hr hlocks hT n1 _ _ _ _ h _ _ _ G (lv_sub hl [3, 2, 1, 0] rfl)
theorem hdS_X7_sizeOf : yX7_sizeOf.cls ≠ "java/lang/invoke/MethodHandle" ∧ yX7_sizeOf.cls ≠ "java/lang/invoke/VarHandle" ∧ (parseMethodDescriptor yX7_sizeOf.desc).map (fun d => d.parameters.length) = some 1 := by decide +kernel
abbrev rm_X7_membersAt : Room := { frames := 1, cells := 0, slots := 0, locals := 21 }
def u_X7_membersAt_7 (post : Int32 → MS → Prop) (a0 : Int32) (a1 : Int32) : Nat → MS → Int32 → Int32 → Int32 → Prop
  | 0, _, _, _, _ => False
  | n + 1, σ, v2, v3, v4 => ((14 ≤ v4 → post v2 σ) ∧ (¬ 14 ≤ v4 → w_X7_has (fun r3 σ2 => ((r3 = 0 → u_X7_membersAt_7 post a0 a1 n σ2 v2 v3 (v4 + 1)) ∧ (¬ r3 = 0 → w_X7_has (fun r6 σ5 => ((r6 = 0 → u_X7_membersAt_7 post a0 a1 n σ5 (v2 ||| 0) (v3 + 1) (v4 + 1)) ∧ (¬ r6 = 0 → u_X7_membersAt_7 post a0 a1 n σ5 (v2 ||| (1 <<< (v4 &&& 31))) (v3 + 1) (v4 + 1)))) σ2 a1 v3))) σ a0 v4))
set_option maxHeartbeats 4000000 in
set_option maxRecDepth 100000 in
theorem l_X7_membersAt_7 {p : Program} {l : Launch} {e : Env} {s : State} {m : MethodId} {args : Array Value} {below : List Frame} {meth : Method} {c : Code} {D : va_G} {cy : Nat → ClassId} {lay : Nat → Nat} {post : Int32 → MS → Prop} (a0 : Int32) (a1 : Int32) (hC : CallFix p m c cX7_membersAt 5 s args wsX7_membersAt RX7) (hr : meth.sig.returnType = some .int) (hlocks : meth.locks = false) (hT : agT D cy lay s) : ∀ (n : Nat), ∀ (σ : MS) (v2 : Int32) (v3 : Int32) (v4 : Int32), u_X7_membersAt_7 post a0 a1 n σ v2 v3 v4 → ∀ (H : Heap) (locs : List Loc) (ls : Array Slot), agG D cy lay σ (agA lay s.heap.size) s.heap H locs → lv_has ls 5 [(0, .int a0), (1, .int a1), (2, .int v2), (3, .int v3), (4, .int v4)] → W p l e rm_X7_membersAt s m args below meth c H locs 0 0 (MQ below (va_Qi post (agO D cy lay) (agA lay s.heap.size)) args s 0 0 (agA lay s.heap.size)) (F0 m 7 ls []) := by
  intro n
  induction n with
  | zero =>
    intro σ v2 v3 v4 h
    exact h.elim
  | succ n ih =>
    intro σ v2 v3 v4 h H locs ls G hl
    rw [u_X7_membersAt_7] at h
    refine lv_iload hC.1 hC.2.1 dX7_membersAt_7 (lv_at hl 4 rfl) ?_
    refine lv_bipush (v := 14) hC.1 hC.2.1 dX7_membersAt_9 (by decide) ?_
    refine lv_icmp_ge (tgt := 51) hC.1 hC.2.1 dX7_membersAt_11 (by decide) (fun c1 => ?_) (fun c1 => ?_)
    · replace h := h.1 c1
      refine lv_iload_n hC.1 hC.2.1 dX7_membersAt_51 rfl (lv_at hl 2 rfl) ?_
      exact ag_iret hC hr hlocks G h dX7_membersAt_52
    · replace h := h.2 c1
      refine lv_iload_n hC.1 hC.2.1 dX7_membersAt_14 rfl (lv_at hl 0 rfl) ?_
      refine lv_iload hC.1 hC.2.1 dX7_membersAt_15 (lv_at hl 4 rfl) ?_
      refine ag_i G (ag_runS (As := [.int a0, .int v4]) (rest := []) hC hT G (c_X7_has l D cy lay h _) (va_cwS 2 hC.2.2.2.2 gX7_membersAt_X7_has rfl rfl rfl hdS_X7_has ⟨Nat.le_of_ble_eq_true rfl, Nat.le_of_ble_eq_true rfl⟩) rfl hl.1 rfl (Nat.le_of_ble_eq_true rfl) dX7_membersAt_17 ⟨Nat.le_of_ble_eq_true rfl, Nat.le_of_ble_eq_true rfl⟩) (fun r3 σ2 H locs h G => ?_)
      (try dsimp only at h)
      refine lv_if_eq (tgt := 45) hC.1 hC.2.1 dX7_membersAt_20 (by decide) (fun c4 => ?_) (fun c4 => ?_)
      · replace h := h.1 c4
        refine lv_iinc (v := v4 + 1) (lv' := [(4, .int (v4 + 1)), (0, .int a0), (1, .int a1), (2, .int v2), (3, .int v3)]) hC.1 hC.2.1 dX7_membersAt_45 hl (k := 4) rfl rfl (by decide) rfl (fun ls hl => ?_)
        refine lv_goto (tgt := 7) hC.1 hC.2.1 dX7_membersAt_48 (by decide) ?_
        exact ih _ _ _ _ h _ _ _ G (lv_sub hl [1, 2, 3, 4, 0] rfl)
      · replace h := h.2 c4
        refine lv_iload_n hC.1 hC.2.1 dX7_membersAt_23 rfl (lv_at hl 2 rfl) ?_
        refine lv_iload_n hC.1 hC.2.1 dX7_membersAt_24 rfl (lv_at hl 1 rfl) ?_
        refine lv_iload_n hC.1 hC.2.1 dX7_membersAt_25 rfl (lv_at hl 3 rfl) ?_
        refine ag_i G (ag_runS (As := [.int a1, .int v3]) (rest := [.int v2]) hC hT G (c_X7_has l D cy lay h _) (va_cwS 2 hC.2.2.2.2 gX7_membersAt_X7_has rfl rfl rfl hdS_X7_has ⟨Nat.le_of_ble_eq_true rfl, Nat.le_of_ble_eq_true rfl⟩) rfl hl.1 rfl (Nat.le_of_ble_eq_true rfl) dX7_membersAt_26 ⟨Nat.le_of_ble_eq_true rfl, Nat.le_of_ble_eq_true rfl⟩) (fun r6 σ5 H locs h G => ?_)
        (try dsimp only at h)
        refine lv_if_eq (tgt := 39) hC.1 hC.2.1 dX7_membersAt_29 (by decide) (fun c7 => ?_) (fun c7 => ?_)
        · replace h := h.1 c7
          refine lv_iconst (v := 0) hC.1 hC.2.1 dX7_membersAt_39 (by decide) ?_
          refine lv_ior hC.1 hC.2.1 dX7_membersAt_40 ?_
          refine lv_istore_n (lv' := [(2, .int (v2 ||| 0)), (0, .int a0), (1, .int a1), (3, .int v3), (4, .int v4)]) hC.1 hC.2.1 dX7_membersAt_41 rfl hl (by decide) rfl (fun ls hl => ?_)
          refine lv_iinc (v := v3 + 1) (lv' := [(3, .int (v3 + 1)), (2, .int (v2 ||| 0)), (0, .int a0), (1, .int a1), (4, .int v4)]) hC.1 hC.2.1 dX7_membersAt_42 hl (k := 3) rfl rfl (by decide) rfl (fun ls hl => ?_)
          refine lv_iinc (v := v4 + 1) (lv' := [(4, .int (v4 + 1)), (3, .int (v3 + 1)), (2, .int (v2 ||| 0)), (0, .int a0), (1, .int a1)]) hC.1 hC.2.1 dX7_membersAt_45 hl (k := 4) rfl rfl (by decide) rfl (fun ls hl => ?_)
          refine lv_goto (tgt := 7) hC.1 hC.2.1 dX7_membersAt_48 (by decide) ?_
          exact ih _ _ _ _ h _ _ _ G (lv_sub hl [3, 4, 2, 1, 0] rfl)
        · replace h := h.2 c7
          refine lv_iconst (v := 1) hC.1 hC.2.1 dX7_membersAt_32 (by decide) ?_
          refine lv_iload hC.1 hC.2.1 dX7_membersAt_33 (lv_at hl 4 rfl) ?_
          refine lv_ishl hC.1 hC.2.1 dX7_membersAt_35 ?_
          refine lv_goto (tgt := 40) hC.1 hC.2.1 dX7_membersAt_36 (by decide) ?_
          refine lv_ior hC.1 hC.2.1 dX7_membersAt_40 ?_
          refine lv_istore_n (lv' := [(2, .int (v2 ||| (1 <<< (v4 &&& 31)))), (0, .int a0), (1, .int a1), (3, .int v3), (4, .int v4)]) hC.1 hC.2.1 dX7_membersAt_41 rfl hl (by decide) rfl (fun ls hl => ?_)
          refine lv_iinc (v := v3 + 1) (lv' := [(3, .int (v3 + 1)), (2, .int (v2 ||| (1 <<< (v4 &&& 31)))), (0, .int a0), (1, .int a1), (4, .int v4)]) hC.1 hC.2.1 dX7_membersAt_42 hl (k := 3) rfl rfl (by decide) rfl (fun ls hl => ?_)
          refine lv_iinc (v := v4 + 1) (lv' := [(4, .int (v4 + 1)), (3, .int (v3 + 1)), (2, .int (v2 ||| (1 <<< (v4 &&& 31)))), (0, .int a0), (1, .int a1)]) hC.1 hC.2.1 dX7_membersAt_45 hl (k := 4) rfl rfl (by decide) rfl (fun ls hl => ?_)
          refine lv_goto (tgt := 7) hC.1 hC.2.1 dX7_membersAt_48 (by decide) ?_
          exact ih _ _ _ _ h _ _ _ G (lv_sub hl [3, 4, 2, 1, 0] rfl)
def w_X7_membersAt (post : Int32 → MS → Prop) (σ : MS) (a0 : Int32) (a1 : Int32) : Prop := (∃ k, u_X7_membersAt_7 post a0 a1 k σ 0 0 0)
set_option maxHeartbeats 4000000 in
set_option maxRecDepth 100000 in
theorem c_X7_membersAt (l : Launch) (D : va_G) (cy : Nat → ClassId) (lay : Nat → Nat) {σ : MS} {post : Int32 → MS → Prop} {a0 : Int32} {a1 : Int32} (h : w_X7_membersAt post σ a0 a1) (sz : Nat) : Met l yX7_membersAt wsX7_membersAt rm_X7_membersAt (va_Pc [.int a0, .int a1] (agI D cy lay σ sz)) (va_Qi post (agO D cy lay) (agA lay sz)) 0 0 (agA lay sz) := by
  refine ag_ofW (cc := cX7_membersAt) (maxL := 5) (ret := some .int) (own := RX7) (Qc := fun sz => va_Qi post (agO D cy lay) (agA lay sz)) (by decide) rfl (Nat.le_of_ble_eq_true rfl) rfl ?_
  intro p e s m args below meth c ls hC hr hlocks hT G hl
  unfold w_X7_membersAt at h
  have hl : lv_has ls 5 [(0, .int a0), (1, .int a1)] := hl
  refine lv_iconst (v := 0) hC.1 hC.2.1 dX7_membersAt_0 (by decide) ?_
  refine lv_istore_n (lv' := [(2, .int 0), (0, .int a0), (1, .int a1)]) hC.1 hC.2.1 dX7_membersAt_1 rfl hl (by decide) rfl (fun ls hl => ?_)
  refine lv_iconst (v := 0) hC.1 hC.2.1 dX7_membersAt_2 (by decide) ?_
  refine lv_istore_n (lv' := [(3, .int 0), (2, .int 0), (0, .int a0), (1, .int a1)]) hC.1 hC.2.1 dX7_membersAt_3 rfl hl (by decide) rfl (fun ls hl => ?_)
  refine lv_iconst (v := 0) hC.1 hC.2.1 dX7_membersAt_4 (by decide) ?_
  refine lv_istore (lv' := [(4, .int 0), (3, .int 0), (2, .int 0), (0, .int a0), (1, .int a1)]) hC.1 hC.2.1 dX7_membersAt_5 hl (by decide) rfl (fun ls hl => ?_)
  obtain ⟨n1, h⟩ := h
  exact l_X7_membersAt_7 a0 a1 hC hr hlocks hT n1 _ _ _ _ h _ _ _ G (lv_sub hl [3, 4, 2, 1, 0] rfl)
theorem hdS_X7_membersAt : yX7_membersAt.cls ≠ "java/lang/invoke/MethodHandle" ∧ yX7_membersAt.cls ≠ "java/lang/invoke/VarHandle" ∧ (parseMethodDescriptor yX7_membersAt.desc).map (fun d => d.parameters.length) = some 2 := by decide +kernel
abbrev rm_X7_priceOf : Room := { frames := 0, cells := 0, slots := 0, locals := 0 }
def w_X7_priceOf (post : Int32 → MS → Prop) (σ : MS) (a0 : Int32) : Prop := post (((a0 * 6) / 5) + 50) σ
set_option maxHeartbeats 4000000 in
set_option maxRecDepth 100000 in
theorem c_X7_priceOf (l : Launch) (D : va_G) (cy : Nat → ClassId) (lay : Nat → Nat) {σ : MS} {post : Int32 → MS → Prop} {a0 : Int32} (h : w_X7_priceOf post σ a0) (sz : Nat) : Met l yX7_priceOf wsX7_priceOf rm_X7_priceOf (va_Pc [.int a0] (agI D cy lay σ sz)) (va_Qi post (agO D cy lay) (agA lay sz)) 0 0 (agA lay sz) := by
  refine ag_ofW (cc := cX7_priceOf) (maxL := 1) (ret := some .int) (own := RX7) (Qc := fun sz => va_Qi post (agO D cy lay) (agA lay sz)) (by decide) rfl (Nat.le_of_ble_eq_true rfl) rfl ?_
  intro p e s m args below meth c ls hC hr hlocks hT G hl
  unfold w_X7_priceOf at h
  have hl : lv_has ls 1 [(0, .int a0)] := hl
  refine lv_iload_n hC.1 hC.2.1 dX7_priceOf_0 rfl (lv_at hl 0 rfl) ?_
  refine lv_bipush (v := 6) hC.1 hC.2.1 dX7_priceOf_1 (by decide) ?_
  refine lv_imul hC.1 hC.2.1 dX7_priceOf_3 ?_
  refine lv_iconst (v := 5) hC.1 hC.2.1 dX7_priceOf_4 (by decide) ?_
  refine lv_idiv hC.1 hC.2.1 dX7_priceOf_5 (by decide) ?_
  refine lv_bipush (v := 50) hC.1 hC.2.1 dX7_priceOf_6 (by decide) ?_
  refine lv_iadd hC.1 hC.2.1 dX7_priceOf_8 ?_
  exact ag_iret hC hr hlocks G h dX7_priceOf_9
theorem hdS_X7_priceOf : yX7_priceOf.cls ≠ "java/lang/invoke/MethodHandle" ∧ yX7_priceOf.cls ≠ "java/lang/invoke/VarHandle" ∧ (parseMethodDescriptor yX7_priceOf.desc).map (fun d => d.parameters.length) = some 1 := by decide +kernel
abbrev rm_X7_countInState : Room := { frames := 0, cells := 0, slots := 0, locals := 0 }
theorem i_X7_countInState_X7 : ∀ w ∈ wsX70, w ∈ wsX7_countInState := fun _ h => List.mem_cons_of_mem _ (List.mem_append_left _ (List.mem_append_right _ h))
theorem i_X7_countInState_X6 : ∀ w ∈ wsX60, w ∈ wsX7_countInState := fun _ h => List.mem_cons_of_mem _ (List.mem_append_right _ h)
def u_X7_countInState_4 (post : Int32 → MS → Prop) (a1 : Int32) : Nat → MS → Int32 → Int32 → Prop
  | 0, _, _, _ => False
  | n + 1, σ, v2, v3 => (((σ 0 8) ≤ v3 → post v2 σ) ∧ (¬ (σ 0 8) ≤ v3 → (vp_in v3 14 ∧ (((σ (73 + (Int32.toNatClampNeg v3)) 7) = a1 → u_X7_countInState_4 post a1 n σ (v2 + 1) (v3 + 1)) ∧ (¬ (σ (73 + (Int32.toNatClampNeg v3)) 7) = a1 → u_X7_countInState_4 post a1 n σ v2 (v3 + 1))))))
set_option maxHeartbeats 4000000 in
set_option maxRecDepth 100000 in
theorem l_X7_countInState_4 {p : Program} {l : Launch} {e : Env} {s : State} {m : MethodId} {args : Array Value} {below : List Frame} {meth : Method} {c : Code} {D : va_G} {cy : Nat → ClassId} {lay : Nat → Nat} {post : Int32 → MS → Prop} (a1 : Int32) (hC : CallFix p m c cX7_countInState 4 s args wsX7_countInState RX7) (hr : meth.sig.returnType = some .int) (hlocks : meth.locks = false) (hT : agT D cy lay s) : ∀ (n : Nat), ∀ (σ : MS) (v2 : Int32) (v3 : Int32), u_X7_countInState_4 post a1 n σ v2 v3 → ∀ (H : Heap) (locs : List Loc) (ls : Array Slot), agG D cy lay σ (agA lay s.heap.size) s.heap H locs → lv_has ls 4 [(0, .ref (lay 0)), (1, .int a1), (2, .int v2), (3, .int v3)] → W p l e rm_X7_countInState s m args below meth c H locs 0 0 (MQ below (va_Qi post (agO D cy lay) (agA lay s.heap.size)) args s 0 0 (agA lay s.heap.size)) (F0 m 4 ls []) := by
  intro n
  induction n with
  | zero =>
    intro σ v2 v3 h
    exact h.elim
  | succ n ih =>
    intro σ v2 v3 h H locs ls G hl
    rw [u_X7_countInState_4] at h
    refine lv_iload_n hC.1 hC.2.1 dX7_countInState_4 rfl (lv_at hl 3 rfl) ?_
    refine lv_aload_n hC.1 hC.2.1 dX7_countInState_5 rfl (lv_at hl 0 rfl) ?_
    refine ag_get hC hT G (by decide) e_ag k_X7 i_X7_countInState_X7 8 (by decide) (wm 1 rfl) rfl dX7_countInState_6 ?_
    refine lv_icmp_ge (tgt := 34) hC.1 hC.2.1 dX7_countInState_9 (by decide) (fun c1 => ?_) (fun c1 => ?_)
    · replace h := h.1 c1
      refine lv_iload_n hC.1 hC.2.1 dX7_countInState_34 rfl (lv_at hl 2 rfl) ?_
      exact ag_iret hC hr hlocks G h dX7_countInState_35
    · replace h := h.2 c1
      refine lv_aload_n hC.1 hC.2.1 dX7_countInState_12 rfl (lv_at hl 0 rfl) ?_
      refine ag_get hC hT G (by decide) e_ag k_X7 i_X7_countInState_X7 3 (by decide) (wm 2 rfl) rfl dX7_countInState_13 ?_
      refine lv_iload_n hC.1 hC.2.1 dX7_countInState_16 rfl (lv_at hl 3 rfl) ?_
      obtain ⟨hn2, h⟩ := h
      refine ag_aald hC hT G (by decide) _ rfl e_wds hn2 dX7_countInState_17 ?_
      refine ag_get hC hT G (k_wd (vlt hn2)) (e_wd (vlt hn2)) k_X6 i_X7_countInState_X6 7 (by decide) (wm 3 rfl) rfl dX7_countInState_18 ?_
      refine lv_iload_n hC.1 hC.2.1 dX7_countInState_21 rfl (lv_at hl 1 rfl) ?_
      refine lv_icmp_ne (tgt := 28) hC.1 hC.2.1 dX7_countInState_22 (by decide) (fun c3 => ?_) (fun c3 => ?_)
      · replace h := h.2 c3
        refine lv_iinc (v := v3 + 1) (lv' := [(3, .int (v3 + 1)), (0, .ref (lay 0)), (1, .int a1), (2, .int v2)]) hC.1 hC.2.1 dX7_countInState_28 hl (k := 3) rfl rfl (by decide) rfl (fun ls hl => ?_)
        refine lv_goto (tgt := 4) hC.1 hC.2.1 dX7_countInState_31 (by decide) ?_
        exact ih _ _ _ h _ _ _ G (lv_sub hl [1, 2, 3, 0] rfl)
      · replace h := h.1 c3
        refine lv_iinc (v := v2 + 1) (lv' := [(2, .int (v2 + 1)), (0, .ref (lay 0)), (1, .int a1), (3, .int v3)]) hC.1 hC.2.1 dX7_countInState_25 hl (k := 2) rfl rfl (by decide) rfl (fun ls hl => ?_)
        refine lv_iinc (v := v3 + 1) (lv' := [(3, .int (v3 + 1)), (2, .int (v2 + 1)), (0, .ref (lay 0)), (1, .int a1)]) hC.1 hC.2.1 dX7_countInState_28 hl (k := 3) rfl rfl (by decide) rfl (fun ls hl => ?_)
        refine lv_goto (tgt := 4) hC.1 hC.2.1 dX7_countInState_31 (by decide) ?_
        exact ih _ _ _ h _ _ _ G (lv_sub hl [2, 3, 1, 0] rfl)
def w_X7_countInState (post : Int32 → MS → Prop) (σ : MS) (a1 : Int32) : Prop := (∃ k, u_X7_countInState_4 post a1 k σ 0 0)
set_option maxHeartbeats 4000000 in
set_option maxRecDepth 100000 in
theorem c_X7_countInState (l : Launch) (D : va_G) (cy : Nat → ClassId) (lay : Nat → Nat) {σ : MS} {post : Int32 → MS → Prop} {a1 : Int32} (h : w_X7_countInState post σ a1) (sz : Nat) : Met l yX7_countInState wsX7_countInState rm_X7_countInState (va_Pc [.ref (lay 0), .int a1] (agI D cy lay σ sz)) (va_Qi post (agO D cy lay) (agA lay sz)) 0 0 (agA lay sz) := by
  refine ag_ofW (cc := cX7_countInState) (maxL := 4) (ret := some .int) (own := RX7) (Qc := fun sz => va_Qi post (agO D cy lay) (agA lay sz)) (by decide) rfl (Nat.le_of_ble_eq_true rfl) rfl ?_
  intro p e s m args below meth c ls hC hr hlocks hT G hl
  unfold w_X7_countInState at h
  have hl : lv_has ls 4 [(0, .ref (lay 0)), (1, .int a1)] := hl
  refine lv_iconst (v := 0) hC.1 hC.2.1 dX7_countInState_0 (by decide) ?_
  refine lv_istore_n (lv' := [(2, .int 0), (0, .ref (lay 0)), (1, .int a1)]) hC.1 hC.2.1 dX7_countInState_1 rfl hl (by decide) rfl (fun ls hl => ?_)
  refine lv_iconst (v := 0) hC.1 hC.2.1 dX7_countInState_2 (by decide) ?_
  refine lv_istore_n (lv' := [(3, .int 0), (2, .int 0), (0, .ref (lay 0)), (1, .int a1)]) hC.1 hC.2.1 dX7_countInState_3 rfl hl (by decide) rfl (fun ls hl => ?_)
  obtain ⟨n1, h⟩ := h
  exact l_X7_countInState_4 a1 hC hr hlocks hT n1 _ _ _ h _ _ _ G (lv_sub hl [2, 3, 1, 0] rfl)
theorem hdV_X7_countInState : yX7_countInState.cls = RX7 ∧ yX7_countInState.cls ≠ "java/lang/invoke/MethodHandle" ∧ yX7_countInState.cls ≠ "java/lang/invoke/VarHandle" ∧ (parseMethodDescriptor yX7_countInState.desc).map (fun d => d.parameters.length) = some 1 := by decide +kernel
abbrev rm_X7_isTaken : Room := { frames := 0, cells := 0, slots := 0, locals := 0 }
theorem i_X7_isTaken_X7 : ∀ w ∈ wsX70, w ∈ wsX7_isTaken := fun _ h => List.mem_cons_of_mem _ (List.mem_append_left _ (List.mem_append_right _ h))
theorem i_X7_isTaken_X6 : ∀ w ∈ wsX60, w ∈ wsX7_isTaken := fun _ h => List.mem_cons_of_mem _ (List.mem_append_right _ h)
def u_X7_isTaken_2 (post : Int32 → MS → Prop) (a1 : Int32) (a2 : Int32) : Nat → MS → Int32 → Prop
  | 0, _, _ => False
  | n + 1, σ, v3 => (((σ 0 8) ≤ v3 → post 0 σ) ∧ (¬ (σ 0 8) ≤ v3 → (vp_in v3 14 ∧ (((σ (73 + (Int32.toNatClampNeg v3)) 7) = 1 → (((σ (73 + (Int32.toNatClampNeg v3)) 0) = a1 → (((σ (73 + (Int32.toNatClampNeg v3)) 1) = a2 → post 1 σ) ∧ (¬ (σ (73 + (Int32.toNatClampNeg v3)) 1) = a2 → u_X7_isTaken_2 post a1 a2 n σ (v3 + 1)))) ∧ (¬ (σ (73 + (Int32.toNatClampNeg v3)) 0) = a1 → u_X7_isTaken_2 post a1 a2 n σ (v3 + 1)))) ∧ (¬ (σ (73 + (Int32.toNatClampNeg v3)) 7) = 1 → u_X7_isTaken_2 post a1 a2 n σ (v3 + 1))))))
set_option maxHeartbeats 4000000 in
set_option maxRecDepth 100000 in
theorem l_X7_isTaken_2 {p : Program} {l : Launch} {e : Env} {s : State} {m : MethodId} {args : Array Value} {below : List Frame} {meth : Method} {c : Code} {D : va_G} {cy : Nat → ClassId} {lay : Nat → Nat} {post : Int32 → MS → Prop} (a1 : Int32) (a2 : Int32) (hC : CallFix p m c cX7_isTaken 5 s args wsX7_isTaken RX7) (hr : meth.sig.returnType = some .boolean) (hlocks : meth.locks = false) (hT : agT D cy lay s) : ∀ (n : Nat), ∀ (σ : MS) (v3 : Int32), u_X7_isTaken_2 post a1 a2 n σ v3 → ∀ (H : Heap) (locs : List Loc) (ls : Array Slot), agG D cy lay σ (agA lay s.heap.size) s.heap H locs → lv_has ls 5 [(0, .ref (lay 0)), (1, .int a1), (2, .int a2), (3, .int v3)] → W p l e rm_X7_isTaken s m args below meth c H locs 0 0 (MQ below (va_Qi post (agO D cy lay) (agA lay s.heap.size)) args s 0 0 (agA lay s.heap.size)) (F0 m 2 ls []) := by
  intro n
  induction n with
  | zero =>
    intro σ v3 h
    exact h.elim
  | succ n ih =>
    intro σ v3 h H locs ls G hl
    rw [u_X7_isTaken_2] at h
    refine lv_iload_n hC.1 hC.2.1 dX7_isTaken_2 rfl (lv_at hl 3 rfl) ?_
    refine lv_aload_n hC.1 hC.2.1 dX7_isTaken_3 rfl (lv_at hl 0 rfl) ?_
    refine ag_get hC hT G (by decide) e_ag k_X7 i_X7_isTaken_X7 8 (by decide) (wm 1 rfl) rfl dX7_isTaken_4 ?_
    refine lv_icmp_ge (tgt := 53) hC.1 hC.2.1 dX7_isTaken_7 (by decide) (fun c1 => ?_) (fun c1 => ?_)
    · replace h := h.1 c1
      refine lv_iconst (v := 0) hC.1 hC.2.1 dX7_isTaken_53 (by decide) ?_
      exact ag_zret hC hr hlocks G rfl h dX7_isTaken_54
    · replace h := h.2 c1
      refine lv_aload_n hC.1 hC.2.1 dX7_isTaken_10 rfl (lv_at hl 0 rfl) ?_
      refine ag_get hC hT G (by decide) e_ag k_X7 i_X7_isTaken_X7 3 (by decide) (wm 2 rfl) rfl dX7_isTaken_11 ?_
      refine lv_iload_n hC.1 hC.2.1 dX7_isTaken_14 rfl (lv_at hl 3 rfl) ?_
      obtain ⟨hn2, h⟩ := h
      refine ag_aald hC hT G (by decide) _ rfl e_wds hn2 dX7_isTaken_15 ?_
      refine lv_astore (lv' := [(4, .ref (lay (73 + (Int32.toNatClampNeg v3)))), (0, .ref (lay 0)), (1, .int a1), (2, .int a2), (3, .int v3)]) hC.1 hC.2.1 dX7_isTaken_16 hl (by decide) rfl (fun ls hl => ?_)
      refine lv_aload hC.1 hC.2.1 dX7_isTaken_18 (lv_at hl 0 rfl) ?_
      refine ag_get hC hT G (k_wd (vlt hn2)) (e_wd (vlt hn2)) k_X6 i_X7_isTaken_X6 7 (by decide) (wm 3 rfl) rfl dX7_isTaken_20 ?_
      refine lv_iconst (v := 1) hC.1 hC.2.1 dX7_isTaken_23 (by decide) ?_
      refine lv_icmp_ne (tgt := 47) hC.1 hC.2.1 dX7_isTaken_24 (by decide) (fun c3 => ?_) (fun c3 => ?_)
      · replace h := h.2 c3
        refine lv_iinc (v := v3 + 1) (lv' := [(3, .int (v3 + 1)), (4, .ref (lay (73 + (Int32.toNatClampNeg v3)))), (0, .ref (lay 0)), (1, .int a1), (2, .int a2)]) hC.1 hC.2.1 dX7_isTaken_47 hl (k := 4) rfl rfl (by decide) rfl (fun ls hl => ?_)
        refine lv_goto (tgt := 2) hC.1 hC.2.1 dX7_isTaken_50 (by decide) ?_
        exact ih _ _ h _ _ _ G (lv_sub hl [2, 3, 4, 0] rfl)
      · replace h := h.1 c3
        refine lv_aload hC.1 hC.2.1 dX7_isTaken_27 (lv_at hl 0 rfl) ?_
        refine ag_get hC hT G (k_wd (vlt hn2)) (e_wd (vlt hn2)) k_X6 i_X7_isTaken_X6 0 (by decide) (wm 4 rfl) rfl dX7_isTaken_29 ?_
        refine lv_iload_n hC.1 hC.2.1 dX7_isTaken_32 rfl (lv_at hl 2 rfl) ?_
        refine lv_icmp_ne (tgt := 47) hC.1 hC.2.1 dX7_isTaken_33 (by decide) (fun c4 => ?_) (fun c4 => ?_)
        · replace h := h.2 c4
          refine lv_iinc (v := v3 + 1) (lv' := [(3, .int (v3 + 1)), (4, .ref (lay (73 + (Int32.toNatClampNeg v3)))), (0, .ref (lay 0)), (1, .int a1), (2, .int a2)]) hC.1 hC.2.1 dX7_isTaken_47 hl (k := 4) rfl rfl (by decide) rfl (fun ls hl => ?_)
          refine lv_goto (tgt := 2) hC.1 hC.2.1 dX7_isTaken_50 (by decide) ?_
          exact ih _ _ h _ _ _ G (lv_sub hl [2, 3, 4, 0] rfl)
        · replace h := h.1 c4
          refine lv_aload hC.1 hC.2.1 dX7_isTaken_36 (lv_at hl 0 rfl) ?_
          refine ag_get hC hT G (k_wd (vlt hn2)) (e_wd (vlt hn2)) k_X6 i_X7_isTaken_X6 1 (by decide) (wm 5 rfl) rfl dX7_isTaken_38 ?_
          refine lv_iload_n hC.1 hC.2.1 dX7_isTaken_41 rfl (lv_at hl 3 rfl) ?_
          refine lv_icmp_ne (tgt := 47) hC.1 hC.2.1 dX7_isTaken_42 (by decide) (fun c5 => ?_) (fun c5 => ?_)
          · replace h := h.2 c5
            refine lv_iinc (v := v3 + 1) (lv' := [(3, .int (v3 + 1)), (4, .ref (lay (73 + (Int32.toNatClampNeg v3)))), (0, .ref (lay 0)), (1, .int a1), (2, .int a2)]) hC.1 hC.2.1 dX7_isTaken_47 hl (k := 4) rfl rfl (by decide) rfl (fun ls hl => ?_)
            refine lv_goto (tgt := 2) hC.1 hC.2.1 dX7_isTaken_50 (by decide) ?_
            exact ih _ _ h _ _ _ G (lv_sub hl [2, 3, 4, 0] rfl)
          · replace h := h.1 c5
            refine lv_iconst (v := 1) hC.1 hC.2.1 dX7_isTaken_45 (by decide) ?_
            exact ag_zret hC hr hlocks G rfl h dX7_isTaken_46
def w_X7_isTaken (post : Int32 → MS → Prop) (σ : MS) (a1 : Int32) (a2 : Int32) : Prop := (∃ k, u_X7_isTaken_2 post a1 a2 k σ 0)
set_option maxHeartbeats 4000000 in
set_option maxRecDepth 100000 in
theorem c_X7_isTaken (l : Launch) (D : va_G) (cy : Nat → ClassId) (lay : Nat → Nat) {σ : MS} {post : Int32 → MS → Prop} {a1 : Int32} {a2 : Int32} (h : w_X7_isTaken post σ a1 a2) (sz : Nat) : Met l yX7_isTaken wsX7_isTaken rm_X7_isTaken (va_Pc [.ref (lay 0), .int a1, .int a2] (agI D cy lay σ sz)) (va_Qi post (agO D cy lay) (agA lay sz)) 0 0 (agA lay sz) := by
  refine ag_ofW (cc := cX7_isTaken) (maxL := 5) (ret := some .boolean) (own := RX7) (Qc := fun sz => va_Qi post (agO D cy lay) (agA lay sz)) (by decide) rfl (Nat.le_of_ble_eq_true rfl) rfl ?_
  intro p e s m args below meth c ls hC hr hlocks hT G hl
  unfold w_X7_isTaken at h
  have hl : lv_has ls 5 [(0, .ref (lay 0)), (1, .int a1), (2, .int a2)] := hl
  refine lv_iconst (v := 0) hC.1 hC.2.1 dX7_isTaken_0 (by decide) ?_
  refine lv_istore_n (lv' := [(3, .int 0), (0, .ref (lay 0)), (1, .int a1), (2, .int a2)]) hC.1 hC.2.1 dX7_isTaken_1 rfl hl (by decide) rfl (fun ls hl => ?_)
  obtain ⟨n1, h⟩ := h
  exact l_X7_isTaken_2 a1 a2 hC hr hlocks hT n1 _ _ h _ _ _ G (lv_sub hl [1, 2, 3, 0] rfl)
theorem hdV_X7_isTaken : yX7_isTaken.cls = RX7 ∧ yX7_isTaken.cls ≠ "java/lang/invoke/MethodHandle" ∧ yX7_isTaken.cls ≠ "java/lang/invoke/VarHandle" ∧ (parseMethodDescriptor yX7_isTaken.desc).map (fun d => d.parameters.length) = some 2 := by decide +kernel
abbrev rm_X7_areInOneQueue : Room := { frames := 0, cells := 0, slots := 0, locals := 0 }
theorem i_X7_areInOneQueue_X7 : ∀ w ∈ wsX70, w ∈ wsX7_areInOneQueue := fun _ h => List.mem_cons_of_mem _ (List.mem_append_left _ (List.mem_append_right _ h))
theorem i_X7_areInOneQueue_X6 : ∀ w ∈ wsX60, w ∈ wsX7_areInOneQueue := fun _ h => List.mem_cons_of_mem _ (List.mem_append_right _ h)
def w_X7_areInOneQueue (post : Int32 → MS → Prop) (σ : MS) (a1 : Int32) (a2 : Int32) : Prop := (vp_in a1 14 ∧ (vp_in a2 14 ∧ (((σ (73 + (Int32.toNatClampNeg a1)) 7) = 0 → (((σ (73 + (Int32.toNatClampNeg a2)) 7) = 0 → (((σ (73 + (Int32.toNatClampNeg a1)) 0) = (σ (73 + (Int32.toNatClampNeg a2)) 0) → (((σ (73 + (Int32.toNatClampNeg a1)) 1) = (σ (73 + (Int32.toNatClampNeg a2)) 1) → post 1 σ) ∧ (¬ (σ (73 + (Int32.toNatClampNeg a1)) 1) = (σ (73 + (Int32.toNatClampNeg a2)) 1) → post 0 σ))) ∧ (¬ (σ (73 + (Int32.toNatClampNeg a1)) 0) = (σ (73 + (Int32.toNatClampNeg a2)) 0) → post 0 σ))) ∧ (¬ (σ (73 + (Int32.toNatClampNeg a2)) 7) = 0 → post 0 σ))) ∧ (¬ (σ (73 + (Int32.toNatClampNeg a1)) 7) = 0 → post 0 σ))))
set_option maxHeartbeats 4000000 in
set_option maxRecDepth 100000 in
theorem c_X7_areInOneQueue (l : Launch) (D : va_G) (cy : Nat → ClassId) (lay : Nat → Nat) {σ : MS} {post : Int32 → MS → Prop} {a1 : Int32} {a2 : Int32} (h : w_X7_areInOneQueue post σ a1 a2) (sz : Nat) : Met l yX7_areInOneQueue wsX7_areInOneQueue rm_X7_areInOneQueue (va_Pc [.ref (lay 0), .int a1, .int a2] (agI D cy lay σ sz)) (va_Qi post (agO D cy lay) (agA lay sz)) 0 0 (agA lay sz) := by
  refine ag_ofW (cc := cX7_areInOneQueue) (maxL := 5) (ret := some .boolean) (own := RX7) (Qc := fun sz => va_Qi post (agO D cy lay) (agA lay sz)) (by decide) rfl (Nat.le_of_ble_eq_true rfl) rfl ?_
  intro p e s m args below meth c ls hC hr hlocks hT G hl
  unfold w_X7_areInOneQueue at h
  have hl : lv_has ls 5 [(0, .ref (lay 0)), (1, .int a1), (2, .int a2)] := hl
  refine lv_aload_n hC.1 hC.2.1 dX7_areInOneQueue_0 rfl (lv_at hl 0 rfl) ?_
  refine ag_get hC hT G (by decide) e_ag k_X7 i_X7_areInOneQueue_X7 3 (by decide) (wm 1 rfl) rfl dX7_areInOneQueue_1 ?_
  refine lv_iload_n hC.1 hC.2.1 dX7_areInOneQueue_4 rfl (lv_at hl 1 rfl) ?_
  obtain ⟨hn1, h⟩ := h
  refine ag_aald hC hT G (by decide) _ rfl e_wds hn1 dX7_areInOneQueue_5 ?_
  refine lv_astore_n (lv' := [(3, .ref (lay (73 + (Int32.toNatClampNeg a1)))), (0, .ref (lay 0)), (1, .int a1), (2, .int a2)]) hC.1 hC.2.1 dX7_areInOneQueue_6 rfl hl (by decide) rfl (fun ls hl => ?_)
  refine lv_aload_n hC.1 hC.2.1 dX7_areInOneQueue_7 rfl (lv_at hl 1 rfl) ?_
  refine ag_get hC hT G (by decide) e_ag k_X7 i_X7_areInOneQueue_X7 3 (by decide) (wm 1 rfl) rfl dX7_areInOneQueue_8 ?_
  refine lv_iload_n hC.1 hC.2.1 dX7_areInOneQueue_11 rfl (lv_at hl 3 rfl) ?_
  obtain ⟨hn2, h⟩ := h
  refine ag_aald hC hT G (by decide) _ rfl e_wds hn2 dX7_areInOneQueue_12 ?_
  refine lv_astore (lv' := [(4, .ref (lay (73 + (Int32.toNatClampNeg a2)))), (3, .ref (lay (73 + (Int32.toNatClampNeg a1)))), (0, .ref (lay 0)), (1, .int a1), (2, .int a2)]) hC.1 hC.2.1 dX7_areInOneQueue_13 hl (by decide) rfl (fun ls hl => ?_)
  refine lv_aload_n hC.1 hC.2.1 dX7_areInOneQueue_15 rfl (lv_at hl 1 rfl) ?_
  refine ag_get hC hT G (k_wd (vlt hn1)) (e_wd (vlt hn1)) k_X6 i_X7_areInOneQueue_X6 7 (by decide) (wm 2 rfl) rfl dX7_areInOneQueue_16 ?_
  refine lv_if_ne (tgt := 58) hC.1 hC.2.1 dX7_areInOneQueue_19 (by decide) (fun c3 => ?_) (fun c3 => ?_)
  · replace h := h.2 c3
    refine lv_iconst (v := 0) hC.1 hC.2.1 dX7_areInOneQueue_58 (by decide) ?_
    exact ag_zret hC hr hlocks G rfl h dX7_areInOneQueue_59
  · replace h := h.1 c3
    refine lv_aload hC.1 hC.2.1 dX7_areInOneQueue_22 (lv_at hl 0 rfl) ?_
    refine ag_get hC hT G (k_wd (vlt hn2)) (e_wd (vlt hn2)) k_X6 i_X7_areInOneQueue_X6 7 (by decide) (wm 2 rfl) rfl dX7_areInOneQueue_24 ?_
    refine lv_if_ne (tgt := 58) hC.1 hC.2.1 dX7_areInOneQueue_27 (by decide) (fun c4 => ?_) (fun c4 => ?_)
    · replace h := h.2 c4
      refine lv_iconst (v := 0) hC.1 hC.2.1 dX7_areInOneQueue_58 (by decide) ?_
      exact ag_zret hC hr hlocks G rfl h dX7_areInOneQueue_59
    · replace h := h.1 c4
      refine lv_aload_n hC.1 hC.2.1 dX7_areInOneQueue_30 rfl (lv_at hl 1 rfl) ?_
      refine ag_get hC hT G (k_wd (vlt hn1)) (e_wd (vlt hn1)) k_X6 i_X7_areInOneQueue_X6 0 (by decide) (wm 3 rfl) rfl dX7_areInOneQueue_31 ?_
      refine lv_aload hC.1 hC.2.1 dX7_areInOneQueue_34 (lv_at hl 0 rfl) ?_
      refine ag_get hC hT G (k_wd (vlt hn2)) (e_wd (vlt hn2)) k_X6 i_X7_areInOneQueue_X6 0 (by decide) (wm 3 rfl) rfl dX7_areInOneQueue_36 ?_
      refine lv_icmp_ne (tgt := 58) hC.1 hC.2.1 dX7_areInOneQueue_39 (by decide) (fun c5 => ?_) (fun c5 => ?_)
      · replace h := h.2 c5
        refine lv_iconst (v := 0) hC.1 hC.2.1 dX7_areInOneQueue_58 (by decide) ?_
        exact ag_zret hC hr hlocks G rfl h dX7_areInOneQueue_59
      · replace h := h.1 c5
        refine lv_aload_n hC.1 hC.2.1 dX7_areInOneQueue_42 rfl (lv_at hl 1 rfl) ?_
        refine ag_get hC hT G (k_wd (vlt hn1)) (e_wd (vlt hn1)) k_X6 i_X7_areInOneQueue_X6 1 (by decide) (wm 4 rfl) rfl dX7_areInOneQueue_43 ?_
        refine lv_aload hC.1 hC.2.1 dX7_areInOneQueue_46 (lv_at hl 0 rfl) ?_
        refine ag_get hC hT G (k_wd (vlt hn2)) (e_wd (vlt hn2)) k_X6 i_X7_areInOneQueue_X6 1 (by decide) (wm 4 rfl) rfl dX7_areInOneQueue_48 ?_
        refine lv_icmp_ne (tgt := 58) hC.1 hC.2.1 dX7_areInOneQueue_51 (by decide) (fun c6 => ?_) (fun c6 => ?_)
        · replace h := h.2 c6
          refine lv_iconst (v := 0) hC.1 hC.2.1 dX7_areInOneQueue_58 (by decide) ?_
          exact ag_zret hC hr hlocks G rfl h dX7_areInOneQueue_59
        · replace h := h.1 c6
          refine lv_iconst (v := 1) hC.1 hC.2.1 dX7_areInOneQueue_54 (by decide) ?_
          refine lv_goto (tgt := 59) hC.1 hC.2.1 dX7_areInOneQueue_55 (by decide) ?_
          exact ag_zret hC hr hlocks G rfl h dX7_areInOneQueue_59
theorem hdV_X7_areInOneQueue : yX7_areInOneQueue.cls = RX7 ∧ yX7_areInOneQueue.cls ≠ "java/lang/invoke/MethodHandle" ∧ yX7_areInOneQueue.cls ≠ "java/lang/invoke/VarHandle" ∧ (parseMethodDescriptor yX7_areInOneQueue.desc).map (fun d => d.parameters.length) = some 2 := by decide +kernel
abbrev rm_X7_placeInQueue : Room := { frames := 1, cells := 0, slots := 0, locals := 24 }
theorem i_X7_placeInQueue_X7 : ∀ w ∈ wsX70, w ∈ wsX7_placeInQueue := fun _ h => List.mem_cons_of_mem _ (List.mem_append_left _ (List.mem_append_right _ h))
theorem i_X7_placeInQueue_X6 : ∀ w ∈ wsX60, w ∈ wsX7_placeInQueue := fun _ h => List.mem_cons_of_mem _ (List.mem_append_right _ h)
def u_X7_placeInQueue_18 (post : Int32 → MS → Prop) (a1 : Int32) : Nat → MS → Int32 → Int32 → Prop
  | 0, _, _, _ => False
  | n + 1, σ, v2, v3 => ((a1 ≤ v3 → post v2 σ) ∧ (¬ a1 ≤ v3 → w_X7_areInOneQueue (fun r5 σ4 => ((r5 = 0 → u_X7_placeInQueue_18 post a1 n σ4 v2 (v3 + 1)) ∧ (¬ r5 = 0 → u_X7_placeInQueue_18 post a1 n σ4 (v2 + 1) (v3 + 1)))) σ v3 a1))
set_option maxHeartbeats 4000000 in
set_option maxRecDepth 100000 in
theorem l_X7_placeInQueue_18 {p : Program} {l : Launch} {e : Env} {s : State} {m : MethodId} {args : Array Value} {below : List Frame} {meth : Method} {c : Code} {D : va_G} {cy : Nat → ClassId} {lay : Nat → Nat} {post : Int32 → MS → Prop} (a1 : Int32) (hC : CallFix p m c cX7_placeInQueue 4 s args wsX7_placeInQueue RX7) (hr : meth.sig.returnType = some .int) (hlocks : meth.locks = false) (hT : agT D cy lay s) : ∀ (n : Nat), ∀ (σ : MS) (v2 : Int32) (v3 : Int32), u_X7_placeInQueue_18 post a1 n σ v2 v3 → ∀ (H : Heap) (locs : List Loc) (ls : Array Slot), agG D cy lay σ (agA lay s.heap.size) s.heap H locs → lv_has ls 4 [(0, .ref (lay 0)), (1, .int a1), (2, .int v2), (3, .int v3)] → W p l e rm_X7_placeInQueue s m args below meth c H locs 0 0 (MQ below (va_Qi post (agO D cy lay) (agA lay s.heap.size)) args s 0 0 (agA lay s.heap.size)) (F0 m 18 ls []) := by
  intro n
  induction n with
  | zero =>
    intro σ v2 v3 h
    exact h.elim
  | succ n ih =>
    intro σ v2 v3 h H locs ls G hl
    rw [u_X7_placeInQueue_18] at h
    refine lv_iload_n hC.1 hC.2.1 dX7_placeInQueue_18 rfl (lv_at hl 3 rfl) ?_
    refine lv_iload_n hC.1 hC.2.1 dX7_placeInQueue_19 rfl (lv_at hl 1 rfl) ?_
    refine lv_icmp_ge (tgt := 41) hC.1 hC.2.1 dX7_placeInQueue_20 (by decide) (fun c3 => ?_) (fun c3 => ?_)
    · replace h := h.1 c3
      refine lv_iload_n hC.1 hC.2.1 dX7_placeInQueue_41 rfl (lv_at hl 2 rfl) ?_
      exact ag_iret hC hr hlocks G h dX7_placeInQueue_42
    · replace h := h.2 c3
      refine lv_aload_n hC.1 hC.2.1 dX7_placeInQueue_23 rfl (lv_at hl 0 rfl) ?_
      refine lv_iload_n hC.1 hC.2.1 dX7_placeInQueue_24 rfl (lv_at hl 3 rfl) ?_
      refine lv_iload_n hC.1 hC.2.1 dX7_placeInQueue_25 rfl (lv_at hl 1 rfl) ?_
      refine ag_i G (ag_runV (As := [.int v3, .int a1]) (rest := []) hC hT G (c_X7_areInOneQueue l D cy lay h _) (cwV 2 hC.2.2.2.2 gX7_placeInQueue_X7_areInOneQueue rfl rfl rfl hdV_X7_areInOneQueue ⟨Nat.le_of_ble_eq_true rfl, Nat.le_of_ble_eq_true rfl⟩) (ag_recv hT G (by decide) e_ag k_X7) rfl hl.1 rfl (Nat.le_of_ble_eq_true rfl) dX7_placeInQueue_26 ⟨Nat.le_of_ble_eq_true rfl, Nat.le_of_ble_eq_true rfl⟩) (fun r5 σ4 H locs h G => ?_)
      (try dsimp only at h)
      refine lv_if_eq (tgt := 35) hC.1 hC.2.1 dX7_placeInQueue_29 (by decide) (fun c6 => ?_) (fun c6 => ?_)
      · replace h := h.1 c6
        refine lv_iinc (v := v3 + 1) (lv' := [(3, .int (v3 + 1)), (0, .ref (lay 0)), (1, .int a1), (2, .int v2)]) hC.1 hC.2.1 dX7_placeInQueue_35 hl (k := 3) rfl rfl (by decide) rfl (fun ls hl => ?_)
        refine lv_goto (tgt := 18) hC.1 hC.2.1 dX7_placeInQueue_38 (by decide) ?_
        exact ih _ _ _ h _ _ _ G (lv_sub hl [1, 2, 3, 0] rfl)
      · replace h := h.2 c6
        refine lv_iinc (v := v2 + 1) (lv' := [(2, .int (v2 + 1)), (0, .ref (lay 0)), (1, .int a1), (3, .int v3)]) hC.1 hC.2.1 dX7_placeInQueue_32 hl (k := 2) rfl rfl (by decide) rfl (fun ls hl => ?_)
        refine lv_iinc (v := v3 + 1) (lv' := [(3, .int (v3 + 1)), (2, .int (v2 + 1)), (0, .ref (lay 0)), (1, .int a1)]) hC.1 hC.2.1 dX7_placeInQueue_35 hl (k := 3) rfl rfl (by decide) rfl (fun ls hl => ?_)
        refine lv_goto (tgt := 18) hC.1 hC.2.1 dX7_placeInQueue_38 (by decide) ?_
        exact ih _ _ _ h _ _ _ G (lv_sub hl [2, 3, 1, 0] rfl)
def w_X7_placeInQueue (post : Int32 → MS → Prop) (σ : MS) (a1 : Int32) : Prop := (vp_in a1 14 ∧ (((σ (73 + (Int32.toNatClampNeg a1)) 7) = 0 → (∃ k, u_X7_placeInQueue_18 post a1 k σ 0 0)) ∧ (¬ (σ (73 + (Int32.toNatClampNeg a1)) 7) = 0 → post (-1) σ)))
set_option maxHeartbeats 4000000 in
set_option maxRecDepth 100000 in
theorem c_X7_placeInQueue (l : Launch) (D : va_G) (cy : Nat → ClassId) (lay : Nat → Nat) {σ : MS} {post : Int32 → MS → Prop} {a1 : Int32} (h : w_X7_placeInQueue post σ a1) (sz : Nat) : Met l yX7_placeInQueue wsX7_placeInQueue rm_X7_placeInQueue (va_Pc [.ref (lay 0), .int a1] (agI D cy lay σ sz)) (va_Qi post (agO D cy lay) (agA lay sz)) 0 0 (agA lay sz) := by
  refine ag_ofW (cc := cX7_placeInQueue) (maxL := 4) (ret := some .int) (own := RX7) (Qc := fun sz => va_Qi post (agO D cy lay) (agA lay sz)) (by decide) rfl (Nat.le_of_ble_eq_true rfl) rfl ?_
  intro p e s m args below meth c ls hC hr hlocks hT G hl
  unfold w_X7_placeInQueue at h
  have hl : lv_has ls 4 [(0, .ref (lay 0)), (1, .int a1)] := hl
  refine lv_aload_n hC.1 hC.2.1 dX7_placeInQueue_0 rfl (lv_at hl 0 rfl) ?_
  refine ag_get hC hT G (by decide) e_ag k_X7 i_X7_placeInQueue_X7 3 (by decide) (wm 1 rfl) rfl dX7_placeInQueue_1 ?_
  refine lv_iload_n hC.1 hC.2.1 dX7_placeInQueue_4 rfl (lv_at hl 1 rfl) ?_
  obtain ⟨hn1, h⟩ := h
  refine ag_aald hC hT G (by decide) _ rfl e_wds hn1 dX7_placeInQueue_5 ?_
  refine ag_get hC hT G (k_wd (vlt hn1)) (e_wd (vlt hn1)) k_X6 i_X7_placeInQueue_X6 7 (by decide) (wm 2 rfl) rfl dX7_placeInQueue_6 ?_
  refine lv_if_eq (tgt := 14) hC.1 hC.2.1 dX7_placeInQueue_9 (by decide) (fun c2 => ?_) (fun c2 => ?_)
  · replace h := h.1 c2
    refine lv_iconst (v := 0) hC.1 hC.2.1 dX7_placeInQueue_14 (by decide) ?_
    refine lv_istore_n (lv' := [(2, .int 0), (0, .ref (lay 0)), (1, .int a1)]) hC.1 hC.2.1 dX7_placeInQueue_15 rfl hl (by decide) rfl (fun ls hl => ?_)
    refine lv_iconst (v := 0) hC.1 hC.2.1 dX7_placeInQueue_16 (by decide) ?_
    refine lv_istore_n (lv' := [(3, .int 0), (2, .int 0), (0, .ref (lay 0)), (1, .int a1)]) hC.1 hC.2.1 dX7_placeInQueue_17 rfl hl (by decide) rfl (fun ls hl => ?_)
    obtain ⟨n1, h⟩ := h
    exact l_X7_placeInQueue_18 a1 hC hr hlocks hT n1 _ _ _ h _ _ _ G (lv_sub hl [2, 3, 1, 0] rfl)
  · replace h := h.2 c2
    refine lv_iconst (v := (-1)) hC.1 hC.2.1 dX7_placeInQueue_12 (by decide) ?_
    exact ag_iret hC hr hlocks G h dX7_placeInQueue_13
theorem hdV_X7_placeInQueue : yX7_placeInQueue.cls = RX7 ∧ yX7_placeInQueue.cls ≠ "java/lang/invoke/MethodHandle" ∧ yX7_placeInQueue.cls ≠ "java/lang/invoke/VarHandle" ∧ (parseMethodDescriptor yX7_placeInQueue.desc).map (fun d => d.parameters.length) = some 1 := by decide +kernel
abbrev rm_X7_isFirst : Room := { frames := 2, cells := 0, slots := 0, locals := 47 }
def w_X7_isFirst (post : Int32 → MS → Prop) (σ : MS) (a1 : Int32) : Prop := w_X7_placeInQueue (fun r2 σ1 => ((r2 = 0 → post 1 σ1) ∧ (¬ r2 = 0 → post 0 σ1))) σ a1
set_option maxHeartbeats 4000000 in
set_option maxRecDepth 100000 in
theorem c_X7_isFirst (l : Launch) (D : va_G) (cy : Nat → ClassId) (lay : Nat → Nat) {σ : MS} {post : Int32 → MS → Prop} {a1 : Int32} (h : w_X7_isFirst post σ a1) (sz : Nat) : Met l yX7_isFirst wsX7_isFirst rm_X7_isFirst (va_Pc [.ref (lay 0), .int a1] (agI D cy lay σ sz)) (va_Qi post (agO D cy lay) (agA lay sz)) 0 0 (agA lay sz) := by
  refine ag_ofW (cc := cX7_isFirst) (maxL := 2) (ret := some .boolean) (own := RX7) (Qc := fun sz => va_Qi post (agO D cy lay) (agA lay sz)) (by decide) rfl (Nat.le_of_ble_eq_true rfl) rfl ?_
  intro p e s m args below meth c ls hC hr hlocks hT G hl
  unfold w_X7_isFirst at h
  have hl : lv_has ls 2 [(0, .ref (lay 0)), (1, .int a1)] := hl
  refine lv_aload_n hC.1 hC.2.1 dX7_isFirst_0 rfl (lv_at hl 0 rfl) ?_
  refine lv_iload_n hC.1 hC.2.1 dX7_isFirst_1 rfl (lv_at hl 1 rfl) ?_
  refine ag_i G (ag_runV (As := [.int a1]) (rest := []) hC hT G (c_X7_placeInQueue l D cy lay h _) (cwV 1 hC.2.2.2.2 gX7_isFirst_X7_placeInQueue rfl rfl rfl hdV_X7_placeInQueue ⟨Nat.le_of_ble_eq_true rfl, Nat.le_of_ble_eq_true rfl⟩) (ag_recv hT G (by decide) e_ag k_X7) rfl hl.1 rfl (Nat.le_of_ble_eq_true rfl) dX7_isFirst_2 ⟨Nat.le_of_ble_eq_true rfl, Nat.le_of_ble_eq_true rfl⟩) (fun r2 σ1 H locs h G => ?_)
  (try dsimp only at h)
  refine lv_if_ne (tgt := 12) hC.1 hC.2.1 dX7_isFirst_5 (by decide) (fun c3 => ?_) (fun c3 => ?_)
  · replace h := h.2 c3
    refine lv_iconst (v := 0) hC.1 hC.2.1 dX7_isFirst_12 (by decide) ?_
    exact ag_zret hC hr hlocks G rfl h dX7_isFirst_13
  · replace h := h.1 c3
    refine lv_iconst (v := 1) hC.1 hC.2.1 dX7_isFirst_8 (by decide) ?_
    refine lv_goto (tgt := 13) hC.1 hC.2.1 dX7_isFirst_9 (by decide) ?_
    exact ag_zret hC hr hlocks G rfl h dX7_isFirst_13
theorem hdV_X7_isFirst : yX7_isFirst.cls = RX7 ∧ yX7_isFirst.cls ≠ "java/lang/invoke/MethodHandle" ∧ yX7_isFirst.cls ≠ "java/lang/invoke/VarHandle" ∧ (parseMethodDescriptor yX7_isFirst.desc).map (fun d => d.parameters.length) = some 1 := by decide +kernel
abbrev rm_X7_loseQueueOf : Room := { frames := 1, cells := 0, slots := 0, locals := 24 }
theorem i_X7_loseQueueOf_X7 : ∀ w ∈ wsX70, w ∈ wsX7_loseQueueOf := fun _ h => List.mem_cons_of_mem _ (List.mem_append_left _ (List.mem_append_right _ h))
theorem i_X7_loseQueueOf_X6 : ∀ w ∈ wsX60, w ∈ wsX7_loseQueueOf := fun _ h => List.mem_cons_of_mem _ (List.mem_append_right _ h)
def u_X7_loseQueueOf_2 (post : MS → Prop) (a1 : Int32) : Nat → MS → Int32 → Prop
  | 0, _, _ => False
  | n + 1, σ, v2 => (((σ 0 8) ≤ v2 → post σ) ∧ (¬ (σ 0 8) ≤ v2 → ((v2 = a1 → u_X7_loseQueueOf_2 post a1 n σ (v2 + 1)) ∧ (¬ v2 = a1 → w_X7_areInOneQueue (fun r4 σ3 => ((r4 = 0 → u_X7_loseQueueOf_2 post a1 n σ3 (v2 + 1)) ∧ (¬ r4 = 0 → (vp_in v2 14 ∧ u_X7_loseQueueOf_2 post a1 n (up2 σ3 (73 + (Int32.toNatClampNeg v2)) 7 3) (v2 + 1))))) σ v2 a1))))
set_option maxHeartbeats 4000000 in
set_option maxRecDepth 100000 in
theorem l_X7_loseQueueOf_2 {p : Program} {l : Launch} {e : Env} {s : State} {m : MethodId} {args : Array Value} {below : List Frame} {meth : Method} {c : Code} {D : va_G} {cy : Nat → ClassId} {lay : Nat → Nat} {post : MS → Prop} (a1 : Int32) (hC : CallFix p m c cX7_loseQueueOf 3 s args wsX7_loseQueueOf RX7) (hr : meth.sig.returnType = none) (hlocks : meth.locks = false) (hT : agT D cy lay s) : ∀ (n : Nat), ∀ (σ : MS) (v2 : Int32), u_X7_loseQueueOf_2 post a1 n σ v2 → ∀ (H : Heap) (locs : List Loc) (ls : Array Slot), agG D cy lay σ (agA lay s.heap.size) s.heap H locs → lv_has ls 3 [(0, .ref (lay 0)), (1, .int a1), (2, .int v2)] → W p l e rm_X7_loseQueueOf s m args below meth c H locs 0 0 (MQ below (va_Qv post (agO D cy lay) (agA lay s.heap.size)) args s 0 0 (agA lay s.heap.size)) (F0 m 2 ls []) := by
  intro n
  induction n with
  | zero =>
    intro σ v2 h
    exact h.elim
  | succ n ih =>
    intro σ v2 h H locs ls G hl
    rw [u_X7_loseQueueOf_2] at h
    refine lv_iload_n hC.1 hC.2.1 dX7_loseQueueOf_2 rfl (lv_at hl 2 rfl) ?_
    refine lv_aload_n hC.1 hC.2.1 dX7_loseQueueOf_3 rfl (lv_at hl 0 rfl) ?_
    refine ag_get hC hT G (by decide) e_ag k_X7 i_X7_loseQueueOf_X7 8 (by decide) (wm 1 rfl) rfl dX7_loseQueueOf_4 ?_
    refine lv_icmp_ge (tgt := 40) hC.1 hC.2.1 dX7_loseQueueOf_7 (by decide) (fun c1 => ?_) (fun c1 => ?_)
    · replace h := h.1 c1
      exact ag_vret hC hr hlocks G h dX7_loseQueueOf_40
    · replace h := h.2 c1
      refine lv_iload_n hC.1 hC.2.1 dX7_loseQueueOf_10 rfl (lv_at hl 2 rfl) ?_
      refine lv_iload_n hC.1 hC.2.1 dX7_loseQueueOf_11 rfl (lv_at hl 1 rfl) ?_
      refine lv_icmp_eq (tgt := 34) hC.1 hC.2.1 dX7_loseQueueOf_12 (by decide) (fun c2 => ?_) (fun c2 => ?_)
      · replace h := h.1 c2
        refine lv_iinc (v := v2 + 1) (lv' := [(2, .int (v2 + 1)), (0, .ref (lay 0)), (1, .int a1)]) hC.1 hC.2.1 dX7_loseQueueOf_34 hl (k := 2) rfl rfl (by decide) rfl (fun ls hl => ?_)
        refine lv_goto (tgt := 2) hC.1 hC.2.1 dX7_loseQueueOf_37 (by decide) ?_
        exact ih _ _ h _ _ _ G (lv_sub hl [1, 2, 0] rfl)
      · replace h := h.2 c2
        refine lv_aload_n hC.1 hC.2.1 dX7_loseQueueOf_15 rfl (lv_at hl 0 rfl) ?_
        refine lv_iload_n hC.1 hC.2.1 dX7_loseQueueOf_16 rfl (lv_at hl 2 rfl) ?_
        refine lv_iload_n hC.1 hC.2.1 dX7_loseQueueOf_17 rfl (lv_at hl 1 rfl) ?_
        refine ag_i G (ag_runV (As := [.int v2, .int a1]) (rest := []) hC hT G (c_X7_areInOneQueue l D cy lay h _) (cwV 2 hC.2.2.2.2 gX7_loseQueueOf_X7_areInOneQueue rfl rfl rfl hdV_X7_areInOneQueue ⟨Nat.le_of_ble_eq_true rfl, Nat.le_of_ble_eq_true rfl⟩) (ag_recv hT G (by decide) e_ag k_X7) rfl hl.1 rfl (Nat.le_of_ble_eq_true rfl) dX7_loseQueueOf_18 ⟨Nat.le_of_ble_eq_true rfl, Nat.le_of_ble_eq_true rfl⟩) (fun r4 σ3 H locs h G => ?_)
        (try dsimp only at h)
        refine lv_if_eq (tgt := 34) hC.1 hC.2.1 dX7_loseQueueOf_21 (by decide) (fun c5 => ?_) (fun c5 => ?_)
        · replace h := h.1 c5
          refine lv_iinc (v := v2 + 1) (lv' := [(2, .int (v2 + 1)), (0, .ref (lay 0)), (1, .int a1)]) hC.1 hC.2.1 dX7_loseQueueOf_34 hl (k := 2) rfl rfl (by decide) rfl (fun ls hl => ?_)
          refine lv_goto (tgt := 2) hC.1 hC.2.1 dX7_loseQueueOf_37 (by decide) ?_
          exact ih _ _ h _ _ _ G (lv_sub hl [1, 2, 0] rfl)
        · replace h := h.2 c5
          refine lv_aload_n hC.1 hC.2.1 dX7_loseQueueOf_24 rfl (lv_at hl 0 rfl) ?_
          refine ag_get hC hT G (by decide) e_ag k_X7 i_X7_loseQueueOf_X7 3 (by decide) (wm 2 rfl) rfl dX7_loseQueueOf_25 ?_
          refine lv_iload_n hC.1 hC.2.1 dX7_loseQueueOf_28 rfl (lv_at hl 2 rfl) ?_
          obtain ⟨hn6, h⟩ := h
          refine ag_aald hC hT G (by decide) _ rfl e_wds hn6 dX7_loseQueueOf_29 ?_
          refine lv_iconst (v := 3) hC.1 hC.2.1 dX7_loseQueueOf_30 (by decide) ?_
          refine ag_put hC hT G (k_wd (vlt hn6)) (e_wd (vlt hn6)) k_X6 i_X7_loseQueueOf_X6 7 (by decide) (wm 3 rfl) rfl rfl (by simp) (e_wd (vlt hn6)) rfl dX7_loseQueueOf_31 (fun H locs G => ?_)
          refine lv_iinc (v := v2 + 1) (lv' := [(2, .int (v2 + 1)), (0, .ref (lay 0)), (1, .int a1)]) hC.1 hC.2.1 dX7_loseQueueOf_34 hl (k := 2) rfl rfl (by decide) rfl (fun ls hl => ?_)
          refine lv_goto (tgt := 2) hC.1 hC.2.1 dX7_loseQueueOf_37 (by decide) ?_
          exact ih _ _ h _ _ _ G (lv_sub hl [1, 2, 0] rfl)
def w_X7_loseQueueOf (post : MS → Prop) (σ : MS) (a1 : Int32) : Prop := (∃ k, u_X7_loseQueueOf_2 post a1 k σ 0)
set_option maxHeartbeats 4000000 in
set_option maxRecDepth 100000 in
theorem c_X7_loseQueueOf (l : Launch) (D : va_G) (cy : Nat → ClassId) (lay : Nat → Nat) {σ : MS} {post : MS → Prop} {a1 : Int32} (h : w_X7_loseQueueOf post σ a1) (sz : Nat) : Met l yX7_loseQueueOf wsX7_loseQueueOf rm_X7_loseQueueOf (va_Pc [.ref (lay 0), .int a1] (agI D cy lay σ sz)) (va_Qv post (agO D cy lay) (agA lay sz)) 0 0 (agA lay sz) := by
  refine ag_ofW (cc := cX7_loseQueueOf) (maxL := 3) (ret := none) (own := RX7) (Qc := fun sz => va_Qv post (agO D cy lay) (agA lay sz)) (by decide) rfl (Nat.le_of_ble_eq_true rfl) rfl ?_
  intro p e s m args below meth c ls hC hr hlocks hT G hl
  unfold w_X7_loseQueueOf at h
  have hl : lv_has ls 3 [(0, .ref (lay 0)), (1, .int a1)] := hl
  refine lv_iconst (v := 0) hC.1 hC.2.1 dX7_loseQueueOf_0 (by decide) ?_
  refine lv_istore_n (lv' := [(2, .int 0), (0, .ref (lay 0)), (1, .int a1)]) hC.1 hC.2.1 dX7_loseQueueOf_1 rfl hl (by decide) rfl (fun ls hl => ?_)
  obtain ⟨n1, h⟩ := h
  exact l_X7_loseQueueOf_2 a1 hC hr hlocks hT n1 _ _ h _ _ _ G (lv_sub hl [1, 2, 0] rfl)
theorem hdV_X7_loseQueueOf : yX7_loseQueueOf.cls = RX7 ∧ yX7_loseQueueOf.cls ≠ "java/lang/invoke/MethodHandle" ∧ yX7_loseQueueOf.cls ≠ "java/lang/invoke/VarHandle" ∧ (parseMethodDescriptor yX7_loseQueueOf.desc).map (fun d => d.parameters.length) = some 1 := by decide +kernel
abbrev rm_X7_firstOnesOf : Room := { frames := 3, cells := 0, slots := 0, locals := 68 }
theorem i_X7_firstOnesOf_X7 : ∀ w ∈ wsX70, w ∈ wsX7_firstOnesOf := fun _ h => List.mem_cons_of_mem _ (List.mem_append_left _ (List.mem_append_right _ h))
theorem i_X7_firstOnesOf_X6 : ∀ w ∈ wsX60, w ∈ wsX7_firstOnesOf := fun _ h => List.mem_cons_of_mem _ (List.mem_append_right _ h)
def u_X7_firstOnesOf_4 (post : Int32 → MS → Prop) (a1 : Int32) : Nat → MS → Int32 → Int32 → Prop
  | 0, _, _, _ => False
  | n + 1, σ, v2, v3 => (((σ 0 8) ≤ v3 → post v2 σ) ∧ (¬ (σ 0 8) ≤ v3 → (vp_in v3 14 ∧ (((σ (73 + (Int32.toNatClampNeg v3)) 1) = a1 → w_X7_isFirst (fun r5 σ4 => ((r5 = 0 → u_X7_firstOnesOf_4 post a1 n σ4 v2 (v3 + 1)) ∧ (¬ r5 = 0 → w_J6_bitCount_0f7a4 (fun r8 σ7 => ((3 ≤ r8 → u_X7_firstOnesOf_4 post a1 n σ7 v2 (v3 + 1)) ∧ (¬ 3 ≤ r8 → u_X7_firstOnesOf_4 post a1 n σ7 (v2 ||| (1 <<< (v3 &&& 31))) (v3 + 1)))) σ4 v2))) σ v3) ∧ (¬ (σ (73 + (Int32.toNatClampNeg v3)) 1) = a1 → u_X7_firstOnesOf_4 post a1 n σ v2 (v3 + 1))))))
set_option maxHeartbeats 4000000 in
set_option maxRecDepth 100000 in
theorem l_X7_firstOnesOf_4 {p : Program} {l : Launch} {e : Env} {s : State} {m : MethodId} {args : Array Value} {below : List Frame} {meth : Method} {c : Code} {D : va_G} {cy : Nat → ClassId} {lay : Nat → Nat} {post : Int32 → MS → Prop} (a1 : Int32) (hC : CallFix p m c cX7_firstOnesOf 4 s args wsX7_firstOnesOf RX7) (hr : meth.sig.returnType = some .int) (hlocks : meth.locks = false) (hT : agT D cy lay s) : ∀ (n : Nat), ∀ (σ : MS) (v2 : Int32) (v3 : Int32), u_X7_firstOnesOf_4 post a1 n σ v2 v3 → ∀ (H : Heap) (locs : List Loc) (ls : Array Slot), agG D cy lay σ (agA lay s.heap.size) s.heap H locs → lv_has ls 4 [(0, .ref (lay 0)), (1, .int a1), (2, .int v2), (3, .int v3)] → W p l e rm_X7_firstOnesOf s m args below meth c H locs 0 0 (MQ below (va_Qi post (agO D cy lay) (agA lay s.heap.size)) args s 0 0 (agA lay s.heap.size)) (F0 m 4 ls []) := by
  intro n
  induction n with
  | zero =>
    intro σ v2 v3 h
    exact h.elim
  | succ n ih =>
    intro σ v2 v3 h H locs ls G hl
    rw [u_X7_firstOnesOf_4] at h
    refine lv_iload_n hC.1 hC.2.1 dX7_firstOnesOf_4 rfl (lv_at hl 3 rfl) ?_
    refine lv_aload_n hC.1 hC.2.1 dX7_firstOnesOf_5 rfl (lv_at hl 0 rfl) ?_
    refine ag_get hC hT G (by decide) e_ag k_X7 i_X7_firstOnesOf_X7 8 (by decide) (wm 1 rfl) rfl dX7_firstOnesOf_6 ?_
    refine lv_icmp_ge (tgt := 53) hC.1 hC.2.1 dX7_firstOnesOf_9 (by decide) (fun c1 => ?_) (fun c1 => ?_)
    · replace h := h.1 c1
      refine lv_iload_n hC.1 hC.2.1 dX7_firstOnesOf_53 rfl (lv_at hl 2 rfl) ?_
      exact ag_iret hC hr hlocks G h dX7_firstOnesOf_54
    · replace h := h.2 c1
      refine lv_aload_n hC.1 hC.2.1 dX7_firstOnesOf_12 rfl (lv_at hl 0 rfl) ?_
      refine ag_get hC hT G (by decide) e_ag k_X7 i_X7_firstOnesOf_X7 3 (by decide) (wm 2 rfl) rfl dX7_firstOnesOf_13 ?_
      refine lv_iload_n hC.1 hC.2.1 dX7_firstOnesOf_16 rfl (lv_at hl 3 rfl) ?_
      obtain ⟨hn2, h⟩ := h
      refine ag_aald hC hT G (by decide) _ rfl e_wds hn2 dX7_firstOnesOf_17 ?_
      refine ag_get hC hT G (k_wd (vlt hn2)) (e_wd (vlt hn2)) k_X6 i_X7_firstOnesOf_X6 1 (by decide) (wm 3 rfl) rfl dX7_firstOnesOf_18 ?_
      refine lv_iload_n hC.1 hC.2.1 dX7_firstOnesOf_21 rfl (lv_at hl 1 rfl) ?_
      refine lv_icmp_ne (tgt := 47) hC.1 hC.2.1 dX7_firstOnesOf_22 (by decide) (fun c3 => ?_) (fun c3 => ?_)
      · replace h := h.2 c3
        refine lv_iinc (v := v3 + 1) (lv' := [(3, .int (v3 + 1)), (0, .ref (lay 0)), (1, .int a1), (2, .int v2)]) hC.1 hC.2.1 dX7_firstOnesOf_47 hl (k := 3) rfl rfl (by decide) rfl (fun ls hl => ?_)
        refine lv_goto (tgt := 4) hC.1 hC.2.1 dX7_firstOnesOf_50 (by decide) ?_
        exact ih _ _ _ h _ _ _ G (lv_sub hl [1, 2, 3, 0] rfl)
      · replace h := h.1 c3
        refine lv_aload_n hC.1 hC.2.1 dX7_firstOnesOf_25 rfl (lv_at hl 0 rfl) ?_
        refine lv_iload_n hC.1 hC.2.1 dX7_firstOnesOf_26 rfl (lv_at hl 3 rfl) ?_
        refine ag_i G (ag_runV (As := [.int v3]) (rest := []) hC hT G (c_X7_isFirst l D cy lay h _) (cwV 1 hC.2.2.2.2 gX7_firstOnesOf_X7_isFirst rfl rfl rfl hdV_X7_isFirst ⟨Nat.le_of_ble_eq_true rfl, Nat.le_of_ble_eq_true rfl⟩) (ag_recv hT G (by decide) e_ag k_X7) rfl hl.1 rfl (Nat.le_of_ble_eq_true rfl) dX7_firstOnesOf_27 ⟨Nat.le_of_ble_eq_true rfl, Nat.le_of_ble_eq_true rfl⟩) (fun r5 σ4 H locs h G => ?_)
        (try dsimp only at h)
        refine lv_if_eq (tgt := 47) hC.1 hC.2.1 dX7_firstOnesOf_30 (by decide) (fun c6 => ?_) (fun c6 => ?_)
        · replace h := h.1 c6
          refine lv_iinc (v := v3 + 1) (lv' := [(3, .int (v3 + 1)), (0, .ref (lay 0)), (1, .int a1), (2, .int v2)]) hC.1 hC.2.1 dX7_firstOnesOf_47 hl (k := 3) rfl rfl (by decide) rfl (fun ls hl => ?_)
          refine lv_goto (tgt := 4) hC.1 hC.2.1 dX7_firstOnesOf_50 (by decide) ?_
          exact ih _ _ _ h _ _ _ G (lv_sub hl [1, 2, 3, 0] rfl)
        · replace h := h.2 c6
          refine lv_iload_n hC.1 hC.2.1 dX7_firstOnesOf_33 rfl (lv_at hl 2 rfl) ?_
          refine ag_i G (ag_runS (As := [.int v2]) (rest := []) hC hT G (c_J6_bitCount_0f7a4 l D cy lay h _) (va_cwS 1 hC.2.2.2.2 gX7_firstOnesOf_J6_bitCount_0f7a4 rfl rfl rfl hdS_J6_bitCount_0f7a4 ⟨Nat.le_of_ble_eq_true rfl, Nat.le_of_ble_eq_true rfl⟩) rfl hl.1 rfl (Nat.le_of_ble_eq_true rfl) dX7_firstOnesOf_34 ⟨Nat.le_of_ble_eq_true rfl, Nat.le_of_ble_eq_true rfl⟩) (fun r8 σ7 H locs h G => ?_)
          (try dsimp only at h)
          refine lv_iconst (v := 3) hC.1 hC.2.1 dX7_firstOnesOf_37 (by decide) ?_
          refine lv_icmp_ge (tgt := 47) hC.1 hC.2.1 dX7_firstOnesOf_38 (by decide) (fun c9 => ?_) (fun c9 => ?_)
          · replace h := h.1 c9
            refine lv_iinc (v := v3 + 1) (lv' := [(3, .int (v3 + 1)), (0, .ref (lay 0)), (1, .int a1), (2, .int v2)]) hC.1 hC.2.1 dX7_firstOnesOf_47 hl (k := 3) rfl rfl (by decide) rfl (fun ls hl => ?_)
            refine lv_goto (tgt := 4) hC.1 hC.2.1 dX7_firstOnesOf_50 (by decide) ?_
            exact ih _ _ _ h _ _ _ G (lv_sub hl [1, 2, 3, 0] rfl)
          · replace h := h.2 c9
            refine lv_iload_n hC.1 hC.2.1 dX7_firstOnesOf_41 rfl (lv_at hl 2 rfl) ?_
            refine lv_iconst (v := 1) hC.1 hC.2.1 dX7_firstOnesOf_42 (by decide) ?_
            refine lv_iload_n hC.1 hC.2.1 dX7_firstOnesOf_43 rfl (lv_at hl 3 rfl) ?_
            refine lv_ishl hC.1 hC.2.1 dX7_firstOnesOf_44 ?_
            refine lv_ior hC.1 hC.2.1 dX7_firstOnesOf_45 ?_
            refine lv_istore_n (lv' := [(2, .int (v2 ||| (1 <<< (v3 &&& 31)))), (0, .ref (lay 0)), (1, .int a1), (3, .int v3)]) hC.1 hC.2.1 dX7_firstOnesOf_46 rfl hl (by decide) rfl (fun ls hl => ?_)
            refine lv_iinc (v := v3 + 1) (lv' := [(3, .int (v3 + 1)), (2, .int (v2 ||| (1 <<< (v3 &&& 31)))), (0, .ref (lay 0)), (1, .int a1)]) hC.1 hC.2.1 dX7_firstOnesOf_47 hl (k := 3) rfl rfl (by decide) rfl (fun ls hl => ?_)
            refine lv_goto (tgt := 4) hC.1 hC.2.1 dX7_firstOnesOf_50 (by decide) ?_
            exact ih _ _ _ h _ _ _ G (lv_sub hl [2, 3, 1, 0] rfl)
def w_X7_firstOnesOf (post : Int32 → MS → Prop) (σ : MS) (a1 : Int32) : Prop := (∃ k, u_X7_firstOnesOf_4 post a1 k σ 0 0)
set_option maxHeartbeats 4000000 in
set_option maxRecDepth 100000 in
theorem c_X7_firstOnesOf (l : Launch) (D : va_G) (cy : Nat → ClassId) (lay : Nat → Nat) {σ : MS} {post : Int32 → MS → Prop} {a1 : Int32} (h : w_X7_firstOnesOf post σ a1) (sz : Nat) : Met l yX7_firstOnesOf wsX7_firstOnesOf rm_X7_firstOnesOf (va_Pc [.ref (lay 0), .int a1] (agI D cy lay σ sz)) (va_Qi post (agO D cy lay) (agA lay sz)) 0 0 (agA lay sz) := by
  refine ag_ofW (cc := cX7_firstOnesOf) (maxL := 4) (ret := some .int) (own := RX7) (Qc := fun sz => va_Qi post (agO D cy lay) (agA lay sz)) (by decide) rfl (Nat.le_of_ble_eq_true rfl) rfl ?_
  intro p e s m args below meth c ls hC hr hlocks hT G hl
  unfold w_X7_firstOnesOf at h
  have hl : lv_has ls 4 [(0, .ref (lay 0)), (1, .int a1)] := hl
  refine lv_iconst (v := 0) hC.1 hC.2.1 dX7_firstOnesOf_0 (by decide) ?_
  refine lv_istore_n (lv' := [(2, .int 0), (0, .ref (lay 0)), (1, .int a1)]) hC.1 hC.2.1 dX7_firstOnesOf_1 rfl hl (by decide) rfl (fun ls hl => ?_)
  refine lv_iconst (v := 0) hC.1 hC.2.1 dX7_firstOnesOf_2 (by decide) ?_
  refine lv_istore_n (lv' := [(3, .int 0), (2, .int 0), (0, .ref (lay 0)), (1, .int a1)]) hC.1 hC.2.1 dX7_firstOnesOf_3 rfl hl (by decide) rfl (fun ls hl => ?_)
  obtain ⟨n1, h⟩ := h
  exact l_X7_firstOnesOf_4 a1 hC hr hlocks hT n1 _ _ _ h _ _ _ G (lv_sub hl [2, 3, 1, 0] rfl)
theorem hdV_X7_firstOnesOf : yX7_firstOnesOf.cls = RX7 ∧ yX7_firstOnesOf.cls ≠ "java/lang/invoke/MethodHandle" ∧ yX7_firstOnesOf.cls ≠ "java/lang/invoke/VarHandle" ∧ (parseMethodDescriptor yX7_firstOnesOf.desc).map (fun d => d.parameters.length) = some 1 := by decide +kernel
abbrev rm_X6_quarters : Room := { frames := 1, cells := 0, slots := 0, locals := 13 }
theorem i_X6_quarters_X6 : ∀ w ∈ wsX60, w ∈ wsX6_quarters := fun _ h => List.mem_cons_of_mem _ (List.mem_append_right _ h)
def w_X6_quarters (post : Int32 → MS → Prop) (σ : MS) (i0 : Nat) : Prop := (∀ y1 : Int32, y1 = (if (((24 - (σ (73 + i0) 3)) - (σ (73 + i0) 4)) * 60) < (σ (73 + i0) 10) then (((24 - (σ (73 + i0) 3)) - (σ (73 + i0) 4)) * 60) else (σ (73 + i0) 10)) + 14 → post (y1 / 15) σ)
set_option maxHeartbeats 4000000 in
set_option maxRecDepth 100000 in
theorem c_X6_quarters (l : Launch) (D : va_G) (cy : Nat → ClassId) (lay : Nat → Nat) {σ : MS} {post : Int32 → MS → Prop} {i0 : Nat} (h : w_X6_quarters post σ i0) (hi0 : i0 < 14) (sz : Nat) : Met l yX6_quarters wsX6_quarters rm_X6_quarters (va_Pc [.ref (lay (73 + i0))] (agI D cy lay σ sz)) (va_Qi post (agO D cy lay) (agA lay sz)) 0 0 (agA lay sz) := by
  refine ag_ofW (cc := cX6_quarters) (maxL := 2) (ret := some .int) (own := RX6) (Qc := fun sz => va_Qi post (agO D cy lay) (agA lay sz)) (by decide) rfl (Nat.le_of_ble_eq_true rfl) rfl ?_
  intro p e s m args below meth c ls hC hr hlocks hT G hl
  unfold w_X6_quarters at h
  have hl : lv_has ls 2 [(0, .ref (lay (73 + i0)))] := hl
  refine lv_aload_n hC.1 hC.2.1 dX6_quarters_0 rfl (lv_at hl 0 rfl) ?_
  refine ag_get hC hT G (k_wd hi0) (e_wd hi0) k_X6 i_X6_quarters_X6 10 (by decide) (wm 1 rfl) rfl dX6_quarters_1 ?_
  refine lv_bipush (v := 24) hC.1 hC.2.1 dX6_quarters_4 (by decide) ?_
  refine lv_aload_n hC.1 hC.2.1 dX6_quarters_6 rfl (lv_at hl 0 rfl) ?_
  refine ag_get hC hT G (k_wd hi0) (e_wd hi0) k_X6 i_X6_quarters_X6 3 (by decide) (wm 2 rfl) rfl dX6_quarters_7 ?_
  refine lv_isub hC.1 hC.2.1 dX6_quarters_10 ?_
  refine lv_aload_n hC.1 hC.2.1 dX6_quarters_11 rfl (lv_at hl 0 rfl) ?_
  refine ag_get hC hT G (k_wd hi0) (e_wd hi0) k_X6 i_X6_quarters_X6 4 (by decide) (wm 3 rfl) rfl dX6_quarters_12 ?_
  refine lv_isub hC.1 hC.2.1 dX6_quarters_15 ?_
  refine lv_bipush (v := 60) hC.1 hC.2.1 dX6_quarters_16 (by decide) ?_
  refine lv_imul hC.1 hC.2.1 dX6_quarters_18 ?_
  refine va_mmin hC.1 hC.2.1 (hC.2.2.1.trans hl.1.symm) hC.2.2.2.1 (hC.2.2.2.2 _ (wm 4 rfl)) (hC.2.2.2.2 _ (wm 5 rfl)) (hC.2.2.2.2 _ (wm 6 rfl)) (hC.2.2.2.2 _ (wm 7 rfl)) (Nat.le_of_ble_eq_true rfl) (Nat.le_of_ble_eq_true rfl) (Nat.le_of_ble_eq_true rfl) (Nat.le_of_ble_eq_true rfl) dX6_quarters_19 ?_
  refine lv_istore_n (lv' := [(1, .int (if (((24 - (σ (73 + i0) 3)) - (σ (73 + i0) 4)) * 60) < (σ (73 + i0) 10) then (((24 - (σ (73 + i0) 3)) - (σ (73 + i0) 4)) * 60) else (σ (73 + i0) 10))), (0, .ref (lay (73 + i0)))]) hC.1 hC.2.1 dX6_quarters_22 rfl hl (by decide) rfl (fun ls hl => ?_)
  refine lv_iload_n hC.1 hC.2.1 dX6_quarters_23 rfl (lv_at hl 0 rfl) ?_
  refine lv_bipush (v := 14) hC.1 hC.2.1 dX6_quarters_24 (by decide) ?_
  refine lv_iadd hC.1 hC.2.1 dX6_quarters_26 ?_
  refine lv_topi (fun y1 ey1 => ?_)
  replace h := h y1 ey1
  refine lv_bipush (v := 15) hC.1 hC.2.1 dX6_quarters_27 (by decide) ?_
  refine lv_idiv hC.1 hC.2.1 dX6_quarters_29 (by decide) ?_
  exact ag_iret hC hr hlocks G h dX6_quarters_30
theorem hdV_X6_quarters : yX6_quarters.cls = RX6 ∧ yX6_quarters.cls ≠ "java/lang/invoke/MethodHandle" ∧ yX6_quarters.cls ≠ "java/lang/invoke/VarHandle" ∧ (parseMethodDescriptor yX6_quarters.desc).map (fun d => d.parameters.length) = some 0 := by decide +kernel
