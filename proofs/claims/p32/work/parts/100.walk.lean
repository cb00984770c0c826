abbrev rm_X7_has : Room := { frames := 0, cells := 0, slots := 0, locals := 0 }
def w_X7_has (post : Int32 → MS → Prop) (σ : MS) (a0 : Int32) (a1 : Int32) : Prop := ((((a0 >>> (a1 &&& 31)) &&& 1) = 0 → post 0 σ) ∧ (¬ ((a0 >>> (a1 &&& 31)) &&& 1) = 0 → post 1 σ))
set_option maxHeartbeats 4000000 in
set_option maxRecDepth 100000 in
theorem c_X7_has (l : Launch) (D : va_G) (cy : Nat → ClassId) (lay : Nat → Nat) {σ : MS} {post : Int32 → MS → Prop} {a0 : Int32} {a1 : Int32} (h : w_X7_has post σ a0 a1) (sz : Nat) : Met l yX7_has wsX7_has rm_X7_has (va_Pc [.int a0, .int a1] (agI D cy lay σ sz)) (va_Qi post (agO D cy lay) (agA lay sz)) 0 0 (agA lay sz) := by
  refine ag_ofW (cc := cX7_has) (maxL := 2) (ret := some .boolean) (own := RX7) (Qc := fun sz => va_Qi post (agO D cy lay) (agA lay sz)) (by decide) rfl (Nat.le_of_ble_eq_true rfl) rfl ?_
  intro p e s m args below meth c ls hC hr hlocks hT G hl
  unfold w_X7_has at h
  have hl : lv_has ls 2 [(0, .int a0), (1, .int a1)] := hl
  refine lv_iload_n hC.1 hC.2.1 dX7_has_0 rfl (lv_at hl 0 rfl) ?_
  refine lv_iload_n hC.1 hC.2.1 dX7_has_1 rfl (lv_at hl 1 rfl) ?_
  refine lv_ishr hC.1 hC.2.1 dX7_has_2 ?_
  refine lv_iconst (v := 1) hC.1 hC.2.1 dX7_has_3 (by decide) ?_
  refine lv_iand hC.1 hC.2.1 dX7_has_4 ?_
  refine lv_if_eq (tgt := 12) hC.1 hC.2.1 dX7_has_5 (by decide) (fun c1 => ?_) (fun c1 => ?_)
  · replace h := h.1 c1
    refine lv_iconst (v := 0) hC.1 hC.2.1 dX7_has_12 (by decide) ?_
    exact ag_zret hC hr hlocks G rfl h dX7_has_13
  · replace h := h.2 c1
    refine lv_iconst (v := 1) hC.1 hC.2.1 dX7_has_8 (by decide) ?_
    refine lv_goto (tgt := 13) hC.1 hC.2.1 dX7_has_9 (by decide) ?_
    exact ag_zret hC hr hlocks G rfl h dX7_has_13
theorem hdS_X7_has : yX7_has.cls ≠ "java/lang/invoke/MethodHandle" ∧ yX7_has.cls ≠ "java/lang/invoke/VarHandle" ∧ (parseMethodDescriptor yX7_has.desc).map (fun d => d.parameters.length) = some 2 := by decide +kernel
abbrev rm_J6_bitCount_0f7a4 : Room := { frames := 0, cells := 0, slots := 0, locals := 0 }
def w_J6_bitCount_0f7a4 (post : Int32 → MS → Prop) (σ : MS) (a0 : Int32) : Prop := (∀ y1 : Int32, y1 = ((Int32.toUInt32 (a0 - ((((Int32.toUInt32 a0) >>> ((Int32.toUInt32 1) &&& Int32.toUInt32 31)).toInt32) &&& 1431655765))) >>> ((Int32.toUInt32 2) &&& Int32.toUInt32 31)).toInt32 → (∀ y2 : Int32, y2 = ((Int32.toUInt32 (((a0 - ((((Int32.toUInt32 a0) >>> ((Int32.toUInt32 1) &&& Int32.toUInt32 31)).toInt32) &&& 1431655765)) &&& 858993459) + (y1 &&& 858993459))) >>> ((Int32.toUInt32 4) &&& Int32.toUInt32 31)).toInt32 → (∀ y3 : Int32, y3 = ((((a0 - ((((Int32.toUInt32 a0) >>> ((Int32.toUInt32 1) &&& Int32.toUInt32 31)).toInt32) &&& 1431655765)) &&& 858993459) + (y1 &&& 858993459)) + y2) &&& 252645135 → (∀ y4 : Int32, y4 = ((Int32.toUInt32 (y3 + (((Int32.toUInt32 y3) >>> ((Int32.toUInt32 8) &&& Int32.toUInt32 31)).toInt32))) >>> ((Int32.toUInt32 16) &&& Int32.toUInt32 31)).toInt32 → post (((y3 + (((Int32.toUInt32 y3) >>> ((Int32.toUInt32 8) &&& Int32.toUInt32 31)).toInt32)) + y4) &&& 63) σ))))
set_option maxHeartbeats 4000000 in
set_option maxRecDepth 100000 in
theorem c_J6_bitCount_0f7a4 (l : Launch) (D : va_G) (cy : Nat → ClassId) (lay : Nat → Nat) {σ : MS} {post : Int32 → MS → Prop} {a0 : Int32} (h : w_J6_bitCount_0f7a4 post σ a0) (sz : Nat) : Met l yJ6_bitCount_0f7a4 wsJ6_bitCount_0f7a4 rm_J6_bitCount_0f7a4 (va_Pc [.int a0] (agI D cy lay σ sz)) (va_Qi post (agO D cy lay) (agA lay sz)) 0 0 (agA lay sz) := by
  refine ag_ofW (cc := cJ6_bitCount_0f7a4) (maxL := 1) (ret := some .int) (own := RJ6) (Qc := fun sz => va_Qi post (agO D cy lay) (agA lay sz)) (by decide) rfl (Nat.le_of_ble_eq_true rfl) rfl ?_
  intro p e s m args below meth c ls hC hr hlocks hT G hl
  unfold w_J6_bitCount_0f7a4 at h
  have hl : lv_has ls 1 [(0, .int a0)] := hl
  refine lv_iload_n hC.1 hC.2.1 dJ6_bitCount_0f7a4_0 rfl (lv_at hl 0 rfl) ?_
  refine lv_iload_n hC.1 hC.2.1 dJ6_bitCount_0f7a4_1 rfl (lv_at hl 0 rfl) ?_
  refine lv_iconst (v := 1) hC.1 hC.2.1 dJ6_bitCount_0f7a4_2 (by decide) ?_
  refine lv_iushr (v := ((Int32.toUInt32 a0) >>> ((Int32.toUInt32 1) &&& Int32.toUInt32 31)).toInt32) hC.1 hC.2.1 dJ6_bitCount_0f7a4_3 rfl ?_
  refine lv_ldcw (v := 1431655765) hC.1 hC.2.1 hC.2.2.2.1 (hC.2.2.2.2 _ (wm 1 rfl)) dJ6_bitCount_0f7a4_4 ?_
  refine lv_iand hC.1 hC.2.1 dJ6_bitCount_0f7a4_7 ?_
  refine lv_isub hC.1 hC.2.1 dJ6_bitCount_0f7a4_8 ?_
  refine lv_istore_n (lv' := [(0, .int (a0 - ((((Int32.toUInt32 a0) >>> ((Int32.toUInt32 1) &&& Int32.toUInt32 31)).toInt32) &&& 1431655765)))]) hC.1 hC.2.1 dJ6_bitCount_0f7a4_9 rfl hl (by decide) rfl (fun ls hl => ?_)
  refine lv_iload_n hC.1 hC.2.1 dJ6_bitCount_0f7a4_10 rfl (lv_at hl 0 rfl) ?_
  refine lv_ldcw (v := 858993459) hC.1 hC.2.1 hC.2.2.2.1 (hC.2.2.2.2 _ (wm 2 rfl)) dJ6_bitCount_0f7a4_11 ?_
  refine lv_iand hC.1 hC.2.1 dJ6_bitCount_0f7a4_14 ?_
  refine lv_iload_n hC.1 hC.2.1 dJ6_bitCount_0f7a4_15 rfl (lv_at hl 0 rfl) ?_
  refine lv_iconst (v := 2) hC.1 hC.2.1 dJ6_bitCount_0f7a4_16 (by decide) ?_
  refine lv_iushr (v := ((Int32.toUInt32 (a0 - ((((Int32.toUInt32 a0) >>> ((Int32.toUInt32 1) &&& Int32.toUInt32 31)).toInt32) &&& 1431655765))) >>> ((Int32.toUInt32 2) &&& Int32.toUInt32 31)).toInt32) hC.1 hC.2.1 dJ6_bitCount_0f7a4_17 rfl ?_
  refine lv_topi (fun y1 ey1 => ?_)
  replace h := h y1 ey1
  refine lv_ldcw (v := 858993459) hC.1 hC.2.1 hC.2.2.2.1 (hC.2.2.2.2 _ (wm 2 rfl)) dJ6_bitCount_0f7a4_18 ?_
  refine lv_iand hC.1 hC.2.1 dJ6_bitCount_0f7a4_21 ?_
  refine lv_iadd hC.1 hC.2.1 dJ6_bitCount_0f7a4_22 ?_
  refine lv_istore_n (lv' := [(0, .int (((a0 - ((((Int32.toUInt32 a0) >>> ((Int32.toUInt32 1) &&& Int32.toUInt32 31)).toInt32) &&& 1431655765)) &&& 858993459) + (y1 &&& 858993459)))]) hC.1 hC.2.1 dJ6_bitCount_0f7a4_23 rfl hl (by decide) rfl (fun ls hl => ?_)
  refine lv_iload_n hC.1 hC.2.1 dJ6_bitCount_0f7a4_24 rfl (lv_at hl 0 rfl) ?_
  refine lv_iload_n hC.1 hC.2.1 dJ6_bitCount_0f7a4_25 rfl (lv_at hl 0 rfl) ?_
  refine lv_iconst (v := 4) hC.1 hC.2.1 dJ6_bitCount_0f7a4_26 (by decide) ?_
  refine lv_iushr (v := ((Int32.toUInt32 (((a0 - ((((Int32.toUInt32 a0) >>> ((Int32.toUInt32 1) &&& Int32.toUInt32 31)).toInt32) &&& 1431655765)) &&& 858993459) + (y1 &&& 858993459))) >>> ((Int32.toUInt32 4) &&& Int32.toUInt32 31)).toInt32) hC.1 hC.2.1 dJ6_bitCount_0f7a4_27 rfl ?_
  refine lv_topi (fun y2 ey2 => ?_)
  replace h := h y2 ey2
  refine lv_iadd hC.1 hC.2.1 dJ6_bitCount_0f7a4_28 ?_
  refine lv_ldcw (v := 252645135) hC.1 hC.2.1 hC.2.2.2.1 (hC.2.2.2.2 _ (wm 3 rfl)) dJ6_bitCount_0f7a4_29 ?_
  refine lv_iand hC.1 hC.2.1 dJ6_bitCount_0f7a4_32 ?_
  refine lv_topi (fun y3 ey3 => ?_)
  replace h := h y3 ey3
  refine lv_istore_n (lv' := [(0, .int y3)]) hC.1 hC.2.1 dJ6_bitCount_0f7a4_33 rfl hl (by decide) rfl (fun ls hl => ?_)
  refine lv_iload_n hC.1 hC.2.1 dJ6_bitCount_0f7a4_34 rfl (lv_at hl 0 rfl) ?_
  refine lv_iload_n hC.1 hC.2.1 dJ6_bitCount_0f7a4_35 rfl (lv_at hl 0 rfl) ?_
  refine lv_bipush (v := 8) hC.1 hC.2.1 dJ6_bitCount_0f7a4_36 (by decide) ?_
  refine lv_iushr (v := ((Int32.toUInt32 y3) >>> ((Int32.toUInt32 8) &&& Int32.toUInt32 31)).toInt32) hC.1 hC.2.1 dJ6_bitCount_0f7a4_38 rfl ?_
  refine lv_iadd hC.1 hC.2.1 dJ6_bitCount_0f7a4_39 ?_
  refine lv_istore_n (lv' := [(0, .int (y3 + (((Int32.toUInt32 y3) >>> ((Int32.toUInt32 8) &&& Int32.toUInt32 31)).toInt32)))]) hC.1 hC.2.1 dJ6_bitCount_0f7a4_40 rfl hl (by decide) rfl (fun ls hl => ?_)
  refine lv_iload_n hC.1 hC.2.1 dJ6_bitCount_0f7a4_41 rfl (lv_at hl 0 rfl) ?_
  refine lv_iload_n hC.1 hC.2.1 dJ6_bitCount_0f7a4_42 rfl (lv_at hl 0 rfl) ?_
  refine lv_bipush (v := 16) hC.1 hC.2.1 dJ6_bitCount_0f7a4_43 (by decide) ?_
  refine lv_iushr (v := ((Int32.toUInt32 (y3 + (((Int32.toUInt32 y3) >>> ((Int32.toUInt32 8) &&& Int32.toUInt32 31)).toInt32))) >>> ((Int32.toUInt32 16) &&& Int32.toUInt32 31)).toInt32) hC.1 hC.2.1 dJ6_bitCount_0f7a4_45 rfl ?_
  refine lv_topi (fun y4 ey4 => ?_)
  replace h := h y4 ey4
  refine lv_iadd hC.1 hC.2.1 dJ6_bitCount_0f7a4_46 ?_
  refine lv_istore_n (lv' := [(0, .int ((y3 + (((Int32.toUInt32 y3) >>> ((Int32.toUInt32 8) &&& Int32.toUInt32 31)).toInt32)) + y4))]) hC.1 hC.2.1 dJ6_bitCount_0f7a4_47 rfl hl (by decide) rfl (fun ls hl => ?_)
  refine lv_iload_n hC.1 hC.2.1 dJ6_bitCount_0f7a4_48 rfl (lv_at hl 0 rfl) ?_
  refine lv_bipush (v := 63) hC.1 hC.2.1 dJ6_bitCount_0f7a4_49 (by decide) ?_
  refine lv_iand hC.1 hC.2.1 dJ6_bitCount_0f7a4_51 ?_
  exact ag_iret hC hr hlocks G h dJ6_bitCount_0f7a4_52
theorem hdS_J6_bitCount_0f7a4 : yJ6_bitCount_0f7a4.cls ≠ "java/lang/invoke/MethodHandle" ∧ yJ6_bitCount_0f7a4.cls ≠ "java/lang/invoke/VarHandle" ∧ (parseMethodDescriptor yJ6_bitCount_0f7a4.desc).map (fun d => d.parameters.length) = some 1 := by decide +kernel
abbrev rm_X7_isTown : Room := { frames := 0, cells := 0, slots := 0, locals := 0 }
def w_X7_isTown (post : Int32 → MS → Prop) (σ : MS) (a0 : Int32) : Prop := ((a0 < 0 → post 0 σ) ∧ (¬ a0 < 0 → ((6 ≤ a0 → post 0 σ) ∧ (¬ 6 ≤ a0 → post 1 σ))))
set_option maxHeartbeats 4000000 in
set_option maxRecDepth 100000 in
theorem c_X7_isTown (l : Launch) (D : va_G) (cy : Nat → ClassId) (lay : Nat → Nat) {σ : MS} {post : Int32 → MS → Prop} {a0 : Int32} (h : w_X7_isTown post σ a0) (sz : Nat) : Met l yX7_isTown wsX7_isTown rm_X7_isTown (va_Pc [.int a0] (agI D cy lay σ sz)) (va_Qi post (agO D cy lay) (agA lay sz)) 0 0 (agA lay sz) := by
  refine ag_ofW (cc := cX7_isTown) (maxL := 1) (ret := some .boolean) (own := RX7) (Qc := fun sz => va_Qi post (agO D cy lay) (agA lay sz)) (by decide) rfl (Nat.le_of_ble_eq_true rfl) rfl ?_
  intro p e s m args below meth c ls hC hr hlocks hT G hl
  unfold w_X7_isTown at h
  have hl : lv_has ls 1 [(0, .int a0)] := hl
  refine lv_iload_n hC.1 hC.2.1 dX7_isTown_0 rfl (lv_at hl 0 rfl) ?_
  refine lv_if_lt (tgt := 14) hC.1 hC.2.1 dX7_isTown_1 (by decide) (fun c1 => ?_) (fun c1 => ?_)
  · replace h := h.1 c1
    refine lv_iconst (v := 0) hC.1 hC.2.1 dX7_isTown_14 (by decide) ?_
    exact ag_zret hC hr hlocks G rfl h dX7_isTown_15
  · replace h := h.2 c1
    refine lv_iload_n hC.1 hC.2.1 dX7_isTown_4 rfl (lv_at hl 0 rfl) ?_
    refine lv_bipush (v := 6) hC.1 hC.2.1 dX7_isTown_5 (by decide) ?_
    refine lv_icmp_ge (tgt := 14) hC.1 hC.2.1 dX7_isTown_7 (by decide) (fun c2 => ?_) (fun c2 => ?_)
    · replace h := h.1 c2
      refine lv_iconst (v := 0) hC.1 hC.2.1 dX7_isTown_14 (by decide) ?_
      exact ag_zret hC hr hlocks G rfl h dX7_isTown_15
    · replace h := h.2 c2
      refine lv_iconst (v := 1) hC.1 hC.2.1 dX7_isTown_10 (by decide) ?_
      refine lv_goto (tgt := 15) hC.1 hC.2.1 dX7_isTown_11 (by decide) ?_
      exact ag_zret hC hr hlocks G rfl h dX7_isTown_15
theorem hdS_X7_isTown : yX7_isTown.cls ≠ "java/lang/invoke/MethodHandle" ∧ yX7_isTown.cls ≠ "java/lang/invoke/VarHandle" ∧ (parseMethodDescriptor yX7_isTown.desc).map (fun d => d.parameters.length) = some 1 := by decide +kernel
abbrev rm_X7_isSetOfSongs : Room := { frames := 0, cells := 0, slots := 0, locals := 0 }
def w_X7_isSetOfSongs (post : Int32 → MS → Prop) (σ : MS) (a0 : Int32) : Prop := ((a0 < 0 → post 0 σ) ∧ (¬ a0 < 0 → ((65536 ≤ a0 → post 0 σ) ∧ (¬ 65536 ≤ a0 → post 1 σ))))
set_option maxHeartbeats 4000000 in
set_option maxRecDepth 100000 in
theorem c_X7_isSetOfSongs (l : Launch) (D : va_G) (cy : Nat → ClassId) (lay : Nat → Nat) {σ : MS} {post : Int32 → MS → Prop} {a0 : Int32} (h : w_X7_isSetOfSongs post σ a0) (sz : Nat) : Met l yX7_isSetOfSongs wsX7_isSetOfSongs rm_X7_isSetOfSongs (va_Pc [.int a0] (agI D cy lay σ sz)) (va_Qi post (agO D cy lay) (agA lay sz)) 0 0 (agA lay sz) := by
  refine ag_ofW (cc := cX7_isSetOfSongs) (maxL := 1) (ret := some .boolean) (own := RX7) (Qc := fun sz => va_Qi post (agO D cy lay) (agA lay sz)) (by decide) rfl (Nat.le_of_ble_eq_true rfl) rfl ?_
  intro p e s m args below meth c ls hC hr hlocks hT G hl
  unfold w_X7_isSetOfSongs at h
  have hl : lv_has ls 1 [(0, .int a0)] := hl
  refine lv_iload_n hC.1 hC.2.1 dX7_isSetOfSongs_0 rfl (lv_at hl 0 rfl) ?_
  refine lv_if_lt (tgt := 15) hC.1 hC.2.1 dX7_isSetOfSongs_1 (by decide) (fun c1 => ?_) (fun c1 => ?_)
  · replace h := h.1 c1
    refine lv_iconst (v := 0) hC.1 hC.2.1 dX7_isSetOfSongs_15 (by decide) ?_
    exact ag_zret hC hr hlocks G rfl h dX7_isSetOfSongs_16
  · replace h := h.2 c1
    refine lv_iload_n hC.1 hC.2.1 dX7_isSetOfSongs_4 rfl (lv_at hl 0 rfl) ?_
    refine lv_ldcw (v := 65536) hC.1 hC.2.1 hC.2.2.2.1 (hC.2.2.2.2 _ (wm 1 rfl)) dX7_isSetOfSongs_5 ?_
    refine lv_icmp_ge (tgt := 15) hC.1 hC.2.1 dX7_isSetOfSongs_8 (by decide) (fun c2 => ?_) (fun c2 => ?_)
    · replace h := h.1 c2
      refine lv_iconst (v := 0) hC.1 hC.2.1 dX7_isSetOfSongs_15 (by decide) ?_
      exact ag_zret hC hr hlocks G rfl h dX7_isSetOfSongs_16
    · replace h := h.2 c2
      refine lv_iconst (v := 1) hC.1 hC.2.1 dX7_isSetOfSongs_11 (by decide) ?_
      refine lv_goto (tgt := 16) hC.1 hC.2.1 dX7_isSetOfSongs_12 (by decide) ?_
      exact ag_zret hC hr hlocks G rfl h dX7_isSetOfSongs_16
theorem hdS_X7_isSetOfSongs : yX7_isSetOfSongs.cls ≠ "java/lang/invoke/MethodHandle" ∧ yX7_isSetOfSongs.cls ≠ "java/lang/invoke/VarHandle" ∧ (parseMethodDescriptor yX7_isSetOfSongs.desc).map (fun d => d.parameters.length) = some 1 := by decide +kernel
abbrev rm_X7_areHours : Room := { frames := 0, cells := 0, slots := 0, locals := 0 }
def w_X7_areHours (post : Int32 → MS → Prop) (σ : MS) (a0 : Int32) (a1 : Int32) : Prop := ((a0 < 10 → post 0 σ) ∧ (¬ a0 < 10 → ((22 < a0 → post 0 σ) ∧ (¬ 22 < a0 → ((a1 < 1 → post 0 σ) ∧ (¬ a1 < 1 → ((6 < a1 → post 0 σ) ∧ (¬ 6 < a1 → ((24 < (a0 + a1) → post 0 σ) ∧ (¬ 24 < (a0 + a1) → post 1 σ))))))))))
set_option maxHeartbeats 4000000 in
set_option maxRecDepth 100000 in
theorem c_X7_areHours (l : Launch) (D : va_G) (cy : Nat → ClassId) (lay : Nat → Nat) {σ : MS} {post : Int32 → MS → Prop} {a0 : Int32} {a1 : Int32} (h : w_X7_areHours post σ a0 a1) (sz : Nat) : Met l yX7_areHours wsX7_areHours rm_X7_areHours (va_Pc [.int a0, .int a1] (agI D cy lay σ sz)) (va_Qi post (agO D cy lay) (agA lay sz)) 0 0 (agA lay sz) := by
  refine ag_ofW (cc := cX7_areHours) (maxL := 2) (ret := some .boolean) (own := RX7) (Qc := fun sz => va_Qi post (agO D cy lay) (agA lay sz)) (by decide) rfl (Nat.le_of_ble_eq_true rfl) rfl ?_
  intro p e s m args below meth c ls hC hr hlocks hT G hl
  unfold w_X7_areHours at h
  have hl : lv_has ls 2 [(0, .int a0), (1, .int a1)] := hl
  refine lv_iload_n hC.1 hC.2.1 dX7_areHours_0 rfl (lv_at hl 0 rfl) ?_
  refine lv_bipush (v := 10) hC.1 hC.2.1 dX7_areHours_1 (by decide) ?_
  refine lv_icmp_lt (tgt := 35) hC.1 hC.2.1 dX7_areHours_3 (by decide) (fun c1 => ?_) (fun c1 => ?_)
  · replace h := h.1 c1
    refine lv_iconst (v := 0) hC.1 hC.2.1 dX7_areHours_35 (by decide) ?_
    exact ag_zret hC hr hlocks G rfl h dX7_areHours_36
  · replace h := h.2 c1
    refine lv_iload_n hC.1 hC.2.1 dX7_areHours_6 rfl (lv_at hl 0 rfl) ?_
    refine lv_bipush (v := 22) hC.1 hC.2.1 dX7_areHours_7 (by decide) ?_
    refine lv_icmp_gt (tgt := 35) hC.1 hC.2.1 dX7_areHours_9 (by decide) (fun c2 => ?_) (fun c2 => ?_)
    · replace h := h.1 c2
      refine lv_iconst (v := 0) hC.1 hC.2.1 dX7_areHours_35 (by decide) ?_
      exact ag_zret hC hr hlocks G rfl h dX7_areHours_36
    · replace h := h.2 c2
      refine lv_iload_n hC.1 hC.2.1 dX7_areHours_12 rfl (lv_at hl 1 rfl) ?_
      refine lv_iconst (v := 1) hC.1 hC.2.1 dX7_areHours_13 (by decide) ?_
      refine lv_icmp_lt (tgt := 35) hC.1 hC.2.1 dX7_areHours_14 (by decide) (fun c3 => ?_) (fun c3 => ?_)
      · replace h := h.1 c3
        refine lv_iconst (v := 0) hC.1 hC.2.1 dX7_areHours_35 (by decide) ?_
        exact ag_zret hC hr hlocks G rfl h dX7_areHours_36
      · replace h := h.2 c3
        refine lv_iload_n hC.1 hC.2.1 dX7_areHours_17 rfl (lv_at hl 1 rfl) ?_
        refine lv_bipush (v := 6) hC.1 hC.2.1 dX7_areHours_18 (by decide) ?_
        refine lv_icmp_gt (tgt := 35) hC.1 hC.2.1 dX7_areHours_20 (by decide) (fun c4 => ?_) (fun c4 => ?_)
        · replace h := h.1 c4
          refine lv_iconst (v := 0) hC.1 hC.2.1 dX7_areHours_35 (by decide) ?_
          exact ag_zret hC hr hlocks G rfl h dX7_areHours_36
        · replace h := h.2 c4
          refine lv_iload_n hC.1 hC.2.1 dX7_areHours_23 rfl (lv_at hl 0 rfl) ?_
          refine lv_iload_n hC.1 hC.2.1 dX7_areHours_24 rfl (lv_at hl 1 rfl) ?_
          refine lv_iadd hC.1 hC.2.1 dX7_areHours_25 ?_
          refine lv_bipush (v := 24) hC.1 hC.2.1 dX7_areHours_26 (by decide) ?_
          refine lv_icmp_gt (tgt := 35) hC.1 hC.2.1 dX7_areHours_28 (by decide) (fun c5 => ?_) (fun c5 => ?_)
          · replace h := h.1 c5
            refine lv_iconst (v := 0) hC.1 hC.2.1 dX7_areHours_35 (by decide) ?_
            exact ag_zret hC hr hlocks G rfl h dX7_areHours_36
          · replace h := h.2 c5
            refine lv_iconst (v := 1) hC.1 hC.2.1 dX7_areHours_31 (by decide) ?_
            refine lv_goto (tgt := 36) hC.1 hC.2.1 dX7_areHours_32 (by decide) ?_
            exact ag_zret hC hr hlocks G rfl h dX7_areHours_36
theorem hdS_X7_areHours : yX7_areHours.cls ≠ "java/lang/invoke/MethodHandle" ∧ yX7_areHours.cls ≠ "java/lang/invoke/VarHandle" ∧ (parseMethodDescriptor yX7_areHours.desc).map (fun d => d.parameters.length) = some 2 := by decide +kernel
abbrev rm_X7_sizeOf : Room := { frames := 0, cells := 0, slots := 0, locals := 0 }
def u_X7_sizeOf_6 (post : Int32 → MS → Prop) (a0 : Int32) : Nat → MS → Int32 → Int32 → Int32 → Prop
  | 0, _, _, _, _ => False
  | n + 1, σ, v1, v2, v3 => ((6 ≤ v3 → post v1 σ) ∧ (¬ 6 ≤ v3 → u_X7_sizeOf_6 post a0 n σ (v1 + (v2 - v2 / 3 * 3)) (v2 / 3) (v3 + 1)))
set_option maxHeartbeats 4000000 in
set_option maxRecDepth 100000 in
theorem l_X7_sizeOf_6 {p : Program} {l : Launch} {e : Env} {s : State} {m : MethodId} {args : Array Value} {below : List Frame} {meth : Method} {c : Code} {D : va_G} {cy : Nat → ClassId} {lay : Nat → Nat} {post : Int32 → MS → Prop} (a0 : Int32) (hC : CallFix p m c cX7_sizeOf 4 s args wsX7_sizeOf RX7) (hr : meth.sig.returnType = some .int) (hlocks : meth.locks = false) (hT : agT D cy lay s) : ∀ (n : Nat), ∀ (σ : MS) (v1 : Int32) (v2 : Int32) (v3 : Int32), u_X7_sizeOf_6 post a0 n σ v1 v2 v3 → ∀ (H : Heap) (locs : List Loc) (ls : Array Slot), agG D cy lay σ (agA lay s.heap.size) s.heap H locs → lv_has ls 4 [(0, .int a0), (1, .int v1), (2, .int v2), (3, .int v3)] → W p l e rm_X7_sizeOf s m args below meth c H locs 0 0 (MQ below (va_Qi post (agO D cy lay) (agA lay s.heap.size)) args s 0 0 (agA lay s.heap.size)) (F0 m 6 ls []) := by
  intro n
  induction n with
  | zero =>
    intro σ v1 v2 v3 h
    exact h.elim
  | succ n ih =>
    intro σ v1 v2 v3 h H locs ls G hl
    rw [u_X7_sizeOf_6] at h
    refine lv_iload_n hC.1 hC.2.1 dX7_sizeOf_6 rfl (lv_at hl 3 rfl) ?_
    refine lv_bipush (v := 6) hC.1 hC.2.1 dX7_sizeOf_7 (by decide) ?_
    refine lv_icmp_ge (tgt := 28) hC.1 hC.2.1 dX7_sizeOf_9 (by decide) (fun c1 => ?_) (fun c1 => ?_)
    · replace h := h.1 c1
      refine lv_iload_n hC.1 hC.2.1 dX7_sizeOf_28 rfl (lv_at hl 1 rfl) ?_
      exact ag_iret hC hr hlocks G h dX7_sizeOf_29
    · replace h := h.2 c1
      refine lv_iload_n hC.1 hC.2.1 dX7_sizeOf_12 rfl (lv_at hl 1 rfl) ?_
      refine lv_iload_n hC.1 hC.2.1 dX7_sizeOf_13 rfl (lv_at hl 2 rfl) ?_
      refine lv_iconst (v := 3) hC.1 hC.2.1 dX7_sizeOf_14 (by decide) ?_
      refine lv_irem hC.1 hC.2.1 dX7_sizeOf_15 (by decide) ?_
      refine lv_iadd hC.1 hC.2.1 dX7_sizeOf_16 ?_
      refine lv_istore_n (lv' := [(1, .int (v1 + (v2 - v2 / 3 * 3))), (0, .int a0), (2, .int v2), (3, .int v3)]) hC.1 hC.2.1 dX7_sizeOf_17 rfl hl (by decide) rfl (fun ls hl => ?_)
      refine lv_iload_n hC.1 hC.2.1 dX7_sizeOf_18 rfl (lv_at hl 2 rfl) ?_
      refine lv_iconst (v := 3) hC.1 hC.2.1 dX7_sizeOf_19 (by decide) ?_
      refine lv_idiv hC.1 hC.2.1 dX7_sizeOf_20 (by decide) ?_
      refine lv_istore_n (lv' := [(2, .int (v2 / 3)), (1, .int (v1 + (v2 - v2 / 3 * 3))), (0, .int a0), (3, .int v3)]) hC.1 hC.2.1 dX7_sizeOf_21 rfl hl (by decide) rfl (fun ls hl => ?_)
      refine lv_iinc (v := v3 + 1) (lv' := [(3, .int (v3 + 1)), (2, .int (v2 / 3)), (1, .int (v1 + (v2 - v2 / 3 * 3))), (0, .int a0)]) hC.1 hC.2.1 dX7_sizeOf_22 hl (k := 3) rfl rfl (by decide) rfl (fun ls hl => ?_)
      refine lv_goto (tgt := 6) hC.1 hC.2.1 dX7_sizeOf_25 (by decide) ?_
      exact ih _ _ _ _ h _ _ _ G (lv_sub hl [3, 2, 1, 0] rfl)
def w_X7_sizeOf (post : Int32 → MS → Prop) (σ : MS) (a0 : Int32) : Prop := (∃ k, u_X7_sizeOf_6 post a0 k σ 0 a0 0)
set_option maxHeartbeats 4000000 in
set_option maxRecDepth 100000 in
theorem c_X7_sizeOf (l : Launch) (D : va_G) (cy : Nat → ClassId) (lay : Nat → Nat) {σ : MS} {post : Int32 → MS → Prop} {a0 : Int32} (h : w_X7_sizeOf post σ a0) (sz : Nat) : Met l yX7_sizeOf wsX7_sizeOf rm_X7_sizeOf (va_Pc [.int a0] (agI D cy lay σ sz)) (va_Qi post (agO D cy lay) (agA lay sz)) 0 0 (agA lay sz) := by
  refine ag_ofW (cc := cX7_sizeOf) (maxL := 4) (ret := some .int) (own := RX7) (Qc := fun sz => va_Qi post (agO D cy lay) (agA lay sz)) (by decide) rfl (Nat.le_of_ble_eq_true rfl) rfl ?_
  intro p e s m args below meth c ls hC hr hlocks hT G hl
  unfold w_X7_sizeOf at h
  have hl : lv_has ls 4 [(0, .int a0)] := hl
  refine lv_iconst (v := 0) hC.1 hC.2.1 dX7_sizeOf_0 (by decide) ?_
  refine lv_istore_n (lv' := [(1, .int 0), (0, .int a0)]) hC.1 hC.2.1 dX7_sizeOf_1 rfl hl (by decide) rfl (fun ls hl => ?_)
  refine lv_iload_n hC.1 hC.2.1 dX7_sizeOf_2 rfl (lv_at hl 1 rfl) ?_
  refine lv_istore_n (lv' := [(2, .int a0), (1, .int 0), (0, .int a0)]) hC.1 hC.2.1 dX7_sizeOf_3 rfl hl (by decide) rfl (fun ls hl => ?_)
  refine lv_iconst (v := 0) hC.1 hC.2.1 dX7_sizeOf_4 (by decide) ?_
  refine lv_istore_n (lv' := [(3, .int 0), (2, .int a0), (1, .int 0), (0, .int a0)]) hC.1 hC.2.1 dX7_sizeOf_5 rfl hl (by decide) rfl (fun ls hl => ?_)
  obtain ⟨n1, h⟩ := h
  exact l_X7_sizeOf_6 a0 hC hr hlocks hT n1 _ _ _ _ h _ _ _ G (lv_sub hl [3, 2, 1, 0] rfl)
theorem hdS_X7_sizeOf : yX7_sizeOf.cls ≠ "java/lang/invoke/MethodHandle" ∧ yX7_sizeOf.cls ≠ "java/lang/invoke/VarHandle" ∧ (parseMethodDescriptor yX7_sizeOf.desc).map (fun d => d.parameters.length) = some 1 := by decide +kernel
abbrev rm_X7_priceOf : Room := { frames := 0, cells := 0, slots := 0, locals := 0 }
def w_X7_priceOf (post : Int32 → MS → Prop) (σ : MS) (a0 : Int32) : Prop := post (((a0 * 6) / 5) + 50) σ
set_option maxHeartbeats 4000000 in
set_option maxRecDepth 100000 in
theorem c_X7_priceOf (l : Launch) (D : va_G) (cy : Nat → ClassId) (lay : Nat → Nat) {σ : MS} {post : Int32 → MS → Prop} {a0 : Int32} (h : w_X7_priceOf post σ a0) (sz : Nat) : Met l yX7_priceOf wsX7_priceOf rm_X7_priceOf (va_Pc [.int a0] (agI D cy lay σ sz)) (va_Qi post (agO D cy lay) (agA lay sz)) 0 0 (agA lay sz) := by
  refine ag_ofW (cc := cX7_priceOf) (maxL := 1) (ret := some .int) (own := RX7) (Qc := fun sz => va_Qi post (agO D cy lay) (agA lay sz)) (by decide) rfl (Nat.le_of_ble_eq_true rfl) rfl ?_
  intro p e s m args below meth c ls hC hr hlocks hT G hl
  unfold w_X7_priceOf at h
  have hl : lv_has ls 1 [(0, .int a0)] := hl
  refine lv_iload_n hC.1 hC.2.1 dX7_priceOf_0 rfl (lv_at hl 0 rfl) ?_
  refine lv_bipush (v := 6) hC.1 hC.2.1 dX7_priceOf_1 (by decide) ?_
  refine lv_imul hC.1 hC.2.1 dX7_priceOf_3 ?_
  refine lv_iconst (v := 5) hC.1 hC.2.1 dX7_priceOf_4 (by decide) ?_
  refine lv_idiv hC.1 hC.2.1 dX7_priceOf_5 (by decide) ?_
  refine lv_bipush (v := 50) hC.1 hC.2.1 dX7_priceOf_6 (by decide) ?_
  refine lv_iadd hC.1 hC.2.1 dX7_priceOf_8 ?_
  exact ag_iret hC hr hlocks G h dX7_priceOf_9
theorem hdS_X7_priceOf : yX7_priceOf.cls ≠ "java/lang/invoke/MethodHandle" ∧ yX7_priceOf.cls ≠ "java/lang/invoke/VarHandle" ∧ (parseMethodDescriptor yX7_priceOf.desc).map (fun d => d.parameters.length) = some 1 := by decide +kernel
abbrev rm_X7_countInState : Room := { frames := 0, cells := 0, slots := 0, locals := 0 }
theorem i_X7_countInState_X7 : ∀ w ∈ wsX70, w ∈ wsX7_countInState := fun _ h => List.mem_cons_of_mem _ (List.mem_append_left _ (List.mem_append_right _ h))
theorem i_X7_countInState_X6 : ∀ w ∈ wsX60, w ∈ wsX7_countInState := fun _ h => List.mem_cons_of_mem _ (List.mem_append_right _ h)
def u_X7_countInState_4 (post : Int32 → MS → Prop) (a1 : Int32) : Nat → MS → Int32 → Int32 → Prop
  | 0, _, _, _ => False
  | n + 1, σ, v2, v3 => (((σ 0 8) ≤ v3 → post v2 σ) ∧ (¬ (σ 0 8) ≤ v3 → (vp_in v3 14 ∧ (((σ (73 + (Int32.toNatClampNeg v3)) 7) = a1 → u_X7_countInState_4 post a1 n σ (v2 + 1) (v3 + 1)) ∧ (¬ (σ (73 + (Int32.toNatClampNeg v3)) 7) = a1 → u_X7_countInState_4 post a1 n σ v2 (v3 + 1))))))
set_option maxHeartbeats 4000000 in
set_option maxRecDepth 100000 in
theorem l_X7_countInState_4 {p : Program} {l : Launch} {e : Env} {s : State} {m : MethodId} {args : Array Value} {below : List Frame} {meth : Method} {c : Code} {D : va_G} {cy : Nat → ClassId} {lay : Nat → Nat} {post : Int32 → MS → Prop} (a1 : Int32) (hC : CallFix p m c cX7_countInState 4 s args wsX7_countInState RX7) (hr : meth.sig.returnType = some .int) (hlocks : meth.locks = false) (hT : agT D cy lay s) : ∀ (n : Nat), ∀ (σ : MS) (v2 : Int32) (v3 : Int32), u_X7_countInState_4 post a1 n σ v2 v3 → ∀ (H : Heap) (locs : List Loc) (ls : Array Slot), agG D cy lay σ (agA lay s.heap.size) s.heap H locs → lv_has ls 4 [(0, .ref (lay 0)), (1, .int a1), (2, .int v2), (3, .int v3)] → W p l e rm_X7_countInState s m args below meth c H locs 0 0 (MQ below (va_Qi post (agO D cy lay) (agA lay s.heap.size)) args s 0 0 (agA lay s.heap.size)) (F0 m 4 ls []) := by
  intro n
  induction n with
  | zero =>
    intro σ v2 v3 h
    exact h.elim
  | succ n ih =>
    intro σ v2 v3 h H locs ls G hl
    rw [u_X7_countInState_4] at h
    refine lv_iload_n hC.1 hC.2.1 dX7_countInState_4 rfl (lv_at hl 3 rfl) ?_
    refine lv_aload_n hC.1 hC.2.1 dX7_countInState_5 rfl (lv_at hl 0 rfl) ?_
    refine ag_get hC hT G (by decide) e_ag k_X7 i_X7_countInState_X7 8 (by decide) (wm 1 rfl) rfl dX7_countInState_6 ?_
    refine lv_icmp_ge (tgt := 34) hC.1 hC.2.1 dX7_countInState_9 (by decide) (fun c1 => ?_) (fun c1 => ?_)
    · replace h := h.1 c1
      refine lv_iload_n hC.1 hC.2.1 dX7_countInState_34 rfl (lv_at hl 2 rfl) ?_
      exact ag_iret hC hr hlocks G h dX7_countInState_35
    · replace h := h.2 c1
      refine lv_aload_n hC.1 hC.2.1 dX7_countInState_12 rfl (lv_at hl 0 rfl) ?_
      refine ag_get hC hT G (by decide) e_ag k_X7 i_X7_countInState_X7 3 (by decide) (wm 2 rfl) rfl dX7_countInState_13 ?_
      refine lv_iload_n hC.1 hC.2.1 dX7_countInState_16 rfl (lv_at hl 3 rfl) ?_
      obtain ⟨hn2, h⟩ := h
      refine ag_aald hC hT G (by decide) _ rfl e_wds hn2 dX7_countInState_17 ?_
      refine ag_get hC hT G (k_wd (vlt hn2)) (e_wd (vlt hn2)) k_X6 i_X7_countInState_X6 7 (by decide) (wm 3 rfl) rfl dX7_countInState_18 ?_
      refine lv_iload_n hC.1 hC.2.1 dX7_countInState_21 rfl (lv_at hl 1 rfl) ?_
      refine lv_icmp_ne (tgt := 28) hC.1 hC.2.1 dX7_countInState_22 (by decide) (fun c3 => ?_) (fun c3 => ?_)
      · replace h := h.2 c3
        refine lv_iinc (v := v3 + 1) (lv' := [(3, .int (v3 + 1)), (0, .ref (lay 0)), (1, .int a1), (2, .int v2)]) hC.1 hC.2.1 dX7_countInState_28 hl (k := 3) rfl rfl (by decide) rfl (fun ls hl => ?_)
        refine lv_goto (tgt := 4) hC.1 hC.2.1 dX7_countInState_31 (by decide) ?_
        exact ih _ _ _ h _ _ _ G (lv_sub hl [1, 2, 3, 0] rfl)
      · replace h := h.1 c3
        refine lv_iinc (v := v2 + 1) (lv' := [(2, .int (v2 + 1)), (0, .ref (lay 0)), (1, .int a1), (3, .int v3)]) hC.1 hC.2.1 dX7_countInState_25 hl (k := 2) rfl rfl (by decide) rfl (fun ls hl => ?_)
        refine lv_iinc (v := v3 + 1) (lv' := [(3, .int (v3 + 1)), (2, .int (v2 + 1)), (0, .ref (lay 0)), (1, .int a1)]) hC.1 hC.2.1 dX7_countInState_28 hl (k := 3) rfl rfl (by decide) rfl (fun ls hl => ?_)
        refine lv_goto (tgt := 4) hC.1 hC.2.1 dX7_countInState_31 (by decide) ?_
        exact ih _ _ _ h _ _ _ G (lv_sub hl [2, 3, 1, 0] rfl)
def w_X7_countInState (post : Int32 → MS → Prop) (σ : MS) (a1 : Int32) : Prop := (∃ k, u_X7_countInState_4 post a1 k σ 0 0)
set_option maxHeartbeats 4000000 in
set_option maxRecDepth 100000 in
theorem c_X7_countInState (l : Launch) (D : va_G) (cy : Nat → ClassId) (lay : Nat → Nat) {σ : MS} {post : Int32 → MS → Prop} {a1 : Int32} (h : w_X7_countInState post σ a1) (sz : Nat) : Met l yX7_countInState wsX7_countInState rm_X7_countInState (va_Pc [.ref (lay 0), .int a1] (agI D cy lay σ sz)) (va_Qi post (agO D cy lay) (agA lay sz)) 0 0 (agA lay sz) := by
  refine ag_ofW (cc := cX7_countInState) (maxL := 4) (ret := some .int) (own := RX7) (Qc := fun sz => va_Qi post (agO D cy lay) (agA lay sz)) (by decide) rfl (Nat.le_of_ble_eq_true rfl) rfl ?_
  intro p e s m args below meth c ls hC hr hlocks hT G hl
  unfold w_X7_countInState at h
  have hl : lv_has ls 4 [(0, .ref (lay 0)), (1, .int a1)] := hl
  refine lv_iconst (v := 0) hC.1 hC.2.1 dX7_countInState_0 (by decide) ?_
  refine lv_istore_n (lv' := [(2, .int 0), (0, .ref (lay 0)), (1, .int a1)]) hC.1 hC.2.1 dX7_countInState_1 rfl hl (by decide) rfl (fun ls hl => ?_)
  refine lv_iconst (v := 0) hC.1 hC.2.1 dX7_countInState_2 (by decide) ?_
  refine lv_istore_n (lv' := [(3, .int 0), (2, .int 0), (0, .ref (lay 0)), (1, .int a1)]) hC.1 hC.2.1 dX7_countInState_3 rfl hl (by decide) rfl (fun ls hl => ?_)
  obtain ⟨n1, h⟩ := h
  exact l_X7_countInState_4 a1 hC hr hlocks hT n1 _ _ _ h _ _ _ G (lv_sub hl [2, 3, 1, 0] rfl)
theorem hdV_X7_countInState : yX7_countInState.cls = RX7 ∧ yX7_countInState.cls ≠ "java/lang/invoke/MethodHandle" ∧ yX7_countInState.cls ≠ "java/lang/invoke/VarHandle" ∧ (parseMethodDescriptor yX7_countInState.desc).map (fun d => d.parameters.length) = some 1 := by decide +kernel
abbrev rm_X7_isTaken : Room := { frames := 0, cells := 0, slots := 0, locals := 0 }
theorem i_X7_isTaken_X7 : ∀ w ∈ wsX70, w ∈ wsX7_isTaken := fun _ h => List.mem_cons_of_mem _ (List.mem_append_left _ (List.mem_append_right _ h))
theorem i_X7_isTaken_X6 : ∀ w ∈ wsX60, w ∈ wsX7_isTaken := fun _ h => List.mem_cons_of_mem _ (List.mem_append_right _ h)
def u_X7_isTaken_2 (post : Int32 → MS → Prop) (a1 : Int32) (a2 : Int32) : Nat → MS → Int32 → Prop
  | 0, _, _ => False
  | n + 1, σ, v3 => (((σ 0 8) ≤ v3 → post 0 σ) ∧ (¬ (σ 0 8) ≤ v3 → (vp_in v3 14 ∧ (((σ (73 + (Int32.toNatClampNeg v3)) 7) = 1 → (((σ (73 + (Int32.toNatClampNeg v3)) 0) = a1 → (((σ (73 + (Int32.toNatClampNeg v3)) 1) = a2 → post 1 σ) ∧ (¬ (σ (73 + (Int32.toNatClampNeg v3)) 1) = a2 → u_X7_isTaken_2 post a1 a2 n σ (v3 + 1)))) ∧ (¬ (σ (73 + (Int32.toNatClampNeg v3)) 0) = a1 → u_X7_isTaken_2 post a1 a2 n σ (v3 + 1)))) ∧ (¬ (σ (73 + (Int32.toNatClampNeg v3)) 7) = 1 → u_X7_isTaken_2 post a1 a2 n σ (v3 + 1))))))
set_option maxHeartbeats 4000000 in
set_option maxRecDepth 100000 in
theorem l_X7_isTaken_2 {p : Program} {l : Launch} {e : Env} {s : State} {m : MethodId} {args : Array Value} {below : List Frame} {meth : Method} {c : Code} {D : va_G} {cy : Nat → ClassId} {lay : Nat → Nat} {post : Int32 → MS → Prop} (a1 : Int32) (a2 : Int32) (hC : CallFix p m c cX7_isTaken 5 s args wsX7_isTaken RX7) (hr : meth.sig.returnType = some .boolean) (hlocks : meth.locks = false) (hT : agT D cy lay s) : ∀ (n : Nat), ∀ (σ : MS) (v3 : Int32), u_X7_isTaken_2 post a1 a2 n σ v3 → ∀ (H : Heap) (locs : List Loc) (ls : Array Slot), agG D cy lay σ (agA lay s.heap.size) s.heap H locs → lv_has ls 5 [(0, .ref (lay 0)), (1, .int a1), (2, .int a2), (3, .int v3)] → W p l e rm_X7_isTaken s m args below meth c H locs 0 0 (MQ below (va_Qi post (agO D cy lay) (agA lay s.heap.size)) args s 0 0 (agA lay s.heap.size)) (F0 m 2 ls []) := by
  intro n
  induction n with
  | zero =>
    intro σ v3 h
    exact h.elim
  | succ n ih =>
    intro σ v3 h H locs ls G hl
    rw [u_X7_isTaken_2] at h
    refine lv_iload_n hC.1 hC.2.1 dX7_isTaken_2 rfl (lv_at hl 3 rfl) ?_
    refine lv_aload_n hC.1 hC.2.1 dX7_isTaken_3 rfl (lv_at hl 0 rfl) ?_
    refine ag_get hC hT G (by decide) e_ag k_X7 i_X7_isTaken_X7 8 (by decide) (wm 1 rfl) rfl dX7_isTaken_4 ?_
    refine lv_icmp_ge (tgt := 53) hC.1 hC.2.1 dX7_isTaken_7 (by decide) (fun c1 => ?_) (fun c1 => ?_)
    · replace h := h.1 c1
      refine lv_iconst (v := 0) hC.1 hC.2.1 dX7_isTaken_53 (by decide) ?_
      exact ag_zret hC hr hlocks G rfl h dX7_isTaken_54
    · replace h := h.2 c1
      refine lv_aload_n hC.1 hC.2.1 dX7_isTaken_10 rfl (lv_at hl 0 rfl) ?_
      refine ag_get hC hT G (by decide) e_ag k_X7 i_X7_isTaken_X7 3 (by decide) (wm 2 rfl) rfl dX7_isTaken_11 ?_
      refine lv_iload_n hC.1 hC.2.1 dX7_isTaken_14 rfl (lv_at hl 3 rfl) ?_
      obtain ⟨hn2, h⟩ := h
      refine ag_aald hC hT G (by decide) _ rfl e_wds hn2 dX7_isTaken_15 ?_
      refine lv_astore (lv' := [(4, .ref (lay (73 + (Int32.toNatClampNeg v3)))), (0, .ref (lay 0)), (1, .int a1), (2, .int a2), (3, .int v3)]) hC.1 hC.2.1 dX7_isTaken_16 hl (by decide) rfl (fun ls hl => ?_)
      refine lv_aload hC.1 hC.2.1 dX7_isTaken_18 (lv_at hl 0 rfl) ?_
      refine ag_get hC hT G (k_wd (vlt hn2)) (e_wd (vlt hn2)) k_X6 i_X7_isTaken_X6 7 (by decide) (wm 3 rfl) rfl dX7_isTaken_20 ?_
      refine lv_iconst (v := 1) hC.1 hC.2.1 dX7_isTaken_23 (by decide) ?_
      refine lv_icmp_ne (tgt := 47) hC.1 hC.2.1 dX7_isTaken_24 (by decide) (fun c3 => ?_) (fun c3 => ?_)
      · replace h := h.2 c3
        refine lv_iinc (v := v3 + 1) (lv' := [(3, .int (v3 + 1)), (4, .ref (lay (73 + (Int32.toNatClampNeg v3)))), (0, .ref (lay 0)), (1, .int a1), (2, .int a2)]) hC.1 hC.2.1 dX7_isTaken_47 hl (k := 4) rfl rfl (by decide) rfl (fun ls hl => ?_)
        refine lv_goto (tgt := 2) hC.1 hC.2.1 dX7_isTaken_50 (by decide) ?_
        exact ih _ _ h _ _ _ G (lv_sub hl [2, 3, 4, 0] rfl)
      · replace h := h.1 c3
        refine lv_aload hC.1 hC.2.1 dX7_isTaken_27 (lv_at hl 0 rfl) ?_
        refine ag_get hC hT G (k_wd (vlt hn2)) (e_wd (vlt hn2)) k_X6 i_X7_isTaken_X6 0 (by decide) (wm 4 rfl) rfl dX7_isTaken_29 ?_
        refine lv_iload_n hC.1 hC.2.1 dX7_isTaken_32 rfl (lv_at hl 2 rfl) ?_
        refine lv_icmp_ne (tgt := 47) hC.1 hC.2.1 dX7_isTaken_33 (by decide) (fun c4 => ?_) (fun c4 => ?_)
        · replace h := h.2 c4
          refine lv_iinc (v := v3 + 1) (lv' := [(3, .int (v3 + 1)), (4, .ref (lay (73 + (Int32.toNatClampNeg v3)))), (0, .ref (lay 0)), (1, .int a1), (2, .int a2)]) hC.1 hC.2.1 dX7_isTaken_47 hl (k := 4) rfl rfl (by decide) rfl (fun ls hl => ?_)
          refine lv_goto (tgt := 2) hC.1 hC.2.1 dX7_isTaken_50 (by decide) ?_
          exact ih _ _ h _ _ _ G (lv_sub hl [2, 3, 4, 0] rfl)
        · replace h := h.1 c4
          refine lv_aload hC.1 hC.2.1 dX7_isTaken_36 (lv_at hl 0 rfl) ?_
          refine ag_get hC hT G (k_wd (vlt hn2)) (e_wd (vlt hn2)) k_X6 i_X7_isTaken_X6 1 (by decide) (wm 5 rfl) rfl dX7_isTaken_38 ?_
          refine lv_iload_n hC.1 hC.2.1 dX7_isTaken_41 rfl (lv_at hl 3 rfl) ?_
          refine lv_icmp_ne (tgt := 47) hC.1 hC.2.1 dX7_isTaken_42 (by decide) (fun c5 => ?_) (fun c5 => ?_)
          · replace h := h.2 c5
            refine lv_iinc (v := v3 + 1) (lv' := [(3, .int (v3 + 1)), (4, .ref (lay (73 + (Int32.toNatClampNeg v3)))), (0, .ref (lay 0)), (1, .int a1), (2, .int a2)]) hC.1 hC.2.1 dX7_isTaken_47 hl (k := 4) rfl rfl (by decide) rfl (fun ls hl => ?_)
            refine lv_goto (tgt := 2) hC.1 hC.2.1 dX7_isTaken_50 (by decide) ?_
            exact ih _ _ h _ _ _ G (lv_sub hl [2, 3, 4, 0] rfl)
          · replace h := h.1 c5
            refine lv_iconst (v := 1) hC.1 hC.2.1 dX7_isTaken_45 (by decide) ?_
            exact ag_zret hC hr hlocks G rfl h dX7_isTaken_46
def w_X7_isTaken (post : Int32 → MS → Prop) (σ : MS) (a1 : Int32) (a2 : Int32) : Prop := (∃ k, u_X7_isTaken_2 post a1 a2 k σ 0)
set_option maxHeartbeats 4000000 in
set_option maxRecDepth 100000 in
theorem c_X7_isTaken (l : Launch) (D : va_G) (cy : Nat → ClassId) (lay : Nat → Nat) {σ : MS} {post : Int32 → MS → Prop} {a1 : Int32} {a2 : Int32} (h : w_X7_isTaken post σ a1 a2) (sz : Nat) : Met l yX7_isTaken wsX7_isTaken rm_X7_isTaken (va_Pc [.ref (lay 0), .int a1, .int a2] (agI D cy lay σ sz)) (va_Qi post (agO D cy lay) (agA lay sz)) 0 0 (agA lay sz) := by
  refine ag_ofW (cc := cX7_isTaken) (maxL := 5) (ret := some .boolean) (own := RX7) (Qc := fun sz => va_Qi post (agO D cy lay) (agA lay sz)) (by decide) rfl (Nat.le_of_ble_eq_true rfl) rfl ?_
  intro p e s m args below meth c ls hC hr hlocks hT G hl
  unfold w_X7_isTaken at h
  have hl : lv_has ls 5 [(0, .ref (lay 0)), (1, .int a1), (2, .int a2)] := hl
  refine lv_iconst (v := 0) hC.1 hC.2.1 dX7_isTaken_0 (by decide) ?_
  refine lv_istore_n (lv' := [(3, .int 0), (0, .ref (lay 0)), (1, .int a1), (2, .int a2)]) hC.1 hC.2.1 dX7_isTaken_1 rfl hl (by decide) rfl (fun ls hl => ?_)
  obtain ⟨n1, h⟩ := h
  exact l_X7_isTaken_2 a1 a2 hC hr hlocks hT n1 _ _ h _ _ _ G (lv_sub hl [1, 2, 3, 0] rfl)
theorem hdV_X7_isTaken : yX7_isTaken.cls = RX7 ∧ yX7_isTaken.cls ≠ "java/lang/invoke/MethodHandle" ∧ yX7_isTaken.cls ≠ "java/lang/invoke/VarHandle" ∧ (parseMethodDescriptor yX7_isTaken.desc).map (fun d => d.parameters.length) = some 2 := by decide +kernel
abbrev rm_X7_areInOneQueue : Room := { frames := 0, cells := 0, slots := 0, locals := 0 }
theorem i_X7_areInOneQueue_X7 : ∀ w ∈ wsX70, w ∈ wsX7_areInOneQueue := fun _ h => List.mem_cons_of_mem _ (List.mem_append_left _ (List.mem_append_right _ h))
theorem i_X7_areInOneQueue_X6 : ∀ w ∈ wsX60, w ∈ wsX7_areInOneQueue := fun _ h => List.mem_cons_of_mem _ (List.mem_append_right _ h)
def w_X7_areInOneQueue (post : Int32 → MS → Prop) (σ : MS) (a1 : Int32) (a2 : Int32) : Prop := (vp_in a1 14 ∧ (vp_in a2 14 ∧ (((σ (73 + (Int32.toNatClampNeg a1)) 7) = 0 → (((σ (73 + (Int32.toNatClampNeg a2)) 7) = 0 → (((σ (73 + (Int32.toNatClampNeg a1)) 0) = (σ (73 + (Int32.toNatClampNeg a2)) 0) → (((σ (73 + (Int32.toNatClampNeg a1)) 1) = (σ (73 + (Int32.toNatClampNeg a2)) 1) → post 1 σ) ∧ (¬ (σ (73 + (Int32.toNatClampNeg a1)) 1) = (σ (73 + (Int32.toNatClampNeg a2)) 1) → post 0 σ))) ∧ (¬ (σ (73 + (Int32.toNatClampNeg a1)) 0) = (σ (73 + (Int32.toNatClampNeg a2)) 0) → post 0 σ))) ∧ (¬ (σ (73 + (Int32.toNatClampNeg a2)) 7) = 0 → post 0 σ))) ∧ (¬ (σ (73 + (Int32.toNatClampNeg a1)) 7) = 0 → post 0 σ))))
set_option maxHeartbeats 4000000 in
set_option maxRecDepth 100000 in
theorem c_X7_areInOneQueue (l : Launch) (D : va_G) (cy : Nat → ClassId) (lay : Nat → Nat) {σ : MS} {post : Int32 → MS → Prop} {a1 : Int32} {a2 : Int32} (h : w_X7_areInOneQueue post σ a1 a2) (sz : Nat) : Met l yX7_areInOneQueue wsX7_areInOneQueue rm_X7_areInOneQueue (va_Pc [.ref (lay 0), .int a1, .int a2] (agI D cy lay σ sz)) (va_Qi post (agO D cy lay) (agA lay sz)) 0 0 (agA lay sz) := by
  refine ag_ofW (cc := cX7_areInOneQueue) (maxL := 5) (ret := some .boolean) (own := RX7) (Qc := fun sz => va_Qi post (agO D cy lay) (agA lay sz)) (by decide) rfl (Nat.le_of_ble_eq_true rfl) rfl ?_
  intro p e s m args below meth c ls hC hr hlocks hT G hl
  unfold w_X7_areInOneQueue at h
  have hl : lv_has ls 5 [(0, .ref (lay 0)), (1, .int a1), (2, .int a2)] := hl
  refine lv_aload_n hC.1 hC.2.1 dX7_areInOneQueue_0 rfl (lv_at hl 0 rfl) ?_
  refine ag_get hC hT G (by decide) e_ag k_X7 i_X7_areInOneQueue_X7 3 (by decide) (wm 1 rfl) rfl dX7_areInOneQueue_1 ?_
  refine lv_iload_n hC.1 hC.2.1 dX7_areInOneQueue_4 rfl (lv_at hl 1 rfl) ?_
  obtain ⟨hn1, h⟩ := h
  refine ag_aald hC hT G (by decide) _ rfl e_wds hn1 dX7_areInOneQueue_5 ?_
  refine lv_astore_n (lv' := [(3, .ref (lay (73 + (Int32.toNatClampNeg a1)))), (0, .ref (lay 0)), (1, .int a1), (2, .int a2)]) hC.1 hC.2.1 dX7_areInOneQueue_6 rfl hl (by decide) rfl (fun ls hl => ?_)
  refine lv_aload_n hC.1 hC.2.1 dX7_areInOneQueue_7 rfl (lv_at hl 1 rfl) ?_
  refine ag_get hC hT G (by decide) e_ag k_X7 i_X7_areInOneQueue_X7 3 (by decide) (wm 1 rfl) rfl dX7_areInOneQueue_8 ?_
  refine lv_iload_n hC.1 hC.2.1 dX7_areInOneQueue_11 rfl (lv_at hl 3 rfl) ?_
  obtain ⟨hn2, h⟩ := h
  refine ag_aald hC hT G (by decide) _ rfl e_wds hn2 dX7_areInOneQueue_12 ?_
  refine lv_astore (lv' := [(4, .ref (lay (73 + (Int32.toNatClampNeg a2)))), (3, .ref (lay (73 + (Int32.toNatClampNeg a1)))), (0, .ref (lay 0)), (1, .int a1), (2, .int a2)]) hC.1 hC.2.1 dX7_areInOneQueue_13 hl (by decide) rfl (fun ls hl => ?_)
  refine lv_aload_n hC.1 hC.2.1 dX7_areInOneQueue_15 rfl (lv_at hl 1 rfl) ?_
  refine ag_get hC hT G (k_wd (vlt hn1)) (e_wd (vlt hn1)) k_X6 i_X7_areInOneQueue_X6 7 (by decide) (wm 2 rfl) rfl dX7_areInOneQueue_16 ?_
  refine lv_if_ne (tgt := 58) hC.1 hC.2.1 dX7_areInOneQueue_19 (by decide) (fun c3 => ?_) (fun c3 => ?_)
  · replace h := h.2 c3
    refine lv_iconst (v := 0) hC.1 hC.2.1 dX7_areInOneQueue_58 (by decide) ?_
    exact ag_zret hC hr hlocks G rfl h dX7_areInOneQueue_59
  · replace h := h.1 c3
    refine lv_aload hC.1 hC.2.1 dX7_areInOneQueue_22 (lv_at hl 0 rfl) ?_
    refine ag_get hC hT G (k_wd (vlt hn2)) (e_wd (vlt hn2)) k_X6 i_X7_areInOneQueue_X6 7 (by decide) (wm 2 rfl) rfl dX7_areInOneQueue_24 ?_
    refine lv_if_ne (tgt := 58) hC.1 hC.2.1 dX7_areInOneQueue_27 (by decide) (fun c4 => ?_) (fun c4 => ?_)
    · replace h := h.2 c4
      refine lv_iconst (v := 0) hC.1 hC.2.1 dX7_areInOneQueue_58 (by decide) ?_
      exact ag_zret hC hr hlocks G rfl h dX7_areInOneQueue_59
    · replace h := h.1 c4
      refine lv_aload_n hC.1 hC.2.1 dX7_areInOneQueue_30 rfl (lv_at hl 1 rfl) ?_
      refine ag_get hC hT G (k_wd (vlt hn1)) (e_wd (vlt hn1)) k_X6 i_X7_areInOneQueue_X6 0 (by decide) (wm 3 rfl) rfl dX7_areInOneQueue_31 ?_
      refine lv_aload hC.1 hC.2.1 dX7_areInOneQueue_34 (lv_at hl 0 rfl) ?_
      refine ag_get hC hT G (k_wd (vlt hn2)) (e_wd (vlt hn2)) k_X6 i_X7_areInOneQueue_X6 0 (by decide) (wm 3 rfl) rfl dX7_areInOneQueue_36 ?_
      refine lv_icmp_ne (tgt := 58) hC.1 hC.2.1 dX7_areInOneQueue_39 (by decide) (fun c5 => ?_) (fun c5 => ?_)
      · replace h := h.2 c5
        refine lv_iconst (v := 0) hC.1 hC.2.1 dX7_areInOneQueue_58 (by decide) ?_
        exact ag_zret hC hr hlocks G rfl h dX7_areInOneQueue_59
      · replace h := h.1 c5
        refine lv_aload_n hC.1 hC.2.1 dX7_areInOneQueue_42 rfl (lv_at hl 1 rfl) ?_
        refine ag_get hC hT G (k_wd (vlt hn1)) (e_wd (vlt hn1)) k_X6 i_X7_areInOneQueue_X6 1 (by decide) (wm 4 rfl) rfl dX7_areInOneQueue_43 ?_
        refine lv_aload hC.1 hC.2.1 dX7_areInOneQueue_46 (lv_at hl 0 rfl) ?_
        refine ag_get hC hT G (k_wd (vlt hn2)) (e_wd (vlt hn2)) k_X6 i_X7_areInOneQueue_X6 1 (by decide) (wm 4 rfl) rfl dX7_areInOneQueue_48 ?_
        refine lv_icmp_ne (tgt := 58) hC.1 hC.2.1 dX7_areInOneQueue_51 (by decide) (fun c6 => ?_) (fun c6 => ?_)
        · replace h := h.2 c6
          refine lv_iconst (v := 0) hC.1 hC.2.1 dX7_areInOneQueue_58 (by decide) ?_
          exact ag_zret hC hr hlocks G rfl h dX7_areInOneQueue_59
        · replace h := h.1 c6
          refine lv_iconst (v := 1) hC.1 hC.2.1 dX7_areInOneQueue_54 (by decide) ?_
          refine lv_goto (tgt := 59) hC.1 hC.2.1 dX7_areInOneQueue_55 (by decide) ?_
          exact ag_zret hC hr hlocks G rfl h dX7_areInOneQueue_59
theorem hdV_X7_areInOneQueue : yX7_areInOneQueue.cls = RX7 ∧ yX7_areInOneQueue.cls ≠ "java/lang/invoke/MethodHandle" ∧ yX7_areInOneQueue.cls ≠ "java/lang/invoke/VarHandle" ∧ (parseMethodDescriptor yX7_areInOneQueue.desc).map (fun d => d.parameters.length) = some 2 := by decide +kernel
abbrev rm_X7_placeInQueue : Room := { frames := 1, cells := 0, slots := 0, locals := 24 }
theorem i_X7_placeInQueue_X7 : ∀ w ∈ wsX70, w ∈ wsX7_placeInQueue := fun _ h => List.mem_cons_of_mem _ (List.mem_append_left _ (List.mem_append_right _ h))
theorem i_X7_placeInQueue_X6 : ∀ w ∈ wsX60, w ∈ wsX7_placeInQueue := fun _ h => List.mem_cons_of_mem _ (List.mem_append_right _ h)
def u_X7_placeInQueue_18 (post : Int32 → MS → Prop) (a1 : Int32) : Nat → MS → Int32 → Int32 → Prop
  | 0, _, _, _ => False
  | n + 1, σ, v2, v3 => ((a1 ≤ v3 → post v2 σ) ∧ (¬ a1 ≤ v3 → w_X7_areInOneQueue (fun r5 σ4 => ((r5 = 0 → u_X7_placeInQueue_18 post a1 n σ4 v2 (v3 + 1)) ∧ (¬ r5 = 0 → u_X7_placeInQueue_18 post a1 n σ4 (v2 + 1) (v3 + 1)))) σ v3 a1))
set_option maxHeartbeats 4000000 in
set_option maxRecDepth 100000 in
theorem l_X7_placeInQueue_18 {p : Program} {l : Launch} {e : Env} {s : State} {m : MethodId} {args : Array Value} {below : List Frame} {meth : Method} {c : Code} {D : va_G} {cy : Nat → ClassId} {lay : Nat → Nat} {post : Int32 → MS → Prop} (a1 : Int32) (hC : CallFix p m c cX7_placeInQueue 4 s args wsX7_placeInQueue RX7) (hr : meth.sig.returnType = some .int) (hlocks : meth.locks = false) (hT : agT D cy lay s) : ∀ (n : Nat), ∀ (σ : MS) (v2 : Int32) (v3 : Int32), u_X7_placeInQueue_18 post a1 n σ v2 v3 → ∀ (H : Heap) (locs : List Loc) (ls : Array Slot), agG D cy lay σ (agA lay s.heap.size) s.heap H locs → lv_has ls 4 [(0, .ref (lay 0)), (1, .int a1), (2, .int v2), (3, .int v3)] → W p l e rm_X7_placeInQueue s m args below meth c H locs 0 0 (MQ below (va_Qi post (agO D cy lay) (agA lay s.heap.size)) args s 0 0 (agA lay s.heap.size)) (F0 m 18 ls []) := by
  intro n
  induction n with
  | zero =>
    intro σ v2 v3 h
    exact h.elim
  | succ n ih =>
    intro σ v2 v3 h H locs ls G hl
    rw [u_X7_placeInQueue_18] at h
    refine lv_iload_n hC.1 hC.2.1 dX7_placeInQueue_18 rfl (lv_at hl 3 rfl) ?_
    refine lv_iload_n hC.1 hC.2.1 dX7_placeInQueue_19 rfl (lv_at hl 1 rfl) ?_
    refine lv_icmp_ge (tgt := 41) hC.1 hC.2.1 dX7_placeInQueue_20 (by decide) (fun c3 => ?_) (fun c3 => ?_)
    · replace h := h.1 c3
      refine lv_iload_n hC.1 hC.2.1 dX7_placeInQueue_41 rfl (lv_at hl 2 rfl) ?_
      exact ag_iret hC hr hlocks G h dX7_placeInQueue_42
    · replace h := h.2 c3
      refine lv_aload_n hC.1 hC.2.1 dX7_placeInQueue_23 rfl (lv_at hl 0 rfl) ?_
      refine lv_iload_n hC.1 hC.2.1 dX7_placeInQueue_24 rfl (lv_at hl 3 rfl) ?_
      refine lv_iload_n hC.1 hC.2.1 dX7_placeInQueue_25 rfl (lv_at hl 1 rfl) ?_
      refine ag_i G (ag_runV (As := [.int v3, .int a1]) (rest := []) hC hT G (c_X7_areInOneQueue l D cy lay h _) (cwV 2 hC.2.2.2.2 gX7_placeInQueue_X7_areInOneQueue rfl rfl rfl hdV_X7_areInOneQueue ⟨Nat.le_of_ble_eq_true rfl, Nat.le_of_ble_eq_true rfl⟩) (ag_recv hT G (by decide) e_ag k_X7) rfl hl.1 rfl (Nat.le_of_ble_eq_true rfl) dX7_placeInQueue_26 ⟨Nat.le_of_ble_eq_true rfl, Nat.le_of_ble_eq_true rfl⟩) (fun r5 σ4 H locs h G => ?_)
      (try dsimp only at h)
      refine lv_if_eq (tgt := 35) hC.1 hC.2.1 dX7_placeInQueue_29 (by decide) (fun c6 => ?_) (fun c6 => ?_)
      · replace h := h.1 c6
        refine lv_iinc (v := v3 + 1) (lv' := [(3, .int (v3 + 1)), (0, .ref (lay 0)), (1, .int a1), (2, .int v2)]) hC.1 hC.2.1 dX7_placeInQueue_35 hl (k := 3) rfl rfl (by decide) rfl (fun ls hl => ?_)
        refine lv_goto (tgt := 18) hC.1 hC.2.1 dX7_placeInQueue_38 (by decide) ?_
        exact ih _ _ _ h _ _ _ G (lv_sub hl [1, 2, 3, 0] rfl)
      · replace h := h.2 c6
        refine lv_iinc (v := v2 + 1) (lv' := [(2, .int (v2 + 1)), (0, .ref (lay 0)), (1, .int a1), (3, .int v3)]) hC.1 hC.2.1 dX7_placeInQueue_32 hl (k := 2) rfl rfl (by decide) rfl (fun ls hl => ?_)
        refine lv_iinc (v := v3 + 1) (lv' := [(3, .int (v3 + 1)), (2, .int (v2 + 1)), (0, .ref (lay 0)), (1, .int a1)]) hC.1 hC.2.1 dX7_placeInQueue_35 hl (k := 3) rfl rfl (by decide) rfl (fun ls hl => ?_)
        refine lv_goto (tgt := 18) hC.1 hC.2.1 dX7_placeInQueue_38 (by decide) ?_
        exact ih _ _ _ h _ _ _ G (lv_sub hl [2, 3, 1, 0] rfl)
def w_X7_placeInQueue (post : Int32 → MS → Prop) (σ : MS) (a1 : Int32) : Prop := (vp_in a1 14 ∧ (((σ (73 + (Int32.toNatClampNeg a1)) 7) = 0 → (∃ k, u_X7_placeInQueue_18 post a1 k σ 0 0)) ∧ (¬ (σ (73 + (Int32.toNatClampNeg a1)) 7) = 0 → post (-1) σ)))
set_option maxHeartbeats 4000000 in
set_option maxRecDepth 100000 in
theorem c_X7_placeInQueue (l : Launch) (D : va_G) (cy : Nat → ClassId) (lay : Nat → Nat) {σ : MS} {post : Int32 → MS → Prop} {a1 : Int32} (h : w_X7_placeInQueue post σ a1) (sz : Nat) : Met l yX7_placeInQueue wsX7_placeInQueue rm_X7_placeInQueue (va_Pc [.ref (lay 0), .int a1] (agI D cy lay σ sz)) (va_Qi post (agO D cy lay) (agA lay sz)) 0 0 (agA lay sz) := by
  refine ag_ofW (cc := cX7_placeInQueue) (maxL := 4) (ret := some .int) (own := RX7) (Qc := fun sz => va_Qi post (agO D cy lay) (agA lay sz)) (by decide) rfl (Nat.le_of_ble_eq_true rfl) rfl ?_
  intro p e s m args below meth c ls hC hr hlocks hT G hl
  unfold w_X7_placeInQueue at h
  have hl : lv_has ls 4 [(0, .ref (lay 0)), (1, .int a1)] := hl
  refine lv_aload_n hC.1 hC.2.1 dX7_placeInQueue_0 rfl (lv_at hl 0 rfl) ?_
  refine ag_get hC hT G (by decide) e_ag k_X7 i_X7_placeInQueue_X7 3 (by decide) (wm 1 rfl) rfl dX7_placeInQueue_1 ?_
  refine lv_iload_n hC.1 hC.2.1 dX7_placeInQueue_4 rfl (lv_at hl 1 rfl) ?_
  obtain ⟨hn1, h⟩ := h
  refine ag_aald hC hT G (by decide) _ rfl e_wds hn1 dX7_placeInQueue_5 ?_
  refine ag_get hC hT G (k_wd (vlt hn1)) (e_wd (vlt hn1)) k_X6 i_X7_placeInQueue_X6 7 (by decide) (wm 2 rfl) rfl dX7_placeInQueue_6 ?_
  refine lv_if_eq (tgt := 14) hC.1 hC.2.1 dX7_placeInQueue_9 (by decide) (fun c2 => ?_) (fun c2 => ?_)
  · replace h := h.1 c2
    refine lv_iconst (v := 0) hC.1 hC.2.1 dX7_placeInQueue_14 (by decide) ?_
    refine lv_istore_n (lv' := [(2, .int 0), (0, .ref (lay 0)), (1, .int a1)]) hC.1 hC.2.1 dX7_placeInQueue_15 rfl hl (by decide) rfl (fun ls hl => ?_)
    refine lv_iconst (v := 0) hC.1 hC.2.1 dX7_placeInQueue_16 (by decide) ?_
    refine lv_istore_n (lv' := [(3, .int 0), (2, .int 0), (0, .ref (lay 0)), (1, .int a1)]) hC.1 hC.2.1 dX7_placeInQueue_17 rfl hl (by decide) rfl (fun ls hl => ?_)
    obtain ⟨n1, h⟩ := h
    exact l_X7_placeInQueue_18 a1 hC hr hlocks hT n1 _ _ _ h _ _ _ G (lv_sub hl [2, 3, 1, 0] rfl)
  · replace h := h.2 c2
    refine lv_iconst (v := (-1)) hC.1 hC.2.1 dX7_placeInQueue_12 (by decide) ?_
    exact ag_iret hC hr hlocks G h dX7_placeInQueue_13
theorem hdV_X7_placeInQueue : yX7_placeInQueue.cls = RX7 ∧ yX7_placeInQueue.cls ≠ "java/lang/invoke/MethodHandle" ∧ yX7_placeInQueue.cls ≠ "java/lang/invoke/VarHandle" ∧ (parseMethodDescriptor yX7_placeInQueue.desc).map (fun d => d.parameters.length) = some 1 := by decide +kernel
abbrev rm_X7_isFirst : Room := { frames := 2, cells := 0, slots := 0, locals := 47 }
def w_X7_isFirst (post : Int32 → MS → Prop) (σ : MS) (a1 : Int32) : Prop := w_X7_placeInQueue (fun r2 σ1 => ((r2 = 0 → post 1 σ1) ∧ (¬ r2 = 0 → post 0 σ1))) σ a1
set_option maxHeartbeats 4000000 in
set_option maxRecDepth 100000 in
theorem c_X7_isFirst (l : Launch) (D : va_G) (cy : Nat → ClassId) (lay : Nat → Nat) {σ : MS} {post : Int32 → MS → Prop} {a1 : Int32} (h : w_X7_isFirst post σ a1) (sz : Nat) : Met l yX7_isFirst wsX7_isFirst rm_X7_isFirst (va_Pc [.ref (lay 0), .int a1] (agI D cy lay σ sz)) (va_Qi post (agO D cy lay) (agA lay sz)) 0 0 (agA lay sz) := by
  refine ag_ofW (cc := cX7_isFirst) (maxL := 2) (ret := some .boolean) (own := RX7) (Qc := fun sz => va_Qi post (agO D cy lay) (agA lay sz)) (by decide) rfl (Nat.le_of_ble_eq_true rfl) rfl ?_
  intro p e s m args below meth c ls hC hr hlocks hT G hl
  unfold w_X7_isFirst at h
  have hl : lv_has ls 2 [(0, .ref (lay 0)), (1, .int a1)] := hl
  refine lv_aload_n hC.1 hC.2.1 dX7_isFirst_0 rfl (lv_at hl 0 rfl) ?_
  refine lv_iload_n hC.1 hC.2.1 dX7_isFirst_1 rfl (lv_at hl 1 rfl) ?_
  refine ag_i G (ag_runV (As := [.int a1]) (rest := []) hC hT G (c_X7_placeInQueue l D cy lay h _) (cwV 1 hC.2.2.2.2 gX7_isFirst_X7_placeInQueue rfl rfl rfl hdV_X7_placeInQueue ⟨Nat.le_of_ble_eq_true rfl, Nat.le_of_ble_eq_true rfl⟩) (ag_recv hT G (by decide) e_ag k_X7) rfl hl.1 rfl (Nat.le_of_ble_eq_true rfl) dX7_isFirst_2 ⟨Nat.le_of_ble_eq_true rfl, Nat.le_of_ble_eq_true rfl⟩) (fun r2 σ1 H locs h G => ?_)
  (try dsimp only at h)
  refine lv_if_ne (tgt := 12) hC.1 hC.2.1 dX7_isFirst_5 (by decide) (fun c3 => ?_) (fun c3 => ?_)
  · replace h := h.2 c3
    refine lv_iconst (v := 0) hC.1 hC.2.1 dX7_isFirst_12 (by decide) ?_
    exact ag_zret hC hr hlocks G rfl h dX7_isFirst_13
  · replace h := h.1 c3
    refine lv_iconst (v := 1) hC.1 hC.2.1 dX7_isFirst_8 (by decide) ?_
    refine lv_goto (tgt := 13) hC.1 hC.2.1 dX7_isFirst_9 (by decide) ?_
    exact ag_zret hC hr hlocks G rfl h dX7_isFirst_13
theorem hdV_X7_isFirst : yX7_isFirst.cls = RX7 ∧ yX7_isFirst.cls ≠ "java/lang/invoke/MethodHandle" ∧ yX7_isFirst.cls ≠ "java/lang/invoke/VarHandle" ∧ (parseMethodDescriptor yX7_isFirst.desc).map (fun d => d.parameters.length) = some 1 := by decide +kernel
abbrev rm_X7_loseQueueOf : Room := { frames := 1, cells := 0, slots := 0, locals := 24 }
theorem i_X7_loseQueueOf_X7 : ∀ w ∈ wsX70, w ∈ wsX7_loseQueueOf := fun _ h => List.mem_cons_of_mem _ (List.mem_append_left _ (List.mem_append_right _ h))
theorem i_X7_loseQueueOf_X6 : ∀ w ∈ wsX60, w ∈ wsX7_loseQueueOf := fun _ h => List.mem_cons_of_mem _ (List.mem_append_right _ h)
def u_X7_loseQueueOf_2 (post : MS → Prop) (a1 : Int32) : Nat → MS → Int32 → Prop
  | 0, _, _ => False
  | n + 1, σ, v2 => (((σ 0 8) ≤ v2 → post σ) ∧ (¬ (σ 0 8) ≤ v2 → ((v2 = a1 → u_X7_loseQueueOf_2 post a1 n σ (v2 + 1)) ∧ (¬ v2 = a1 → w_X7_areInOneQueue (fun r4 σ3 => ((r4 = 0 → u_X7_loseQueueOf_2 post a1 n σ3 (v2 + 1)) ∧ (¬ r4 = 0 → (vp_in v2 14 ∧ u_X7_loseQueueOf_2 post a1 n (up2 σ3 (73 + (Int32.toNatClampNeg v2)) 7 3) (v2 + 1))))) σ v2 a1))))
set_option maxHeartbeats 4000000 in
set_option maxRecDepth 100000 in
theorem l_X7_loseQueueOf_2 {p : Program} {l : Launch} {e : Env} {s : State} {m : MethodId} {args : Array Value} {below : List Frame} {meth : Method} {c : Code} {D : va_G} {cy : Nat → ClassId} {lay : Nat → Nat} {post : MS → Prop} (a1 : Int32) (hC : CallFix p m c cX7_loseQueueOf 3 s args wsX7_loseQueueOf RX7) (hr : meth.sig.returnType = none) (hlocks : meth.locks = false) (hT : agT D cy lay s) : ∀ (n : Nat), ∀ (σ : MS) (v2 : Int32), u_X7_loseQueueOf_2 post a1 n σ v2 → ∀ (H : Heap) (locs : List Loc) (ls : Array Slot), agG D cy lay σ (agA lay s.heap.size) s.heap H locs → lv_has ls 3 [(0, .ref (lay 0)), (1, .int a1), (2, .int v2)] → W p l e rm_X7_loseQueueOf s m args below meth c H locs 0 0 (MQ below (va_Qv post (agO D cy lay) (agA lay s.heap.size)) args s 0 0 (agA lay s.heap.size)) (F0 m 2 ls []) := by
  intro n
  induction n with
  | zero =>
    intro σ v2 h
    exact h.elim
  | succ n ih =>
    intro σ v2 h H locs ls G hl
    rw [u_X7_loseQueueOf_2] at h
    refine lv_iload_n hC.1 hC.2.1 dX7_loseQueueOf_2 rfl (lv_at hl 2 rfl) ?_
    refine lv_aload_n hC.1 hC.2.1 dX7_loseQueueOf_3 rfl (lv_at hl 0 rfl) ?_
    refine ag_get hC hT G (by decide) e_ag k_X7 i_X7_loseQueueOf_X7 8 (by decide) (wm 1 rfl) rfl dX7_loseQueueOf_4 ?_
    refine lv_icmp_ge (tgt := 40) hC.1 hC.2.1 dX7_loseQueueOf_7 (by decide) (fun c1 => ?_) (fun c1 => ?_)
    · replace h := h.1 c1
      exact ag_vret hC hr hlocks G h dX7_loseQueueOf_40
    · replace h := h.2 c1
      refine lv_iload_n hC.1 hC.2.1 dX7_loseQueueOf_10 rfl (lv_at hl 2 rfl) ?_
      refine lv_iload_n hC.1 hC.2.1 dX7_loseQueueOf_11 rfl (lv_at hl 1 rfl) ?_
      refine lv_icmp_eq (tgt := 34) hC.1 hC.2.1 dX7_loseQueueOf_12 (by decide) (fun c2 => ?_) (fun c2 => ?_)
      · replace h := h.1 c2
        refine lv_iinc (v := v2 + 1) (lv' := [(2, .int (v2 + 1)), (0, .ref (lay 0)), (1, .int a1)]) hC.1 hC.2.1 dX7_loseQueueOf_34 hl (k := 2) rfl rfl (by decide) rfl (fun ls hl => ?_)
        refine lv_goto (tgt := 2) hC.1 hC.2.1 dX7_loseQueueOf_37 (by decide) ?_
        exact ih _ _ h _ _ _ G (lv_sub hl [1, 2, 0] rfl)
      · replace h := h.2 c2
        refine lv_aload_n hC.1 hC.2.1 dX7_loseQueueOf_15 rfl (lv_at hl 0 rfl) ?_
        refine lv_iload_n hC.1 hC.2.1 dX7_loseQueueOf_16 rfl (lv_at hl 2 rfl) ?_
        refine lv_iload_n hC.1 hC.2.1 dX7_loseQueueOf_17 rfl (lv_at hl 1 rfl) ?_
        refine ag_i G (ag_runV (As := [.int v2, .int a1]) (rest := []) hC hT G (c_X7_areInOneQueue l D cy lay h _) (cwV 2 hC.2.2.2.2 gX7_loseQueueOf_X7_areInOneQueue rfl rfl rfl hdV_X7_areInOneQueue ⟨Nat.le_of_ble_eq_true rfl, Nat.le_of_ble_eq_true rfl⟩) (ag_recv hT G (by decide) e_ag k_X7) rfl hl.1 rfl (Nat.le_of_ble_eq_true rfl) dX7_loseQueueOf_18 ⟨Nat.le_of_ble_eq_true rfl, Nat.le_of_ble_eq_true rfl⟩) (fun r4 σ3 H locs h G => ?_)
        (try dsimp only at h)
        refine lv_if_eq (tgt := 34) hC.1 hC.2.1 dX7_loseQueueOf_21 (by decide) (fun c5 => ?_) (fun c5 => ?_)
        · replace h := h.1 c5
          refine lv_iinc (v := v2 + 1) (lv' := [(2, .int (v2 + 1)), (0, .ref (lay 0)), (1, .int a1)]) hC.1 hC.2.1 dX7_loseQueueOf_34 hl (k := 2) rfl rfl (by decide) rfl (fun ls hl => ?_)
          refine lv_goto (tgt := 2) hC.1 hC.2.1 dX7_loseQueueOf_37 (by decide) ?_
          exact ih _ _ h _ _ _ G (lv_sub hl [1, 2, 0] rfl)
        · replace h := h.2 c5
          refine lv_aload_n hC.1 hC.2.1 dX7_loseQueueOf_24 rfl (lv_at hl 0 rfl) ?_
          refine ag_get hC hT G (by decide) e_ag k_X7 i_X7_loseQueueOf_X7 3 (by decide) (wm 2 rfl) rfl dX7_loseQueueOf_25 ?_
          refine lv_iload_n hC.1 hC.2.1 dX7_loseQueueOf_28 rfl (lv_at hl 2 rfl) ?_
          obtain ⟨hn6, h⟩ := h
          refine ag_aald hC hT G (by decide) _ rfl e_wds hn6 dX7_loseQueueOf_29 ?_
          refine lv_iconst (v := 3) hC.1 hC.2.1 dX7_loseQueueOf_30 (by decide) ?_
          refine ag_put hC hT G (k_wd (vlt hn6)) (e_wd (vlt hn6)) k_X6 i_X7_loseQueueOf_X6 7 (by decide) (wm 3 rfl) rfl rfl (by simp) (e_wd (vlt hn6)) rfl dX7_loseQueueOf_31 (fun H locs G => ?_)
          refine lv_iinc (v := v2 + 1) (lv' := [(2, .int (v2 + 1)), (0, .ref (lay 0)), (1, .int a1)]) hC.1 hC.2.1 dX7_loseQueueOf_34 hl (k := 2) rfl rfl (by decide) rfl (fun ls hl => ?_)
          refine lv_goto (tgt := 2) hC.1 hC.2.1 dX7_loseQueueOf_37 (by decide) ?_
          exact ih _ _ h _ _ _ G (lv_sub hl [1, 2, 0] rfl)
def w_X7_loseQueueOf (post : MS → Prop) (σ : MS) (a1 : Int32) : Prop := (∃ k, u_X7_loseQueueOf_2 post a1 k σ 0)
set_option maxHeartbeats 4000000 in
set_option maxRecDepth 100000 in
theorem c_X7_loseQueueOf (l : Launch) (D : va_G) (cy : Nat → ClassId) (lay : Nat → Nat) {σ : MS} {post : MS → Prop} {a1 : Int32} (h : w_X7_loseQueueOf post σ a1) (sz : Nat) : Met l yX7_loseQueueOf wsX7_loseQueueOf rm_X7_loseQueueOf (va_Pc [.ref (lay 0), .int a1] (agI D cy lay σ sz)) (va_Qv post (agO D cy lay) (agA lay sz)) 0 0 (agA lay sz) := by
  refine ag_ofW (cc := cX7_loseQueueOf) (maxL := 3) (ret := none) (own := RX7) (Qc := fun sz => va_Qv post (agO D cy lay) (agA lay sz)) (by decide) rfl (Nat.le_of_ble_eq_true rfl) rfl ?_
  intro p e s m args below meth c ls hC hr hlocks hT G hl
  unfold w_X7_loseQueueOf at h
  have hl : lv_has ls 3 [(0, .ref (lay 0)), (1, .int a1)] := hl
  refine lv_iconst (v := 0) hC.1 hC.2.1 dX7_loseQueueOf_0 (by decide) ?_
  refine lv_istore_n (lv' := [(2, .int 0), (0, .ref (lay 0)), (1, .int a1)]) hC.1 hC.2.1 dX7_loseQueueOf_1 rfl hl (by decide) rfl (fun ls hl => ?_)
  obtain ⟨n1, h⟩ := h
  exact l_X7_loseQueueOf_2 a1 hC hr hlocks hT n1 _ _ h _ _ _ G (lv_sub hl [1, 2, 0] rfl)
theorem hdV_X7_loseQueueOf : yX7_loseQueueOf.cls = RX7 ∧ yX7_loseQueueOf.cls ≠ "java/lang/invoke/MethodHandle" ∧ yX7_loseQueueOf.cls ≠ "java/lang/invoke/VarHandle" ∧ (parseMethodDescriptor yX7_loseQueueOf.desc).map (fun d => d.parameters.length) = some 1 := by decide +kernel
abbrev rm_X6_quarters : Room := { frames := 1, cells := 0, slots := 0, locals := 13 }
theorem i_X6_quarters_X6 : ∀ w ∈ wsX60, w ∈ wsX6_quarters := fun _ h => List.mem_cons_of_mem _ (List.mem_append_right _ h)
def w_X6_quarters (post : Int32 → MS → Prop) (σ : MS) (i0 : Nat) : Prop := (∀ y1 : Int32, y1 = (if (((24 - (σ (73 + i0) 3)) - (σ (73 + i0) 4)) * 60) < (σ (73 + i0) 10) then (((24 - (σ (73 + i0) 3)) - (σ (73 + i0) 4)) * 60) else (σ (73 + i0) 10)) + 14 → post (y1 / 15) σ)
set_option maxHeartbeats 4000000 in
set_option maxRecDepth 100000 in
theorem c_X6_quarters (l : Launch) (D : va_G) (cy : Nat → ClassId) (lay : Nat → Nat) {σ : MS} {post : Int32 → MS → Prop} {i0 : Nat} (h : w_X6_quarters post σ i0) (hi0 : i0 < 14) (sz : Nat) : Met l yX6_quarters wsX6_quarters rm_X6_quarters (va_Pc [.ref (lay (73 + i0))] (agI D cy lay σ sz)) (va_Qi post (agO D cy lay) (agA lay sz)) 0 0 (agA lay sz) := by
  refine ag_ofW (cc := cX6_quarters) (maxL := 2) (ret := some .int) (own := RX6) (Qc := fun sz => va_Qi post (agO D cy lay) (agA lay sz)) (by decide) rfl (Nat.le_of_ble_eq_true rfl) rfl ?_
  intro p e s m args below meth c ls hC hr hlocks hT G hl
  unfold w_X6_quarters at h
  have hl : lv_has ls 2 [(0, .ref (lay (73 + i0)))] := hl
  refine lv_aload_n hC.1 hC.2.1 dX6_quarters_0 rfl (lv_at hl 0 rfl) ?_
  refine ag_get hC hT G (k_wd hi0) (e_wd hi0) k_X6 i_X6_quarters_X6 10 (by decide) (wm 1 rfl) rfl dX6_quarters_1 ?_
  refine lv_bipush (v := 24) hC.1 hC.2.1 dX6_quarters_4 (by decide) ?_
  refine lv_aload_n hC.1 hC.2.1 dX6_quarters_6 rfl (lv_at hl 0 rfl) ?_
  refine ag_get hC hT G (k_wd hi0) (e_wd hi0) k_X6 i_X6_quarters_X6 3 (by decide) (wm 2 rfl) rfl dX6_quarters_7 ?_
  refine lv_isub hC.1 hC.2.1 dX6_quarters_10 ?_
  refine lv_aload_n hC.1 hC.2.1 dX6_quarters_11 rfl (lv_at hl 0 rfl) ?_
  refine ag_get hC hT G (k_wd hi0) (e_wd hi0) k_X6 i_X6_quarters_X6 4 (by decide) (wm 3 rfl) rfl dX6_quarters_12 ?_
  refine lv_isub hC.1 hC.2.1 dX6_quarters_15 ?_
  refine lv_bipush (v := 60) hC.1 hC.2.1 dX6_quarters_16 (by decide) ?_
  refine lv_imul hC.1 hC.2.1 dX6_quarters_18 ?_
  refine va_mmin hC.1 hC.2.1 (hC.2.2.1.trans hl.1.symm) hC.2.2.2.1 (hC.2.2.2.2 _ (wm 4 rfl)) (hC.2.2.2.2 _ (wm 5 rfl)) (hC.2.2.2.2 _ (wm 6 rfl)) (hC.2.2.2.2 _ (wm 7 rfl)) (Nat.le_of_ble_eq_true rfl) (Nat.le_of_ble_eq_true rfl) (Nat.le_of_ble_eq_true rfl) (Nat.le_of_ble_eq_true rfl) dX6_quarters_19 ?_
  refine lv_istore_n (lv' := [(1, .int (if (((24 - (σ (73 + i0) 3)) - (σ (73 + i0) 4)) * 60) < (σ (73 + i0) 10) then (((24 - (σ (73 + i0) 3)) - (σ (73 + i0) 4)) * 60) else (σ (73 + i0) 10))), (0, .ref (lay (73 + i0)))]) hC.1 hC.2.1 dX6_quarters_22 rfl hl (by decide) rfl (fun ls hl => ?_)
  refine lv_iload_n hC.1 hC.2.1 dX6_quarters_23 rfl (lv_at hl 0 rfl) ?_
  refine lv_bipush (v := 14) hC.1 hC.2.1 dX6_quarters_24 (by decide) ?_
  refine lv_iadd hC.1 hC.2.1 dX6_quarters_26 ?_
  refine lv_topi (fun y1 ey1 => ?_)
  replace h := h y1 ey1
  refine lv_bipush (v := 15) hC.1 hC.2.1 dX6_quarters_27 (by decide) ?_
  refine lv_idiv hC.1 hC.2.1 dX6_quarters_29 (by decide) ?_
  exact ag_iret hC hr hlocks G h dX6_quarters_30
theorem hdV_X6_quarters : yX6_quarters.cls = RX6 ∧ yX6_quarters.cls ≠ "java/lang/invoke/MethodHandle" ∧ yX6_quarters.cls ≠ "java/lang/invoke/VarHandle" ∧ (parseMethodDescriptor yX6_quarters.desc).map (fun d => d.parameters.length) = some 0 := by decide +kernel
abbrev rm_X6_isFixedWith : Room := { frames := 1, cells := 0, slots := 0, locals := 21 }
theorem i_X6_isFixedWith_X6 : ∀ w ∈ wsX60, w ∈ wsX6_isFixedWith := fun _ h => List.mem_cons_of_mem _ (List.mem_append_right _ h)
def w_X6_isFixedWith (post : Int32 → MS → Prop) (σ : MS) (i0 : Nat) (a1 : Int32) : Prop := (((σ (73 + i0) 7) = 1 → w_X7_has (fun r3 σ2 => ((r3 = 0 → post 0 σ2) ∧ (¬ r3 = 0 → post 1 σ2))) σ (σ (73 + i0) 8) a1) ∧ (¬ (σ (73 + i0) 7) = 1 → post 0 σ))
set_option maxHeartbeats 4000000 in
set_option maxRecDepth 100000 in
theorem c_X6_isFixedWith (l : Launch) (D : va_G) (cy : Nat → ClassId) (lay : Nat → Nat) {σ : MS} {post : Int32 → MS → Prop} {i0 : Nat} {a1 : Int32} (h : w_X6_isFixedWith post σ i0 a1) (hi0 : i0 < 14) (sz : Nat) : Met l yX6_isFixedWith wsX6_isFixedWith rm_X6_isFixedWith (va_Pc [.ref (lay (73 + i0)), .int a1] (agI D cy lay σ sz)) (va_Qi post (agO D cy lay) (agA lay sz)) 0 0 (agA lay sz) := by
  refine ag_ofW (cc := cX6_isFixedWith) (maxL := 2) (ret := some .boolean) (own := RX6) (Qc := fun sz => va_Qi post (agO D cy lay) (agA lay sz)) (by decide) rfl (Nat.le_of_ble_eq_true rfl) rfl ?_
  intro p e s m args below meth c ls hC hr hlocks hT G hl
  unfold w_X6_isFixedWith at h
  have hl : lv_has ls 2 [(0, .ref (lay (73 + i0))), (1, .int a1)] := hl
  refine lv_aload_n hC.1 hC.2.1 dX6_isFixedWith_0 rfl (lv_at hl 0 rfl) ?_
  refine ag_get hC hT G (k_wd hi0) (e_wd hi0) k_X6 i_X6_isFixedWith_X6 7 (by decide) (wm 1 rfl) rfl dX6_isFixedWith_1 ?_
  refine lv_iconst (v := 1) hC.1 hC.2.1 dX6_isFixedWith_4 (by decide) ?_
  refine lv_icmp_ne (tgt := 23) hC.1 hC.2.1 dX6_isFixedWith_5 (by decide) (fun c1 => ?_) (fun c1 => ?_)
  · replace h := h.2 c1
    refine lv_iconst (v := 0) hC.1 hC.2.1 dX6_isFixedWith_23 (by decide) ?_
    exact ag_zret hC hr hlocks G rfl h dX6_isFixedWith_24
  · replace h := h.1 c1
    refine lv_aload_n hC.1 hC.2.1 dX6_isFixedWith_8 rfl (lv_at hl 0 rfl) ?_
    refine ag_get hC hT G (k_wd hi0) (e_wd hi0) k_X6 i_X6_isFixedWith_X6 8 (by decide) (wm 2 rfl) rfl dX6_isFixedWith_9 ?_
    refine lv_iload_n hC.1 hC.2.1 dX6_isFixedWith_12 rfl (lv_at hl 1 rfl) ?_
    refine ag_i G (ag_runSN (As := [.int (σ (73 + i0) 8), .int a1]) (rest := []) hC hT G (c_X7_has l D cy lay h _) ⟨va_cnB 2 hC.2.2.2.2 ggX6_isFixedWith_X7_has rfl rfl rfl (hT.2.1 _ (wm 6 rfl)) (hC.2.2.2.2 (.initialized RX7) (wm 4 rfl)) hdS_X7_has ⟨Nat.le_of_ble_eq_true rfl, Nat.le_of_ble_eq_true rfl⟩, hC.2.2.2.2 (.static yX7_has) (wm 3 rfl), trivial⟩ rfl hl.1 rfl (Nat.le_of_ble_eq_true rfl) dX6_isFixedWith_13 ⟨Nat.le_of_ble_eq_true rfl, Nat.le_of_ble_eq_true rfl⟩) (fun r3 σ2 H locs h G => ?_)
    (try dsimp only at h)
    refine lv_if_eq (tgt := 23) hC.1 hC.2.1 dX6_isFixedWith_16 (by decide) (fun c4 => ?_) (fun c4 => ?_)
    · replace h := h.1 c4
      refine lv_iconst (v := 0) hC.1 hC.2.1 dX6_isFixedWith_23 (by decide) ?_
      exact ag_zret hC hr hlocks G rfl h dX6_isFixedWith_24
    · replace h := h.2 c4
      refine lv_iconst (v := 1) hC.1 hC.2.1 dX6_isFixedWith_19 (by decide) ?_
      refine lv_goto (tgt := 24) hC.1 hC.2.1 dX6_isFixedWith_20 (by decide) ?_
      exact ag_zret hC hr hlocks G rfl h dX6_isFixedWith_24
theorem hdV_X6_isFixedWith : yX6_isFixedWith.cls = RX6 ∧ yX6_isFixedWith.cls ≠ "java/lang/invoke/MethodHandle" ∧ yX6_isFixedWith.cls ≠ "java/lang/invoke/VarHandle" ∧ (parseMethodDescriptor yX6_isFixedWith.desc).map (fun d => d.parameters.length) = some 1 := by decide +kernel
abbrev rm_X5_fitsBeside : Room := { frames := 1, cells := 0, slots := 0, locals := 13 }
theorem i_X5_fitsBeside_X5 : ∀ w ∈ wsX50, w ∈ wsX5_fitsBeside := fun _ h => List.mem_cons_of_mem _ (List.mem_append_right _ h)
def w_X5_fitsBeside (post : Int32 → MS → Prop) (σ : MS) (i0 : Nat) (i1 : Nat) : Prop := (((if 0 ≤ ((σ (39 + i0) 0) - (σ (39 + i1) 0)) then ((σ (39 + i0) 0) - (σ (39 + i1) 0)) else 0 - ((σ (39 + i0) 0) - (σ (39 + i1) 0))) ≤ 2 → post 1 σ) ∧ (¬ (if 0 ≤ ((σ (39 + i0) 0) - (σ (39 + i1) 0)) then ((σ (39 + i0) 0) - (σ (39 + i1) 0)) else 0 - ((σ (39 + i0) 0) - (σ (39 + i1) 0))) ≤ 2 → (((if 0 ≤ ((σ (39 + i0) 0) - (σ (39 + i1) 0)) then ((σ (39 + i0) 0) - (σ (39 + i1) 0)) else 0 - ((σ (39 + i0) 0) - (σ (39 + i1) 0))) < 10 → post 0 σ) ∧ (¬ (if 0 ≤ ((σ (39 + i0) 0) - (σ (39 + i1) 0)) then ((σ (39 + i0) 0) - (σ (39 + i1) 0)) else 0 - ((σ (39 + i0) 0) - (σ (39 + i1) 0))) < 10 → post 1 σ))))
set_option maxHeartbeats 4000000 in
set_option maxRecDepth 100000 in
theorem c_X5_fitsBeside (l : Launch) (D : va_G) (cy : Nat → ClassId) (lay : Nat → Nat) {σ : MS} {post : Int32 → MS → Prop} {i0 : Nat} {i1 : Nat} (h : w_X5_fitsBeside post σ i0 i1) (hi0 : i0 < 16) (hi1 : i1 < 16) (sz : Nat) : Met l yX5_fitsBeside wsX5_fitsBeside rm_X5_fitsBeside (va_Pc [.ref (lay (39 + i0)), .ref (lay (39 + i1))] (agI D cy lay σ sz)) (va_Qi post (agO D cy lay) (agA lay sz)) 0 0 (agA lay sz) := by
  refine ag_ofW (cc := cX5_fitsBeside) (maxL := 3) (ret := some .boolean) (own := RX5) (Qc := fun sz => va_Qi post (agO D cy lay) (agA lay sz)) (by decide) rfl (Nat.le_of_ble_eq_true rfl) rfl ?_
  intro p e s m args below meth c ls hC hr hlocks hT G hl
  unfold w_X5_fitsBeside at h
  have hl : lv_has ls 3 [(0, .ref (lay (39 + i0))), (1, .ref (lay (39 + i1)))] := hl
  refine lv_aload_n hC.1 hC.2.1 dX5_fitsBeside_0 rfl (lv_at hl 0 rfl) ?_
  refine ag_get hC hT G (k_sg hi0) (e_sg hi0) k_X5 i_X5_fitsBeside_X5 0 (by decide) (wm 1 rfl) rfl dX5_fitsBeside_1 ?_
  refine lv_aload_n hC.1 hC.2.1 dX5_fitsBeside_4 rfl (lv_at hl 1 rfl) ?_
  refine ag_get hC hT G (k_sg hi1) (e_sg hi1) k_X5 i_X5_fitsBeside_X5 0 (by decide) (wm 1 rfl) rfl dX5_fitsBeside_5 ?_
  refine lv_isub hC.1 hC.2.1 dX5_fitsBeside_8 ?_
  refine va_mabs hC.1 hC.2.1 (hC.2.2.1.trans hl.1.symm) hC.2.2.2.1 (hC.2.2.2.2 _ (wm 2 rfl)) (hC.2.2.2.2 _ (wm 3 rfl)) (hC.2.2.2.2 _ (wm 4 rfl)) (hC.2.2.2.2 _ (wm 5 rfl)) (Nat.le_of_ble_eq_true rfl) (Nat.le_of_ble_eq_true rfl) (Nat.le_of_ble_eq_true rfl) (Nat.le_of_ble_eq_true rfl) dX5_fitsBeside_9 ?_
  refine lv_istore_n (lv' := [(2, .int (if 0 ≤ ((σ (39 + i0) 0) - (σ (39 + i1) 0)) then ((σ (39 + i0) 0) - (σ (39 + i1) 0)) else 0 - ((σ (39 + i0) 0) - (σ (39 + i1) 0)))), (0, .ref (lay (39 + i0))), (1, .ref (lay (39 + i1)))]) hC.1 hC.2.1 dX5_fitsBeside_12 rfl hl (by decide) rfl (fun ls hl => ?_)
  refine lv_iload_n hC.1 hC.2.1 dX5_fitsBeside_13 rfl (lv_at hl 0 rfl) ?_
  refine lv_iconst (v := 2) hC.1 hC.2.1 dX5_fitsBeside_14 (by decide) ?_
  refine lv_icmp_le (tgt := 24) hC.1 hC.2.1 dX5_fitsBeside_15 (by decide) (fun c1 => ?_) (fun c1 => ?_)
  · replace h := h.1 c1
    refine lv_iconst (v := 1) hC.1 hC.2.1 dX5_fitsBeside_24 (by decide) ?_
    refine lv_goto (tgt := 29) hC.1 hC.2.1 dX5_fitsBeside_25 (by decide) ?_
    exact ag_zret hC hr hlocks G rfl h dX5_fitsBeside_29
  · replace h := h.2 c1
    refine lv_iload_n hC.1 hC.2.1 dX5_fitsBeside_18 rfl (lv_at hl 0 rfl) ?_
    refine lv_bipush (v := 10) hC.1 hC.2.1 dX5_fitsBeside_19 (by decide) ?_
    refine lv_icmp_lt (tgt := 28) hC.1 hC.2.1 dX5_fitsBeside_21 (by decide) (fun c2 => ?_) (fun c2 => ?_)
    · replace h := h.1 c2
      refine lv_iconst (v := 0) hC.1 hC.2.1 dX5_fitsBeside_28 (by decide) ?_
      exact ag_zret hC hr hlocks G rfl h dX5_fitsBeside_29
    · replace h := h.2 c2
      refine lv_iconst (v := 1) hC.1 hC.2.1 dX5_fitsBeside_24 (by decide) ?_
      refine lv_goto (tgt := 29) hC.1 hC.2.1 dX5_fitsBeside_25 (by decide) ?_
      exact ag_zret hC hr hlocks G rfl h dX5_fitsBeside_29
theorem hdV_X5_fitsBeside : yX5_fitsBeside.cls = RX5 ∧ yX5_fitsBeside.cls ≠ "java/lang/invoke/MethodHandle" ∧ yX5_fitsBeside.cls ≠ "java/lang/invoke/VarHandle" ∧ (parseMethodDescriptor yX5_fitsBeside.desc).map (fun d => d.parameters.length) = some 1 := by decide +kernel
abbrev rm_X4_between : Room := { frames := 0, cells := 0, slots := 0, locals := 0 }
theorem i_X4_between_X4 : ∀ w ∈ wsX40, w ∈ wsX4_between := fun _ h => List.mem_cons_of_mem _ (List.mem_append_right _ h)
def w_X4_between (post : Int32 → MS → Prop) (σ : MS) (a1 : Int32) (a2 : Int32) : Prop := (vp_in a1 6 ∧ (vp_in a2 6 ∧ post (σ (23 + (Int32.toNatClampNeg a1)) (Int32.toNatClampNeg a2)) σ))
set_option maxHeartbeats 4000000 in
set_option maxRecDepth 100000 in
theorem c_X4_between (l : Launch) (D : va_G) (cy : Nat → ClassId) (lay : Nat → Nat) {σ : MS} {post : Int32 → MS → Prop} {a1 : Int32} {a2 : Int32} (h : w_X4_between post σ a1 a2) (sz : Nat) : Met l yX4_between wsX4_between rm_X4_between (va_Pc [.ref (lay 5), .int a1, .int a2] (agI D cy lay σ sz)) (va_Qi post (agO D cy lay) (agA lay sz)) 0 0 (agA lay sz) := by
  refine ag_ofW (cc := cX4_between) (maxL := 3) (ret := some .int) (own := RX4) (Qc := fun sz => va_Qi post (agO D cy lay) (agA lay sz)) (by decide) rfl (Nat.le_of_ble_eq_true rfl) rfl ?_
  intro p e s m args below meth c ls hC hr hlocks hT G hl
  unfold w_X4_between at h
  have hl : lv_has ls 3 [(0, .ref (lay 5)), (1, .int a1), (2, .int a2)] := hl
  refine lv_aload_n hC.1 hC.2.1 dX4_between_0 rfl (lv_at hl 0 rfl) ?_
  refine ag_get hC hT G (by decide) e_rd k_X4 i_X4_between_X4 1 (by decide) (wm 1 rfl) rfl dX4_between_1 ?_
  refine lv_iload_n hC.1 hC.2.1 dX4_between_4 rfl (lv_at hl 1 rfl) ?_
  obtain ⟨hn1, h⟩ := h
  refine ag_aalda hC hT G (by decide) e_wys hn1 dX4_between_5 ?_
  refine lv_iload_n hC.1 hC.2.1 dX4_between_6 rfl (lv_at hl 2 rfl) ?_
  obtain ⟨hn2, h⟩ := h
  refine ag_iald hC hT G (k_wyr (vlt hn1)) (e_wyr (vlt hn1)) hn2 dX4_between_7 ?_
  exact ag_iret hC hr hlocks G h dX4_between_8
theorem hdV_X4_between : yX4_between.cls = RX4 ∧ yX4_between.cls ≠ "java/lang/invoke/MethodHandle" ∧ yX4_between.cls ≠ "java/lang/invoke/VarHandle" ∧ (parseMethodDescriptor yX4_between.desc).map (fun d => d.parameters.length) = some 2 := by decide +kernel
abbrev rm_X4_shortenOver : Room := { frames := 1, cells := 0, slots := 0, locals := 15 }
theorem i_X4_shortenOver_X4 : ∀ w ∈ wsX40, w ∈ wsX4_shortenOver := fun _ h => List.mem_cons_of_mem _ (List.mem_append_right _ h)
def u_X4_shortenOver_10 (post : MS → Prop) (a1 : Int32) (K2 : MS → Int32 → Prop) : Nat → MS → Int32 → Int32 → Prop
  | 0, _, _, _ => False
  | n + 1, σ, v2, v3 => ((6 ≤ v3 → K2 σ (v2 + 1)) ∧ (¬ 6 ≤ v3 → (vp_in v2 6 ∧ (vp_in a1 6 ∧ (((σ (23 + (Int32.toNatClampNeg v2)) (Int32.toNatClampNeg a1)) = (-1) → u_X4_shortenOver_10 post a1 K2 n σ v2 (v3 + 1)) ∧ (¬ (σ (23 + (Int32.toNatClampNeg v2)) (Int32.toNatClampNeg a1)) = (-1) → (vp_in a1 6 ∧ (vp_in v3 6 ∧ (((σ (23 + (Int32.toNatClampNeg a1)) (Int32.toNatClampNeg v3)) = (-1) → u_X4_shortenOver_10 post a1 K2 n σ v2 (v3 + 1)) ∧ (¬ (σ (23 + (Int32.toNatClampNeg a1)) (Int32.toNatClampNeg v3)) = (-1) → (vp_in v2 6 ∧ (vp_in a1 6 ∧ (vp_in a1 6 ∧ (vp_in v3 6 ∧ (vp_in v2 6 ∧ (vp_in v2 6 ∧ (vp_in v3 6 ∧ (((σ (23 + (Int32.toNatClampNeg v2)) (Int32.toNatClampNeg v3)) = (-1) → (vp_in v3 6 ∧ u_X4_shortenOver_10 post a1 K2 n (up2 σ (23 + (Int32.toNatClampNeg v2)) (Int32.toNatClampNeg v3) ((σ (23 + (Int32.toNatClampNeg v2)) (Int32.toNatClampNeg a1)) + (σ (23 + (Int32.toNatClampNeg a1)) (Int32.toNatClampNeg v3)))) v2 (v3 + 1))) ∧ (¬ (σ (23 + (Int32.toNatClampNeg v2)) (Int32.toNatClampNeg v3)) = (-1) → (vp_in v2 6 ∧ (vp_in v3 6 ∧ (vp_in v3 6 ∧ u_X4_shortenOver_10 post a1 K2 n (up2 σ (23 + (Int32.toNatClampNeg v2)) (Int32.toNatClampNeg v3) (if ((σ (23 + (Int32.toNatClampNeg v2)) (Int32.toNatClampNeg a1)) + (σ (23 + (Int32.toNatClampNeg a1)) (Int32.toNatClampNeg v3))) < (σ (23 + (Int32.toNatClampNeg v2)) (Int32.toNatClampNeg v3)) then ((σ (23 + (Int32.toNatClampNeg v2)) (Int32.toNatClampNeg a1)) + (σ (23 + (Int32.toNatClampNeg a1)) (Int32.toNatClampNeg v3))) else (σ (23 + (Int32.toNatClampNeg v2)) (Int32.toNatClampNeg v3)))) v2 (v3 + 1)))))))))))))))))))))))
set_option maxHeartbeats 4000000 in
set_option maxRecDepth 100000 in
theorem l_X4_shortenOver_10 {p : Program} {l : Launch} {e : Env} {s : State} {m : MethodId} {args : Array Value} {below : List Frame} {meth : Method} {c : Code} {D : va_G} {cy : Nat → ClassId} {lay : Nat → Nat} {post : MS → Prop} (a1 : Int32) (K2 : MS → Int32 → Prop) (hC : CallFix p m c cX4_shortenOver 5 s args wsX4_shortenOver RX4) (hr : meth.sig.returnType = none) (hlocks : meth.locks = false) (hT : agT D cy lay s) (hK2 : ∀ (σ : MS) (v2 : Int32), K2 σ v2 → ∀ (H : Heap) (locs : List Loc) (ls : Array Slot), agG D cy lay σ (agA lay s.heap.size) s.heap H locs → lv_has ls 5 [(0, .ref (lay 5)), (1, .int a1), (2, .int v2)] → W p l e rm_X4_shortenOver s m args below meth c H locs 0 0 (MQ below (va_Qv post (agO D cy lay) (agA lay s.heap.size)) args s 0 0 (agA lay s.heap.size)) (F0 m 2 ls [])) : ∀ (n : Nat), ∀ (σ : MS) (v2 : Int32) (v3 : Int32), u_X4_shortenOver_10 post a1 K2 n σ v2 v3 → ∀ (H : Heap) (locs : List Loc) (ls : Array Slot), agG D cy lay σ (agA lay s.heap.size) s.heap H locs → lv_has ls 5 [(0, .ref (lay 5)), (1, .int a1), (2, .int v2), (3, .int v3)] → W p l e rm_X4_shortenOver s m args below meth c H locs 0 0 (MQ below (va_Qv post (agO D cy lay) (agA lay s.heap.size)) args s 0 0 (agA lay s.heap.size)) (F0 m 10 ls []) := by
  intro n
  induction n with
  | zero =>
    intro σ v2 v3 h
    exact h.elim
  | succ n ih =>
    intro σ v2 v3 h H locs ls G hl
    rw [u_X4_shortenOver_10] at h
    refine lv_iload_n hC.1 hC.2.1 dX4_shortenOver_10 rfl (lv_at hl 3 rfl) ?_
    refine lv_bipush (v := 6) hC.1 hC.2.1 dX4_shortenOver_11 (by decide) ?_
    refine lv_icmp_ge (tgt := 103) hC.1 hC.2.1 dX4_shortenOver_13 (by decide) (fun c2 => ?_) (fun c2 => ?_)
    · replace h := h.1 c2
      refine lv_iinc (v := v2 + 1) (lv' := [(2, .int (v2 + 1)), (0, .ref (lay 5)), (1, .int a1), (3, .int v3)]) hC.1 hC.2.1 dX4_shortenOver_103 hl (k := 2) rfl rfl (by decide) rfl (fun ls hl => ?_)
      refine lv_goto (tgt := 2) hC.1 hC.2.1 dX4_shortenOver_106 (by decide) ?_
      exact hK2 _ _ h _ _ _ G (lv_sub hl [1, 2, 0] rfl)
    · replace h := h.2 c2
      refine lv_aload_n hC.1 hC.2.1 dX4_shortenOver_16 rfl (lv_at hl 0 rfl) ?_
      refine ag_get hC hT G (by decide) e_rd k_X4 i_X4_shortenOver_X4 1 (by decide) (wm 1 rfl) rfl dX4_shortenOver_17 ?_
      refine lv_iload_n hC.1 hC.2.1 dX4_shortenOver_20 rfl (lv_at hl 2 rfl) ?_
      obtain ⟨hn3, h⟩ := h
      refine ag_aalda hC hT G (by decide) e_wys hn3 dX4_shortenOver_21 ?_
      refine lv_iload_n hC.1 hC.2.1 dX4_shortenOver_22 rfl (lv_at hl 1 rfl) ?_
      obtain ⟨hn4, h⟩ := h
      refine ag_iald hC hT G (k_wyr (vlt hn3)) (e_wyr (vlt hn3)) hn4 dX4_shortenOver_23 ?_
      refine lv_iconst (v := (-1)) hC.1 hC.2.1 dX4_shortenOver_24 (by decide) ?_
      refine lv_icmp_eq (tgt := 97) hC.1 hC.2.1 dX4_shortenOver_25 (by decide) (fun c5 => ?_) (fun c5 => ?_)
      · replace h := h.1 c5
        refine lv_iinc (v := v3 + 1) (lv' := [(3, .int (v3 + 1)), (0, .ref (lay 5)), (1, .int a1), (2, .int v2)]) hC.1 hC.2.1 dX4_shortenOver_97 hl (k := 3) rfl rfl (by decide) rfl (fun ls hl => ?_)
        refine lv_goto (tgt := 10) hC.1 hC.2.1 dX4_shortenOver_100 (by decide) ?_
        exact ih _ _ _ h _ _ _ G (lv_sub hl [1, 2, 3, 0] rfl)
      · replace h := h.2 c5
        refine lv_aload_n hC.1 hC.2.1 dX4_shortenOver_28 rfl (lv_at hl 0 rfl) ?_
        refine ag_get hC hT G (by decide) e_rd k_X4 i_X4_shortenOver_X4 1 (by decide) (wm 1 rfl) rfl dX4_shortenOver_29 ?_
        refine lv_iload_n hC.1 hC.2.1 dX4_shortenOver_32 rfl (lv_at hl 1 rfl) ?_
        obtain ⟨hn6, h⟩ := h
        refine ag_aalda hC hT G (by decide) e_wys hn6 dX4_shortenOver_33 ?_
        refine lv_iload_n hC.1 hC.2.1 dX4_shortenOver_34 rfl (lv_at hl 3 rfl) ?_
        obtain ⟨hn7, h⟩ := h
        refine ag_iald hC hT G (k_wyr (vlt hn6)) (e_wyr (vlt hn6)) hn7 dX4_shortenOver_35 ?_
        refine lv_iconst (v := (-1)) hC.1 hC.2.1 dX4_shortenOver_36 (by decide) ?_
        refine lv_icmp_eq (tgt := 97) hC.1 hC.2.1 dX4_shortenOver_37 (by decide) (fun c8 => ?_) (fun c8 => ?_)
        · replace h := h.1 c8
          refine lv_iinc (v := v3 + 1) (lv' := [(3, .int (v3 + 1)), (0, .ref (lay 5)), (1, .int a1), (2, .int v2)]) hC.1 hC.2.1 dX4_shortenOver_97 hl (k := 3) rfl rfl (by decide) rfl (fun ls hl => ?_)
          refine lv_goto (tgt := 10) hC.1 hC.2.1 dX4_shortenOver_100 (by decide) ?_
          exact ih _ _ _ h _ _ _ G (lv_sub hl [1, 2, 3, 0] rfl)
        · replace h := h.2 c8
          refine lv_aload_n hC.1 hC.2.1 dX4_shortenOver_40 rfl (lv_at hl 0 rfl) ?_
          refine ag_get hC hT G (by decide) e_rd k_X4 i_X4_shortenOver_X4 1 (by decide) (wm 1 rfl) rfl dX4_shortenOver_41 ?_
          refine lv_iload_n hC.1 hC.2.1 dX4_shortenOver_44 rfl (lv_at hl 2 rfl) ?_
          obtain ⟨hn9, h⟩ := h
          refine ag_aalda hC hT G (by decide) e_wys hn9 dX4_shortenOver_45 ?_
          refine lv_iload_n hC.1 hC.2.1 dX4_shortenOver_46 rfl (lv_at hl 1 rfl) ?_
          obtain ⟨hn10, h⟩ := h
          refine ag_iald hC hT G (k_wyr (vlt hn9)) (e_wyr (vlt hn9)) hn10 dX4_shortenOver_47 ?_
          refine lv_aload_n hC.1 hC.2.1 dX4_shortenOver_48 rfl (lv_at hl 0 rfl) ?_
          refine ag_get hC hT G (by decide) e_rd k_X4 i_X4_shortenOver_X4 1 (by decide) (wm 1 rfl) rfl dX4_shortenOver_49 ?_
          refine lv_iload_n hC.1 hC.2.1 dX4_shortenOver_52 rfl (lv_at hl 1 rfl) ?_
          obtain ⟨hn11, h⟩ := h
          refine ag_aalda hC hT G (by decide) e_wys hn11 dX4_shortenOver_53 ?_
          refine lv_iload_n hC.1 hC.2.1 dX4_shortenOver_54 rfl (lv_at hl 3 rfl) ?_
          obtain ⟨hn12, h⟩ := h
          refine ag_iald hC hT G (k_wyr (vlt hn11)) (e_wyr (vlt hn11)) hn12 dX4_shortenOver_55 ?_
          refine lv_iadd hC.1 hC.2.1 dX4_shortenOver_56 ?_
          refine lv_istore (lv' := [(4, .int ((σ (23 + (Int32.toNatClampNeg v2)) (Int32.toNatClampNeg a1)) + (σ (23 + (Int32.toNatClampNeg a1)) (Int32.toNatClampNeg v3)))), (0, .ref (lay 5)), (1, .int a1), (2, .int v2), (3, .int v3)]) hC.1 hC.2.1 dX4_shortenOver_57 hl (by decide) rfl (fun ls hl => ?_)
          refine lv_aload_n hC.1 hC.2.1 dX4_shortenOver_59 rfl (lv_at hl 1 rfl) ?_
          refine ag_get hC hT G (by decide) e_rd k_X4 i_X4_shortenOver_X4 1 (by decide) (wm 1 rfl) rfl dX4_shortenOver_60 ?_
          refine lv_iload_n hC.1 hC.2.1 dX4_shortenOver_63 rfl (lv_at hl 3 rfl) ?_
          obtain ⟨hn13, h⟩ := h
          refine ag_aalda hC hT G (by decide) e_wys hn13 dX4_shortenOver_64 ?_
          refine lv_iload_n hC.1 hC.2.1 dX4_shortenOver_65 rfl (lv_at hl 4 rfl) ?_
          refine lv_aload_n hC.1 hC.2.1 dX4_shortenOver_66 rfl (lv_at hl 1 rfl) ?_
          refine ag_get hC hT G (by decide) e_rd k_X4 i_X4_shortenOver_X4 1 (by decide) (wm 1 rfl) rfl dX4_shortenOver_67 ?_
          refine lv_iload_n hC.1 hC.2.1 dX4_shortenOver_70 rfl (lv_at hl 3 rfl) ?_
          obtain ⟨hn14, h⟩ := h
          refine ag_aalda hC hT G (by decide) e_wys hn14 dX4_shortenOver_71 ?_
          refine lv_iload_n hC.1 hC.2.1 dX4_shortenOver_72 rfl (lv_at hl 4 rfl) ?_
          obtain ⟨hn15, h⟩ := h
          refine ag_iald hC hT G (k_wyr (vlt hn14)) (e_wyr (vlt hn14)) hn15 dX4_shortenOver_73 ?_
          refine lv_iconst (v := (-1)) hC.1 hC.2.1 dX4_shortenOver_74 (by decide) ?_
          refine lv_icmp_ne (tgt := 83) hC.1 hC.2.1 dX4_shortenOver_75 (by decide) (fun c16 => ?_) (fun c16 => ?_)
          · replace h := h.2 c16
            refine lv_aload_n hC.1 hC.2.1 dX4_shortenOver_83 rfl (lv_at hl 1 rfl) ?_
            refine ag_get hC hT G (by decide) e_rd k_X4 i_X4_shortenOver_X4 1 (by decide) (wm 1 rfl) rfl dX4_shortenOver_84 ?_
            refine lv_iload_n hC.1 hC.2.1 dX4_shortenOver_87 rfl (lv_at hl 3 rfl) ?_
            obtain ⟨hn17, h⟩ := h
            refine ag_aalda hC hT G (by decide) e_wys hn17 dX4_shortenOver_88 ?_
            refine lv_iload_n hC.1 hC.2.1 dX4_shortenOver_89 rfl (lv_at hl 4 rfl) ?_
            obtain ⟨hn18, h⟩ := h
            refine ag_iald hC hT G (k_wyr (vlt hn17)) (e_wyr (vlt hn17)) hn18 dX4_shortenOver_90 ?_
            refine lv_iload hC.1 hC.2.1 dX4_shortenOver_91 (lv_at hl 0 rfl) ?_
            refine va_mmin hC.1 hC.2.1 (hC.2.2.1.trans hl.1.symm) hC.2.2.2.1 (hC.2.2.2.2 _ (wm 2 rfl)) (hC.2.2.2.2 _ (wm 3 rfl)) (hC.2.2.2.2 _ (wm 4 rfl)) (hC.2.2.2.2 _ (wm 5 rfl)) (Nat.le_of_ble_eq_true rfl) (Nat.le_of_ble_eq_true rfl) (Nat.le_of_ble_eq_true rfl) (Nat.le_of_ble_eq_true rfl) dX4_shortenOver_93 ?_
            obtain ⟨hn19, h⟩ := h
            refine ag_iast hC hT G (k_wyr (vlt hn13)) (fun _ => (e_wyr (vlt hn13))) hn19 dX4_shortenOver_96 (fun H locs G => ?_)
            refine lv_iinc (v := v3 + 1) (lv' := [(3, .int (v3 + 1)), (4, .int ((σ (23 + (Int32.toNatClampNeg v2)) (Int32.toNatClampNeg a1)) + (σ (23 + (Int32.toNatClampNeg a1)) (Int32.toNatClampNeg v3)))), (0, .ref (lay 5)), (1, .int a1), (2, .int v2)]) hC.1 hC.2.1 dX4_shortenOver_97 hl (k := 4) rfl rfl (by decide) rfl (fun ls hl => ?_)
            refine lv_goto (tgt := 10) hC.1 hC.2.1 dX4_shortenOver_100 (by decide) ?_
            exact ih _ _ _ h _ _ _ G (lv_sub hl [2, 3, 4, 0] rfl)
          · replace h := h.1 c16
            refine lv_iload hC.1 hC.2.1 dX4_shortenOver_78 (lv_at hl 0 rfl) ?_
            refine lv_goto (tgt := 96) hC.1 hC.2.1 dX4_shortenOver_80 (by decide) ?_
            obtain ⟨hn20, h⟩ := h
            refine ag_iast hC hT G (k_wyr (vlt hn13)) (fun _ => (e_wyr (vlt hn13))) hn20 dX4_shortenOver_96 (fun H locs G => ?_)
            refine lv_iinc (v := v3 + 1) (lv' := [(3, .int (v3 + 1)), (4, .int ((σ (23 + (Int32.toNatClampNeg v2)) (Int32.toNatClampNeg a1)) + (σ (23 + (Int32.toNatClampNeg a1)) (Int32.toNatClampNeg v3)))), (0, .ref (lay 5)), (1, .int a1), (2, .int v2)]) hC.1 hC.2.1 dX4_shortenOver_97 hl (k := 4) rfl rfl (by decide) rfl (fun ls hl => ?_)
            refine lv_goto (tgt := 10) hC.1 hC.2.1 dX4_shortenOver_100 (by decide) ?_
            exact ih _ _ _ h _ _ _ G (lv_sub hl [2, 3, 4, 0] rfl)
def u_X4_shortenOver_2 (post : MS → Prop) (a1 : Int32) : Nat → MS → Int32 → Prop
  | 0, _, _ => False
  | n + 1, σ, v2 => ((6 ≤ v2 → post σ) ∧ (¬ 6 ≤ v2 → (∃ k, u_X4_shortenOver_10 post a1 (fun σ w0 => u_X4_shortenOver_2 post a1 n σ w0) k σ v2 0)))
set_option maxHeartbeats 4000000 in
set_option maxRecDepth 100000 in
theorem l_X4_shortenOver_2 {p : Program} {l : Launch} {e : Env} {s : State} {m : MethodId} {args : Array Value} {below : List Frame} {meth : Method} {c : Code} {D : va_G} {cy : Nat → ClassId} {lay : Nat → Nat} {post : MS → Prop} (a1 : Int32) (hC : CallFix p m c cX4_shortenOver 5 s args wsX4_shortenOver RX4) (hr : meth.sig.returnType = none) (hlocks : meth.locks = false) (hT : agT D cy lay s) : ∀ (n : Nat), ∀ (σ : MS) (v2 : Int32), u_X4_shortenOver_2 post a1 n σ v2 → ∀ (H : Heap) (locs : List Loc) (ls : Array Slot), agG D cy lay σ (agA lay s.heap.size) s.heap H locs → lv_has ls 5 [(0, .ref (lay 5)), (1, .int a1), (2, .int v2)] → W p l e rm_X4_shortenOver s m args below meth c H locs 0 0 (MQ below (va_Qv post (agO D cy lay) (agA lay s.heap.size)) args s 0 0 (agA lay s.heap.size)) (F0 m 2 ls []) := by
  intro n
  induction n with
  | zero =>
    intro σ v2 h
    exact h.elim
  | succ n ih =>
    intro σ v2 h H locs ls G hl
    rw [u_X4_shortenOver_2] at h
    refine lv_iload_n hC.1 hC.2.1 dX4_shortenOver_2 rfl (lv_at hl 2 rfl) ?_
    refine lv_bipush (v := 6) hC.1 hC.2.1 dX4_shortenOver_3 (by decide) ?_
    refine lv_icmp_ge (tgt := 109) hC.1 hC.2.1 dX4_shortenOver_5 (by decide) (fun c1 => ?_) (fun c1 => ?_)
    · replace h := h.1 c1
      exact ag_vret hC hr hlocks G h dX4_shortenOver_109
    · replace h := h.2 c1
      refine lv_iconst (v := 0) hC.1 hC.2.1 dX4_shortenOver_8 (by decide) ?_
      refine lv_istore_n (lv' := [(3, .int 0), (0, .ref (lay 5)), (1, .int a1), (2, .int v2)]) hC.1 hC.2.1 dX4_shortenOver_9 rfl hl (by decide) rfl (fun ls hl => ?_)
      obtain ⟨n1, h⟩ := h
      exact l_X4_shortenOver_10 a1 (fun σ w0 => u_X4_shortenOver_2 post a1 n σ w0) hC hr hlocks hT ih n1 _ _ _ h _ _ _ G (lv_sub hl [1, 2, 3, 0] rfl)
def w_X4_shortenOver (post : MS → Prop) (σ : MS) (a1 : Int32) : Prop := (∃ k, u_X4_shortenOver_2 post a1 k σ 0)
set_option maxHeartbeats 4000000 in
set_option maxRecDepth 100000 in
theorem c_X4_shortenOver (l : Launch) (D : va_G) (cy : Nat → ClassId) (lay : Nat → Nat) {σ : MS} {post : MS → Prop} {a1 : Int32} (h : w_X4_shortenOver post σ a1) (sz : Nat) : Met l yX4_shortenOver wsX4_shortenOver rm_X4_shortenOver (va_Pc [.ref (lay 5), .int a1] (agI D cy lay σ sz)) (va_Qv post (agO D cy lay) (agA lay sz)) 0 0 (agA lay sz) := by
  refine ag_ofW (cc := cX4_shortenOver) (maxL := 5) (ret := none) (own := RX4) (Qc := fun sz => va_Qv post (agO D cy lay) (agA lay sz)) (by decide) rfl (Nat.le_of_ble_eq_true rfl) rfl ?_
  intro p e s m args below meth c ls hC hr hlocks hT G hl
  unfold w_X4_shortenOver at h
  have hl : lv_has ls 5 [(0, .ref (lay 5)), (1, .int a1)] := hl
  refine lv_iconst (v := 0) hC.1 hC.2.1 dX4_shortenOver_0 (by decide) ?_
  refine lv_istore_n (lv' := [(2, .int 0), (0, .ref (lay 5)), (1, .int a1)]) hC.1 hC.2.1 dX4_shortenOver_1 rfl hl (by decide) rfl (fun ls hl => ?_)
  obtain ⟨n1, h⟩ := h
  exact l_X4_shortenOver_2 a1 hC hr hlocks hT n1 _ _ h _ _ _ G (lv_sub hl [1, 2, 0] rfl)
theorem hdV_X4_shortenOver : yX4_shortenOver.cls = RX4 ∧ yX4_shortenOver.cls ≠ "java/lang/invoke/MethodHandle" ∧ yX4_shortenOver.cls ≠ "java/lang/invoke/VarHandle" ∧ (parseMethodDescriptor yX4_shortenOver.desc).map (fun d => d.parameters.length) = some 1 := by decide +kernel
abbrev rm_X4_lay : Room := { frames := 2, cells := 0, slots := 0, locals := 39 }
theorem i_X4_lay_X4 : ∀ w ∈ wsX40, w ∈ wsX4_lay := fun _ h => List.mem_cons_of_mem _ (List.mem_append_right _ h)
def u_X4_lay_101 (post : MS → Prop) (a1 : Int32) (a2 : Int32) (a3 : Int32) : Nat → MS → Int32 → Prop
  | 0, _, _ => False
  | n + 1, σ, v4 => ((6 ≤ v4 → post σ) ∧ (¬ 6 ≤ v4 → w_X4_shortenOver (fun σ7 => u_X4_lay_101 post a1 a2 a3 n σ7 (v4 + 1)) σ v4))
set_option maxHeartbeats 4000000 in
set_option maxRecDepth 100000 in
theorem l_X4_lay_101 {p : Program} {l : Launch} {e : Env} {s : State} {m : MethodId} {args : Array Value} {below : List Frame} {meth : Method} {c : Code} {D : va_G} {cy : Nat → ClassId} {lay : Nat → Nat} {post : MS → Prop} (a1 : Int32) (a2 : Int32) (a3 : Int32) (hC : CallFix p m c cX4_lay 6 s args wsX4_lay RX4) (hr : meth.sig.returnType = none) (hlocks : meth.locks = false) (hT : agT D cy lay s) : ∀ (n : Nat), ∀ (σ : MS) (v4 : Int32), u_X4_lay_101 post a1 a2 a3 n σ v4 → ∀ (H : Heap) (locs : List Loc) (ls : Array Slot), agG D cy lay σ (agA lay s.heap.size) s.heap H locs → lv_has ls 6 [(0, .ref (lay 5)), (1, .int a1), (2, .int a2), (3, .int a3), (4, .int v4)] → W p l e rm_X4_lay s m args below meth c H locs 0 0 (MQ below (va_Qv post (agO D cy lay) (agA lay s.heap.size)) args s 0 0 (agA lay s.heap.size)) (F0 m 101 ls []) := by
  intro n
  induction n with
  | zero =>
    intro σ v4 h
    exact h.elim
  | succ n ih =>
    intro σ v4 h H locs ls G hl
    rw [u_X4_lay_101] at h
    refine lv_iload hC.1 hC.2.1 dX4_lay_101 (lv_at hl 4 rfl) ?_
    refine lv_bipush (v := 6) hC.1 hC.2.1 dX4_lay_103 (by decide) ?_
    refine lv_icmp_ge (tgt := 120) hC.1 hC.2.1 dX4_lay_105 (by decide) (fun c6 => ?_) (fun c6 => ?_)
    · replace h := h.1 c6
      exact ag_vret hC hr hlocks G h dX4_lay_120
    · replace h := h.2 c6
      refine lv_aload_n hC.1 hC.2.1 dX4_lay_108 rfl (lv_at hl 0 rfl) ?_
      refine lv_iload hC.1 hC.2.1 dX4_lay_109 (lv_at hl 4 rfl) ?_
      refine ag_v G (ag_runV (As := [.int v4]) (rest := []) hC hT G (c_X4_shortenOver l D cy lay h _) (cwV 1 hC.2.2.2.2 gX4_lay_X4_shortenOver rfl rfl rfl hdV_X4_shortenOver ⟨Nat.le_of_ble_eq_true rfl, Nat.le_of_ble_eq_true rfl⟩) (ag_recv hT G (by decide) e_rd k_X4) rfl hl.1 rfl (Nat.le_of_ble_eq_true rfl) dX4_lay_111 ⟨Nat.le_of_ble_eq_true rfl, Nat.le_of_ble_eq_true rfl⟩) (fun σ7 H locs h G => ?_)
      (try dsimp only at h)
      refine lv_iinc (v := v4 + 1) (lv' := [(4, .int (v4 + 1)), (0, .ref (lay 5)), (1, .int a1), (2, .int a2), (3, .int a3)]) hC.1 hC.2.1 dX4_lay_114 hl (k := 4) rfl rfl (by decide) rfl (fun ls hl => ?_)
      refine lv_goto (tgt := 101) hC.1 hC.2.1 dX4_lay_117 (by decide) ?_
      exact ih _ _ h _ _ _ G (lv_sub hl [1, 2, 3, 4, 0] rfl)
def u_X4_lay_31 (post : MS → Prop) (a1 : Int32) (a2 : Int32) (a3 : Int32) (K21 : MS → Int32 → Prop) : Nat → MS → Int32 → Int32 → Prop
  | 0, _, _, _ => False
  | n + 1, σ, v4, v5 => ((6 ≤ v5 → K21 σ (v4 + 1)) ∧ (¬ 6 ≤ v5 → (vp_in v4 6 ∧ ((v4 = v5 → (vp_in v5 6 ∧ u_X4_lay_31 post a1 a2 a3 K21 n (up2 σ (23 + (Int32.toNatClampNeg v4)) (Int32.toNatClampNeg v5) 0) v4 (v5 + 1))) ∧ (¬ v4 = v5 → (vp_in v4 6 ∧ (vp_in v5 6 ∧ (((σ (17 + (Int32.toNatClampNeg v4)) (Int32.toNatClampNeg v5)) = 0 → (vp_in v5 6 ∧ u_X4_lay_31 post a1 a2 a3 K21 n (up2 σ (23 + (Int32.toNatClampNeg v4)) (Int32.toNatClampNeg v5) (-1)) v4 (v5 + 1))) ∧ (¬ (σ (17 + (Int32.toNatClampNeg v4)) (Int32.toNatClampNeg v5)) = 0 → (vp_in v4 6 ∧ (vp_in v5 6 ∧ (vp_in v5 6 ∧ u_X4_lay_31 post a1 a2 a3 K21 n (up2 σ (23 + (Int32.toNatClampNeg v4)) (Int32.toNatClampNeg v5) (σ (17 + (Int32.toNatClampNeg v4)) (Int32.toNatClampNeg v5))) v4 (v5 + 1)))))))))))))
set_option maxHeartbeats 4000000 in
set_option maxRecDepth 100000 in
theorem l_X4_lay_31 {p : Program} {l : Launch} {e : Env} {s : State} {m : MethodId} {args : Array Value} {below : List Frame} {meth : Method} {c : Code} {D : va_G} {cy : Nat → ClassId} {lay : Nat → Nat} {post : MS → Prop} (a1 : Int32) (a2 : Int32) (a3 : Int32) (K21 : MS → Int32 → Prop) (hC : CallFix p m c cX4_lay 6 s args wsX4_lay RX4) (hr : meth.sig.returnType = none) (hlocks : meth.locks = false) (hT : agT D cy lay s) (hK21 : ∀ (σ : MS) (v4 : Int32), K21 σ v4 → ∀ (H : Heap) (locs : List Loc) (ls : Array Slot), agG D cy lay σ (agA lay s.heap.size) s.heap H locs → lv_has ls 6 [(0, .ref (lay 5)), (1, .int a1), (2, .int a2), (3, .int a3), (4, .int v4)] → W p l e rm_X4_lay s m args below meth c H locs 0 0 (MQ below (va_Qv post (agO D cy lay) (agA lay s.heap.size)) args s 0 0 (agA lay s.heap.size)) (F0 m 21 ls [])) : ∀ (n : Nat), ∀ (σ : MS) (v4 : Int32) (v5 : Int32), u_X4_lay_31 post a1 a2 a3 K21 n σ v4 v5 → ∀ (H : Heap) (locs : List Loc) (ls : Array Slot), agG D cy lay σ (agA lay s.heap.size) s.heap H locs → lv_has ls 6 [(0, .ref (lay 5)), (1, .int a1), (2, .int a2), (3, .int a3), (4, .int v4), (5, .int v5)] → W p l e rm_X4_lay s m args below meth c H locs 0 0 (MQ below (va_Qv post (agO D cy lay) (agA lay s.heap.size)) args s 0 0 (agA lay s.heap.size)) (F0 m 31 ls []) := by
  intro n
  induction n with
  | zero =>
    intro σ v4 v5 h
    exact h.elim
  | succ n ih =>
    intro σ v4 v5 h H locs ls G hl
    rw [u_X4_lay_31] at h
    refine lv_iload hC.1 hC.2.1 dX4_lay_31 (lv_at hl 5 rfl) ?_
    refine lv_bipush (v := 6) hC.1 hC.2.1 dX4_lay_33 (by decide) ?_
    refine lv_icmp_ge (tgt := 92) hC.1 hC.2.1 dX4_lay_35 (by decide) (fun c8 => ?_) (fun c8 => ?_)
    · replace h := h.1 c8
      refine lv_iinc (v := v4 + 1) (lv' := [(4, .int (v4 + 1)), (0, .ref (lay 5)), (1, .int a1), (2, .int a2), (3, .int a3), (5, .int v5)]) hC.1 hC.2.1 dX4_lay_92 hl (k := 4) rfl rfl (by decide) rfl (fun ls hl => ?_)
      refine lv_goto (tgt := 21) hC.1 hC.2.1 dX4_lay_95 (by decide) ?_
      exact hK21 _ _ h _ _ _ G (lv_sub hl [1, 2, 3, 4, 0] rfl)
    · replace h := h.2 c8
      refine lv_aload_n hC.1 hC.2.1 dX4_lay_38 rfl (lv_at hl 0 rfl) ?_
      refine ag_get hC hT G (by decide) e_rd k_X4 i_X4_lay_X4 1 (by decide) (wm 2 rfl) rfl dX4_lay_39 ?_
      refine lv_iload hC.1 hC.2.1 dX4_lay_42 (lv_at hl 4 rfl) ?_
      obtain ⟨hn9, h⟩ := h
      refine ag_aalda hC hT G (by decide) e_wys hn9 dX4_lay_44 ?_
      refine lv_iload hC.1 hC.2.1 dX4_lay_45 (lv_at hl 5 rfl) ?_
      refine lv_iload hC.1 hC.2.1 dX4_lay_47 (lv_at hl 4 rfl) ?_
      refine lv_iload hC.1 hC.2.1 dX4_lay_49 (lv_at hl 5 rfl) ?_
      refine lv_icmp_ne (tgt := 58) hC.1 hC.2.1 dX4_lay_51 (by decide) (fun c10 => ?_) (fun c10 => ?_)
      · replace h := h.2 c10
        refine lv_aload_n hC.1 hC.2.1 dX4_lay_58 rfl (lv_at hl 0 rfl) ?_
        refine ag_get hC hT G (by decide) e_rd k_X4 i_X4_lay_X4 0 (by decide) (wm 1 rfl) rfl dX4_lay_59 ?_
        refine lv_iload hC.1 hC.2.1 dX4_lay_62 (lv_at hl 4 rfl) ?_
        obtain ⟨hn11, h⟩ := h
        refine ag_aalda hC hT G (by decide) e_hrs hn11 dX4_lay_64 ?_
        refine lv_iload hC.1 hC.2.1 dX4_lay_65 (lv_at hl 5 rfl) ?_
        obtain ⟨hn12, h⟩ := h
        refine ag_iald hC hT G (k_hrr (vlt hn11)) (e_hrr (vlt hn11)) hn12 dX4_lay_67 ?_
        refine lv_if_ne (tgt := 75) hC.1 hC.2.1 dX4_lay_68 (by decide) (fun c13 => ?_) (fun c13 => ?_)
        · replace h := h.2 c13
          refine lv_aload_n hC.1 hC.2.1 dX4_lay_75 rfl (lv_at hl 0 rfl) ?_
          refine ag_get hC hT G (by decide) e_rd k_X4 i_X4_lay_X4 0 (by decide) (wm 1 rfl) rfl dX4_lay_76 ?_
          refine lv_iload hC.1 hC.2.1 dX4_lay_79 (lv_at hl 4 rfl) ?_
          obtain ⟨hn14, h⟩ := h
          refine ag_aalda hC hT G (by decide) e_hrs hn14 dX4_lay_81 ?_
          refine lv_iload hC.1 hC.2.1 dX4_lay_82 (lv_at hl 5 rfl) ?_
          obtain ⟨hn15, h⟩ := h
          refine ag_iald hC hT G (k_hrr (vlt hn14)) (e_hrr (vlt hn14)) hn15 dX4_lay_84 ?_
          obtain ⟨hn16, h⟩ := h
          refine ag_iast hC hT G (k_wyr (vlt hn9)) (fun _ => (e_wyr (vlt hn9))) hn16 dX4_lay_85 (fun H locs G => ?_)
          refine lv_iinc (v := v5 + 1) (lv' := [(5, .int (v5 + 1)), (0, .ref (lay 5)), (1, .int a1), (2, .int a2), (3, .int a3), (4, .int v4)]) hC.1 hC.2.1 dX4_lay_86 hl (k := 5) rfl rfl (by decide) rfl (fun ls hl => ?_)
          refine lv_goto (tgt := 31) hC.1 hC.2.1 dX4_lay_89 (by decide) ?_
          exact ih _ _ _ h _ _ _ G (lv_sub hl [1, 2, 3, 4, 5, 0] rfl)
        · replace h := h.1 c13
          refine lv_iconst (v := (-1)) hC.1 hC.2.1 dX4_lay_71 (by decide) ?_
          refine lv_goto (tgt := 85) hC.1 hC.2.1 dX4_lay_72 (by decide) ?_
          obtain ⟨hn17, h⟩ := h
          refine ag_iast hC hT G (k_wyr (vlt hn9)) (fun _ => (e_wyr (vlt hn9))) hn17 dX4_lay_85 (fun H locs G => ?_)
          refine lv_iinc (v := v5 + 1) (lv' := [(5, .int (v5 + 1)), (0, .ref (lay 5)), (1, .int a1), (2, .int a2), (3, .int a3), (4, .int v4)]) hC.1 hC.2.1 dX4_lay_86 hl (k := 5) rfl rfl (by decide) rfl (fun ls hl => ?_)
          refine lv_goto (tgt := 31) hC.1 hC.2.1 dX4_lay_89 (by decide) ?_
          exact ih _ _ _ h _ _ _ G (lv_sub hl [1, 2, 3, 4, 5, 0] rfl)
      · replace h := h.1 c10
        refine lv_iconst (v := 0) hC.1 hC.2.1 dX4_lay_54 (by decide) ?_
        refine lv_goto (tgt := 85) hC.1 hC.2.1 dX4_lay_55 (by decide) ?_
        obtain ⟨hn18, h⟩ := h
        refine ag_iast hC hT G (k_wyr (vlt hn9)) (fun _ => (e_wyr (vlt hn9))) hn18 dX4_lay_85 (fun H locs G => ?_)
        refine lv_iinc (v := v5 + 1) (lv' := [(5, .int (v5 + 1)), (0, .ref (lay 5)), (1, .int a1), (2, .int a2), (3, .int a3), (4, .int v4)]) hC.1 hC.2.1 dX4_lay_86 hl (k := 5) rfl rfl (by decide) rfl (fun ls hl => ?_)
        refine lv_goto (tgt := 31) hC.1 hC.2.1 dX4_lay_89 (by decide) ?_
        exact ih _ _ _ h _ _ _ G (lv_sub hl [1, 2, 3, 4, 5, 0] rfl)
def u_X4_lay_21 (post : MS → Prop) (a1 : Int32) (a2 : Int32) (a3 : Int32) : Nat → MS → Int32 → Prop
  | 0, _, _ => False
  | n + 1, σ, v4 => ((6 ≤ v4 → (∃ k, u_X4_lay_101 post a1 a2 a3 k σ 0)) ∧ (¬ 6 ≤ v4 → (∃ k, u_X4_lay_31 post a1 a2 a3 (fun σ w0 => u_X4_lay_21 post a1 a2 a3 n σ w0) k σ v4 0)))
set_option maxHeartbeats 4000000 in
set_option maxRecDepth 100000 in
theorem l_X4_lay_21 {p : Program} {l : Launch} {e : Env} {s : State} {m : MethodId} {args : Array Value} {below : List Frame} {meth : Method} {c : Code} {D : va_G} {cy : Nat → ClassId} {lay : Nat → Nat} {post : MS → Prop} (a1 : Int32) (a2 : Int32) (a3 : Int32) (hC : CallFix p m c cX4_lay 6 s args wsX4_lay RX4) (hr : meth.sig.returnType = none) (hlocks : meth.locks = false) (hT : agT D cy lay s) : ∀ (n : Nat), ∀ (σ : MS) (v4 : Int32), u_X4_lay_21 post a1 a2 a3 n σ v4 → ∀ (H : Heap) (locs : List Loc) (ls : Array Slot), agG D cy lay σ (agA lay s.heap.size) s.heap H locs → lv_has ls 6 [(0, .ref (lay 5)), (1, .int a1), (2, .int a2), (3, .int a3), (4, .int v4)] → W p l e rm_X4_lay s m args below meth c H locs 0 0 (MQ below (va_Qv post (agO D cy lay) (agA lay s.heap.size)) args s 0 0 (agA lay s.heap.size)) (F0 m 21 ls []) := by
  intro n
  induction n with
  | zero =>
    intro σ v4 h
    exact h.elim
  | succ n ih =>
    intro σ v4 h H locs ls G hl
    rw [u_X4_lay_21] at h
    refine lv_iload hC.1 hC.2.1 dX4_lay_21 (lv_at hl 4 rfl) ?_
    refine lv_bipush (v := 6) hC.1 hC.2.1 dX4_lay_23 (by decide) ?_
    refine lv_icmp_ge (tgt := 98) hC.1 hC.2.1 dX4_lay_25 (by decide) (fun c5 => ?_) (fun c5 => ?_)
    · replace h := h.1 c5
      refine lv_iconst (v := 0) hC.1 hC.2.1 dX4_lay_98 (by decide) ?_
      refine lv_istore (lv' := [(4, .int 0), (0, .ref (lay 5)), (1, .int a1), (2, .int a2), (3, .int a3)]) hC.1 hC.2.1 dX4_lay_99 hl (by decide) rfl (fun ls hl => ?_)
      obtain ⟨n1, h⟩ := h
      exact l_X4_lay_101 a1 a2 a3 hC hr hlocks hT n1 _ _ h _ _ _ G (lv_sub hl [1, 2, 3, 4, 0] rfl)
    · replace h := h.2 c5
      refine lv_iconst (v := 0) hC.1 hC.2.1 dX4_lay_28 (by decide) ?_
      refine lv_istore (lv' := [(5, .int 0), (0, .ref (lay 5)), (1, .int a1), (2, .int a2), (3, .int a3), (4, .int v4)]) hC.1 hC.2.1 dX4_lay_29 hl (by decide) rfl (fun ls hl => ?_)
      obtain ⟨n1, h⟩ := h
      exact l_X4_lay_31 a1 a2 a3 (fun σ w0 => u_X4_lay_21 post a1 a2 a3 n σ w0) hC hr hlocks hT ih n1 _ _ _ h _ _ _ G (lv_sub hl [1, 2, 3, 4, 5, 0] rfl)
def w_X4_lay (post : MS → Prop) (σ : MS) (a1 : Int32) (a2 : Int32) (a3 : Int32) : Prop := (vp_in a1 6 ∧ (vp_in a2 6 ∧ (vp_in a2 6 ∧ (vp_in a1 6 ∧ (∃ k, u_X4_lay_21 post a1 a2 a3 k (up2 (up2 σ (17 + (Int32.toNatClampNeg a1)) (Int32.toNatClampNeg a2) a3) (17 + (Int32.toNatClampNeg a2)) (Int32.toNatClampNeg a1) a3) 0)))))
set_option maxHeartbeats 4000000 in
set_option maxRecDepth 100000 in
theorem c_X4_lay (l : Launch) (D : va_G) (cy : Nat → ClassId) (lay : Nat → Nat) {σ : MS} {post : MS → Prop} {a1 : Int32} {a2 : Int32} {a3 : Int32} (h : w_X4_lay post σ a1 a2 a3) (sz : Nat) : Met l yX4_lay wsX4_lay rm_X4_lay (va_Pc [.ref (lay 5), .int a1, .int a2, .int a3] (agI D cy lay σ sz)) (va_Qv post (agO D cy lay) (agA lay sz)) 0 0 (agA lay sz) := by
  refine ag_ofW (cc := cX4_lay) (maxL := 6) (ret := none) (own := RX4) (Qc := fun sz => va_Qv post (agO D cy lay) (agA lay sz)) (by decide) rfl (Nat.le_of_ble_eq_true rfl) rfl ?_
  intro p e s m args below meth c ls hC hr hlocks hT G hl
  unfold w_X4_lay at h
  have hl : lv_has ls 6 [(0, .ref (lay 5)), (1, .int a1), (2, .int a2), (3, .int a3)] := hl
  refine lv_aload_n hC.1 hC.2.1 dX4_lay_0 rfl (lv_at hl 0 rfl) ?_
  refine ag_get hC hT G (by decide) e_rd k_X4 i_X4_lay_X4 0 (by decide) (wm 1 rfl) rfl dX4_lay_1 ?_
  refine lv_iload_n hC.1 hC.2.1 dX4_lay_4 rfl (lv_at hl 1 rfl) ?_
  obtain ⟨hn1, h⟩ := h
  refine ag_aalda hC hT G (by decide) e_hrs hn1 dX4_lay_5 ?_
  refine lv_iload_n hC.1 hC.2.1 dX4_lay_6 rfl (lv_at hl 2 rfl) ?_
  refine lv_iload_n hC.1 hC.2.1 dX4_lay_7 rfl (lv_at hl 3 rfl) ?_
  obtain ⟨hn2, h⟩ := h
  refine ag_iast hC hT G (k_hrr (vlt hn1)) (fun _ => (e_hrr (vlt hn1))) hn2 dX4_lay_8 (fun H locs G => ?_)
  refine lv_aload_n hC.1 hC.2.1 dX4_lay_9 rfl (lv_at hl 0 rfl) ?_
  refine ag_get hC hT G (by decide) e_rd k_X4 i_X4_lay_X4 0 (by decide) (wm 1 rfl) rfl dX4_lay_10 ?_
  refine lv_iload_n hC.1 hC.2.1 dX4_lay_13 rfl (lv_at hl 2 rfl) ?_
  obtain ⟨hn3, h⟩ := h
  refine ag_aalda hC hT G (by decide) e_hrs hn3 dX4_lay_14 ?_
  refine lv_iload_n hC.1 hC.2.1 dX4_lay_15 rfl (lv_at hl 1 rfl) ?_
  refine lv_iload_n hC.1 hC.2.1 dX4_lay_16 rfl (lv_at hl 3 rfl) ?_
  obtain ⟨hn4, h⟩ := h
  refine ag_iast hC hT G (k_hrr (vlt hn3)) (fun _ => (e_hrr (vlt hn3))) hn4 dX4_lay_17 (fun H locs G => ?_)
  refine lv_iconst (v := 0) hC.1 hC.2.1 dX4_lay_18 (by decide) ?_
  refine lv_istore (lv' := [(4, .int 0), (0, .ref (lay 5)), (1, .int a1), (2, .int a2), (3, .int a3)]) hC.1 hC.2.1 dX4_lay_19 hl (by decide) rfl (fun ls hl => ?_)
  obtain ⟨n1, h⟩ := h
  exact l_X4_lay_21 a1 a2 a3 hC hr hlocks hT n1 _ _ h _ _ _ G (lv_sub hl [1, 2, 3, 4, 0] rfl)
theorem hdV_X4_lay : yX4_lay.cls = RX4 ∧ yX4_lay.cls ≠ "java/lang/invoke/MethodHandle" ∧ yX4_lay.cls ≠ "java/lang/invoke/VarHandle" ∧ (parseMethodDescriptor yX4_lay.desc).map (fun d => d.parameters.length) = some 3 := by decide +kernel
