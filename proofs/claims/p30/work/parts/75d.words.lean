/-! ALL THE LAW'S WORDS are the tables' -/
theorem lwx_x0 : ∀ w ∈ (vx_atS RX7 95 "java/lang/IndexOutOfBoundsException" ["java/lang/RuntimeException", "java/lang/Exception"]).filter goodWord, w ∈ lw_tbl := by decide +kernel
theorem lwx_x1 : ∀ w ∈ (vx_atS RX7 105 "java/lang/IllegalArgumentException" ["java/lang/RuntimeException", "java/lang/Exception"]).filter goodWord, w ∈ lw_tbl := by decide +kernel
theorem lwx_x2 : ∀ w ∈ (vx_atS RX7 110 "java/lang/IllegalStateException" ["java/lang/RuntimeException", "java/lang/Exception"]).filter goodWord, w ∈ lw_tbl := by decide +kernel
set_option maxRecDepth 20000 in
theorem lwx_law : ∀ w ∈ wsL_law, w ∈ lwx := (lwx_app (lwx_app (lwx_app (lwx_app (lwx_app (lwx_app (lwx_app (lwx_app (lwx_app (lwx_app (lwx_app (lwx_app (lwx_app (lwx_app (lwx_app (lwx_app (lwx_app (lwx_app (lwx_app (lwx_app (lwx_app (lwx_app lin_r1 (lwx_app lin_r2 (lwx_app lin_r3 (lwx_app lin_r4 (lwx_app lin_r5 (lwx_app lin_r6 (lwx_app lin_r7 (lwx_app lin_r8 (lwx_app lin_r9 (lwx_app lin_r10 (lwx_app lin_r11 (lwx_app lin_r12 (lwx_app lin_r13 (lwx_app lin_r14 (lwx_app lin_r15 (lwx_app lin_r16 (lwx_app lin_r17 (lwx_app lin_r18 (lwx_app lin_r19 (lwx_app lin_r20 (lwx_app lin_r21 (lwx_app lin_r22 (lwx_app lin_r23 (lwx_app lin_r24 (lwx_app lin_r25 (lwx_app lin_r26 (lwx_app lin_r27 (lwx_app lin_r28 (lwx_app lin_r29 (lwx_app lin_r30 (lwx_app lin_r31 (lwx_app lin_r32 (lwx_app lin_r33 (lwx_app lin_r34 (lwx_app lin_r35 (lwx_app lin_r36 (lwx_app lin_r37 (lwx_app lin_r38 (lwx_app lin_r39 (lwx_app lin_r40 (lwx_app lin_r41 (lwx_app lin_r42 (lwx_app lin_r43 (lwx_app lin_r44 (lwx_app lin_r45 (lwx_app lin_r46 (lwx_app lin_r47 (lwx_app lin_r48 (lwx_app lin_r49 (lwx_app lin_r50 (lwx_app lin_r51 (lwx_app lin_r52 (lwx_app lin_r53 (lwx_app lin_r54 (lwx_app lin_r55 (lwx_app lin_r56 (lwx_app lin_r57 (lwx_app lin_r58 lin_r59)))))))))))))))))))))))))))))))))))))))))))))))))))))))))) inw_X7) inw_X11) inw_X8) inw_X4) inw_X2) inw_X1) inw_X3) inw_X5) inw_X0) inw_X6) inw_Jx4a65c) inw_X9) inw_J6) inw_X10) inw_Jx35411) inw_J4) inw_J0) (fun w h => by cases h)) (fun w h => List.mem_append_right _ (lwx_x0 w h))) (fun w h => List.mem_append_right _ (lwx_x1 w h))) (fun w h => List.mem_append_right _ (lwx_x2 w h)))
theorem lwx_lk : ∀ w ∈ lkL, w ∈ lwx := gTt [(3, 177), (3, 178), (3, 179)] rfl
theorem lwx_all : ∀ w ∈ wsL_law ++ lkL, w ∈ lwx := lwx_app lwx_law lwx_lk
theorem lwv_in : ∀ K w, K < 9 → w ∈ lwu K → w ∈ lw_tbl := fun K w hK h => match K, hK, h with
  | 0, _, h => List.mem_append_left _ h
  | 1, _, h => List.mem_append_right _ (List.mem_append_left _ h)
  | 2, _, h => List.mem_append_right _ (List.mem_append_right _ (List.mem_append_left _ h))
  | 3, _, h => List.mem_append_right _ (List.mem_append_right _ (List.mem_append_right _ (List.mem_append_left _ h)))
  | 4, _, h => List.mem_append_right _ (List.mem_append_right _ (List.mem_append_right _ (List.mem_append_right _ (List.mem_append_left _ h))))
  | 5, _, h => List.mem_append_right _ (List.mem_append_right _ (List.mem_append_right _ (List.mem_append_right _ (List.mem_append_right _ (List.mem_append_left _ h)))))
  | 6, _, h => List.mem_append_right _ (List.mem_append_right _ (List.mem_append_right _ (List.mem_append_right _ (List.mem_append_right _ (List.mem_append_right _ (List.mem_append_left _ h))))))
  | 7, _, h => List.mem_append_right _ (List.mem_append_right _ (List.mem_append_right _ (List.mem_append_right _ (List.mem_append_right _ (List.mem_append_right _ (List.mem_append_right _ (List.mem_append_left _ h)))))))
  | 8, _, h => List.mem_append_right _ (List.mem_append_right _ (List.mem_append_right _ (List.mem_append_right _ (List.mem_append_right _ (List.mem_append_right _ (List.mem_append_right _ (List.mem_append_right _ (h))))))))
  | _ + 9, hK, _ => absurd hK (by omega)
theorem tz {w : Cond} (K i : Nat) (h : (lwu K)[i]? = some w) (hK : K < 9 := by decide) : w ∈ lw_tbl := lwv_in K w hK (List.mem_of_getElem? h)
theorem lw_hts {args : Array Value} {s : State} (h0 : ∀ w ∈ lw_tbl, w.before args s = true) : ∀ w ∈ lwx, w.before args s = true := by
  intro w h
  rcases List.mem_append.mp h with h | h
  · unfold exL at h
    simp only [List.mem_cons, List.not_mem_nil, or_false] at h
    rcases h with rfl | rfl | rfl | rfl | rfl | rfl
    · exact selP (z := ⟨"java/lang/AbstractStringBuilder", "isLatin1", "()Z"⟩) (by decide) (h0 _ (tz 5 11 rfl)) rfl (h0 _ (tz 4 218 rfl)) (h0 _ (tz 4 219 rfl))
    · exact selP (z := ⟨"java/lang/AbstractStringBuilder", "isLatin1", "()Z"⟩) (by decide) (h0 _ (tz 5 11 rfl)) rfl (h0 _ (tz 4 222 rfl)) (h0 _ (tz 4 223 rfl))
    · exact selP (z := ⟨"java/lang/AbstractStringBuilder", "isLatin1", "()Z"⟩) (by decide) (h0 _ (tz 5 11 rfl)) rfl (h0 _ (tz 5 17 rfl)) (h0 _ (tz 5 18 rfl))
    · exact selP (z := ⟨"java/lang/AbstractStringBuilder", "isLatin1", "()Z"⟩) (by decide) (h0 _ (tz 5 11 rfl)) rfl (h0 _ (tz 5 144 rfl)) (h0 _ (tz 5 145 rfl))
    · exact selP (z := ⟨"java/lang/AbstractStringBuilder", "isLatin1", "()Z"⟩) (by decide) (h0 _ (tz 5 11 rfl)) rfl (h0 _ (tz 5 160 rfl)) (h0 _ (tz 5 161 rfl))
    · exact selP (z := ⟨"java/lang/AbstractStringBuilder", "isLatin1", "()Z"⟩) (by decide) (h0 _ (tz 5 11 rfl)) rfl (h0 _ (tz 5 164 rfl)) (h0 _ (tz 5 165 rfl))
  · exact h0 w h
