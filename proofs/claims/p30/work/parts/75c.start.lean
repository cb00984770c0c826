/-! THE LAW'S START: both agencies, Out -/
theorem s0_lo {k j : Nat} (h : k ≠ 9) (h2 : k < 23 ∨ 29 ≤ k) (h3 : k < 39 ∨ 55 ≤ k) : σ0 k j = 0 := by
  unfold σ0
  rw [if_neg h, if_neg (by omega), if_neg (by omega)]
theorem Ok.new : Ok σ0 0 0 0 0 := by
  have z : ∀ k j, k ≠ 9 → (k < 23 ∨ 29 ≤ k) → (k < 39 ∨ 55 ≤ k) → σ0 k j = nI 0 := fun k j h1 h2 h3 => (s0_lo h1 h2 h3).trans nI_0.symm
  refine ⟨z _ _ (by decide) (by omega) (by omega), by decide, z _ _ (by decide) (by omega) (by omega), by decide, z _ _ (by decide) (by omega) (by omega), by decide, z _ _ (by decide) (by omega) (by omega), by decide, fun p hp => ?_, fun w hw => ?_, fun w hw => ?_, fun w hw => ?_, fun b hb => ⟨0, by decide, z _ _ (by omega) (by omega) (by omega)⟩, fun b j hb hj => ⟨0, by decide, z _ _ (by omega) (by omega) (by omega)⟩⟩
  · rw [z _ _ (by omega) (by omega) (by omega)]; exact vp_in_nI (by decide) (by decide)
  · rw [z _ _ (by omega) (by omega) (by omega)]; exact vp_in_nI (by decide) (by decide)
  · rw [z _ _ (by omega) (by omega) (by omega)]; exact vp_in_nI (by decide) (by decide)
  · rw [z _ _ (by omega) (by omega) (by omega)]; exact vp_in_nI (by decide) (by decide)
theorem s0_sg : ∀ s i, s < 16 → σ0 (39 + s) i = (if i = 0 then nI s - nI s / 12 * 12 else if i = 1 then 5 else if i = 2 then 3 else 0) := fun s i hs => by
  unfold σ0
  rw [if_neg (by omega), if_neg (by omega), if_pos (by omega), show 39 + s - 39 = s by omega]
theorem s0_wy : ∀ a b, a < 6 → b < 6 → σ0 (23 + a) b = if a = b then 0 else -1 := fun a b ha hb => by
  unfold σ0
  rw [if_neg (by omega), if_pos (by omega), if_pos hb, show 23 + a - 23 = a by omega]
  unfold wy0
  rfl
theorem Fe.new : Fe σ0 0 := by
  have z4 : ∀ p, p < 10 → σ0 (29 + p) 4 = 0 := fun p hp => s0_lo (by omega) (by omega) (by omega)
  exact ⟨fun p q hp hq => by rw [z4 p hp, z4 q hq, b_0, b_0], fun p _ hp => z4 p hp, fun s hs => ⟨5, by decide, s0_sg s 1 hs⟩⟩
theorem EI.new : EI σ0 0 0 0 := by
  have z : ∀ k j, k ≠ 9 → (k < 23 ∨ 29 ≤ k) → (k < 39 ∨ 55 ≤ k) → σ0 k j = 0 := fun k j h1 h2 h3 => s0_lo h1 h2 h3
  refine ⟨⟨fun a b ha hb => ?_, fun a b ha hb => ?_⟩, fun v hv i hi => ?_, fun v hv => ⟨fun _ => ?_, fun h => ?_⟩, fun p hp => ⟨?_, ?_⟩, fun p h1 h2 => ⟨?_, ?_, ?_, ?_⟩, fun v h1 h2 => ?_, fun d hd p hp => ?_, fun b h1 h2 => ?_⟩
  · rw [z _ _ (by omega) (by omega) (by omega), z _ _ (by omega) (by omega) (by omega)]
  · rw [s0_wy a b ha hb, s0_wy b a hb ha]
    by_cases e : a = b
    · rw [if_pos e, if_pos e.symm]
    · rw [if_neg e, if_neg (fun q => e q.symm)]
  · rw [z _ _ (by omega) (by omega) (by omega), b_0]
  · exact z _ _ (by omega) (by omega) (by omega)
  · rw [z _ _ (by omega) (by omega) (by omega)] at h
    exact absurd h (by decide)
  · rw [z _ _ (by omega) (by omega) (by omega)]; exact nI_0.symm
  · rw [z _ _ (by omega) (by omega) (by omega)]; rfl
  · exact z _ _ (by omega) (by omega) (by omega)
  · exact z _ _ (by omega) (by omega) (by omega)
  · exact z _ _ (by omega) (by omega) (by omega)
  · exact z _ _ (by omega) (by omega) (by omega)
  · exact z _ _ (by omega) (by omega) (by omega)
  · rw [z _ _ (by omega) (by omega) (by omega), b_0]
  · exact z _ _ (by omega) (by omega) (by omega)
theorem Inv.new : Inv σ0 0 0 0 0 := by
  have z : ∀ k j, k ≠ 9 → (k < 23 ∨ 29 ≤ k) → (k < 39 ∨ 55 ≤ k) → σ0 k j = 0 := fun k j h1 h2 h3 => s0_lo h1 h2 h3
  refine ⟨⟨fun a b ha hb => ⟨0, by omega, by omega, ?_⟩, fun a b ha hb => ?_⟩, fun w hw => ⟨0, by omega, by omega, ?_⟩, Ok.new, fun w hw => ?_, ⟨fun p hp => absurd hp (by omega), fun s hs => hs, fun b hb => absurd hb (by omega), fun w hw => absurd hw (by omega)⟩, fun w _ hw => ⟨?_, ?_, ?_, ?_⟩, fun w hw => absurd hw (by omega), fun a b ha => absurd ha (by omega), ?_, rfl, fun p hp => absurd hp (by omega), fun s hs => ⟨0, ?_, by omega⟩⟩
  · rw [z _ _ (by omega) (by omega) (by omega)]; exact nI_0.symm
  · rw [s0_wy a b ha hb]
    by_cases e : a = b
    · rw [if_pos e]
      exact Or.inr ⟨0, by omega, by omega, nI_0.symm⟩
    · rw [if_neg e]
      exact Or.inl rfl
  · rw [z _ _ (by omega) (by omega) (by omega)]; exact nI_0.symm
  · rw [z _ _ (by omega) (by omega) (by omega)]; exact inP_0 0 (by decide)
  · exact z _ _ (by omega) (by omega) (by omega)
  · exact z _ _ (by omega) (by omega) (by omega)
  · exact z _ _ (by omega) (by omega) (by omega)
  · exact z _ _ (by omega) (by omega) (by omega)
  · show σ0 0 10 = 0 - 0
    rw [z _ _ (by omega) (by omega) (by omega)]
    decide
  · rw [s0_sg s 3 hs, if_neg (by decide), if_neg (by decide), if_neg (by decide)]
    exact nI_0.symm
theorem CX.new : CX σ0 0 0 0 0 := ⟨Inv.new, EI.new, Fe.new, fun w hw => ⟨0, by omega, (s0_lo (by omega) (by omega) (by omega)).trans nI_0.symm⟩⟩
/-- a new one has been told nothing, on both sides -/
theorem tr_new {ea : Nat} : ∀ k j, rTd (rG0 ea) k j → tR σ0 k j = nwT k j := fun k j hk => by
  have hk : (k = 0 ∧ (j = 1 ∨ j = 2)) ∨ ((k = 7 ∨ k = 8 ∨ k = 9 ∨ k = 10) ∧ j < 16) ∨ ((k = 11 ∨ k = 12) ∧ j < 36) ∨ (13 ≤ k ∧ k < 13 + 0 ∧ j < 6) ∨ (23 ≤ k ∧ k < 23 + 0 ∧ j < 366) ∨ (33 ≤ k ∧ k < 33 + 0 ∧ k < 47 ∧ j < 12) := hk
  rcases hk with ⟨rfl, h⟩ | ⟨h | h | h | h, hj⟩ | ⟨h | h, hj⟩ | h | h | h
  · rcases h with rfl | rfl
    · show σ0 0 9 = nwT 0 1
      rw [s0_lo (by omega) (by omega) (by omega)]; rfl
    · show σ0 0 10 = nwT 0 2
      rw [s0_lo (by omega) (by omega) (by omega)]; rfl
  · subst h
    show σ0 (39 + j) 0 = _
    rw [s0_sg j 0 hj]; rfl
  · subst h
    show σ0 (39 + j) 1 = _
    rw [s0_sg j 1 hj]; rfl
  · subst h
    show σ0 (39 + j) 2 = _
    rw [s0_sg j 2 hj]; rfl
  · subst h
    show σ0 (39 + j) 3 = _
    rw [s0_sg j 3 hj]; rfl
  · subst h
    show σ0 (17 + j / 6) (j % 6) = _
    rw [s0_lo (by omega) (by omega) (by omega)]; rfl
  · subst h
    show σ0 (23 + j / 6) (j % 6) = _
    rw [s0_wy (j / 6) (j % 6) (by omega) (by omega)]; rfl
  · omega
  · omega
  · omega
theorem wl {w : Cond} (K i : Nat) (h : (lwt K)[i]? = some w) : w ∈ wsL_law ++ lkL := List.mem_append_left _ (lwt_in K w (List.mem_of_getElem? h))
theorem df_X7 : ∀ j, j < 15 → defaultValue (tyX7 j) = vp_V [.null, .null, .null, .null, .null, .null, .int 0, .int 0, .int 0, .int 0, .int 0, .null, .null, .null, .null] j := by decide
theorem df_X11 : ∀ j, j < 13 → defaultValue (tyX11 j) = vp_V [.int 0, .int 0, .int 0, .null, .null, .null, .null, .null, .null, .null, .null, .null, .long (m64 0 0)] j := by decide
theorem df_X8 : ∀ j, j < 2 → defaultValue (tyX8 j) = vp_V [.long 0, .null] j := by decide
theorem i_L_law_X7 : ∀ w ∈ wsX70, w ∈ wsL_law ++ lkL := fun w h => List.mem_append_left _ (lwt_a w (lwt_59 w h))
theorem i_L_law_X11 : ∀ w ∈ wsX110, w ∈ wsL_law ++ lkL := fun w h => List.mem_append_left _ (lwt_a w (lwt_60 w h))
theorem hdI_X7 : yX7_init.cls ≠ "java/lang/invoke/MethodHandle" ∧ yX7_init.cls ≠ "java/lang/invoke/VarHandle" ∧ (parseMethodDescriptor yX7_init.desc).map (fun d => d.parameters.length) = some 0 := by decide +kernel
theorem hdI_X11 : yX11_init.cls ≠ "java/lang/invoke/MethodHandle" ∧ yX11_init.cls ≠ "java/lang/invoke/VarHandle" ∧ (parseMethodDescriptor yX11_init.desc).map (fun d => d.parameters.length) = some 0 := by decide +kernel
theorem hdI_X8 : yX8_init.cls ≠ "java/lang/invoke/MethodHandle" ∧ yX8_init.cls ≠ "java/lang/invoke/VarHandle" ∧ (parseMethodDescriptor yX8_init.desc).map (fun d => d.parameters.length) = some 0 := by decide +kernel
abbrev rm_X8_init : Room := { frames := 1, cells := 0, slots := 0, locals := 16 }
set_option maxHeartbeats 4000000 in
set_option maxRecDepth 100000 in
theorem c_X8_init (l : Launch) (D : va_G) (cy : Nat → ClassId) (lay : Nat → Nat) (X : Nat → Option va_E) {q : Nat} (sz : Nat) : Met l yX8_init wsX8_init rm_X8_init (va_Pc [.ref q] (hI D cy lay X sz)) (va_Qv (fun Y : GY => Y = (lay, X)) (gO D (gA lay X sz)) (gA lay X sz)) 0 0 (gA lay X sz) := by
  refine h_ofW (cc := cX8_init) (maxL := 1) (ret := none) (own := RX8) (Qc := fun sz => (va_Qv (fun Y : GY => Y = (lay, X)) (gO D (gA lay X sz)) (gA lay X sz))) (by decide) rfl (Nat.le_of_ble_eq_true rfl) rfl ?_
  intro p e0 s m args below meth c ls hC hr hlocks hname hT G hl
  have hl : lv_has ls 1 [(0, .ref q)] := hl
  refine lv_aload_n hC.1 hC.2.1 dX8_init_0 rfl (lv_at hl 0 rfl) ?_
  refine W.objInit hC.1 hC.2.1 hC.2.2.2.1 (hC.2.2.2.2 _ (wm 1 rfl)) (hC.2.2.2.2 _ (wm 2 rfl)) (hC.2.2.2.2 _ (wm 3 rfl)) rfl (by rw [hC.2.2.1]; exact hl.1) rfl dX8_init_1 (Nat.le_of_ble_eq_true rfl) (Nat.le_of_ble_eq_true rfl) ?_
  refine W.eq (g2 := F0 m 4 ls []) rfl ?_
  exact g_vret (Y := (lay, X)) hC hr hlocks G rfl dX8_init_4
section START
variable {p : Program} {l : Launch} {e : Env} {s : State} {m : MethodId} {below : List Frame} {meth : Method} {c : Code} {D : va_G} {cy : Nat → ClassId} {lay : Nat → Nat} {o b L m0 ea mi ta : Nat} {ad ac am : Nat → Nat} {xs : Nat → Int32} {H H1 : Heap} {locs locs1 : List Loc} {Y : RY} {σ : MS}
/-- both worlds stand; Out is laid beside them -/
theorem lw_mk {q : Nat} (hT : lwT D cy ea mi ta ad ac am s) (g3 : gP D Y.1 (rX cy Y.1 Y.2.1 tn Y.2.2) H) (g6 : rB Y.2.1) (hB0 : Y.2.1.2.1 = 0) (he : Y.2.1.2.2.2.1 = ea)
    (hP : va_P D vwCl ((agW cy lay σ ++ gW Y.1 (rX cy Y.1 Y.2.1 tn Y.2.2)) ++ [(q, .inr (13, [.long 0, .null]))]) H1) (hD : va_D (lgA s.heap.size) ((agW cy lay σ ++ gW Y.1 (rX cy Y.1 Y.2.1 tn Y.2.2)) ++ [(q, .inr (13, [.long 0, .null]))])) (hS : va_S (lgA s.heap.size) s.heap H1 locs1) (hI : gI (lgA s.heap.size) Y.1 (rX cy Y.1 Y.2.1 tn Y.2.2)) : lwG D cy lay q (σ, 0, .null) Y s H1 locs1 := by
  have len : (agW cy lay σ).length = 87 := ag_len
  have pos1 : ∀ k x, (agW cy lay σ)[k]? = some x → ((agW cy lay σ ++ gW Y.1 (rX cy Y.1 Y.2.1 tn Y.2.2)) ++ [(q, .inr (13, [.long 0, .null]))])[k]? = some x := fun k x h => by
    have hk : k < (agW cy lay σ).length := (List.getElem?_eq_some_iff.mp h).1
    rw [List.getElem?_append_left (by rw [List.length_append]; omega), List.getElem?_append_left hk]
    exact h
  have pos2 : ∀ k x, (gW Y.1 (rX cy Y.1 Y.2.1 tn Y.2.2))[k]? = some x → ((agW cy lay σ ++ gW Y.1 (rX cy Y.1 Y.2.1 tn Y.2.2)) ++ [(q, .inr (13, [.long 0, .null]))])[87 + k]? = some x := fun k x h => by
    have hk : k < (gW Y.1 (rX cy Y.1 Y.2.1 tn Y.2.2)).length := (List.getElem?_eq_some_iff.mp h).1
    rw [List.getElem?_append_left (by rw [List.length_append]; omega), List.getElem?_append_right (by omega), len, show 87 + k - 87 = k by omega]
    exact h
  have pos3 : ((agW cy lay σ ++ gW Y.1 (rX cy Y.1 Y.2.1 tn Y.2.2)) ++ [(q, .inr (13, [.long 0, .null]))])[87 + (gW Y.1 (rX cy Y.1 Y.2.1 tn Y.2.2)).length]? = some (q, .inr (13, [.long 0, .null])) := by
    rw [List.getElem?_append_right (by rw [List.length_append]; omega), List.length_append, len, Nat.sub_self]
    rfl
  have posW : ∀ k x, (woW cy lay q (σ, 0, .null))[k]? = some x → ∃ k', ((agW cy lay σ ++ gW Y.1 (rX cy Y.1 Y.2.1 tn Y.2.2)) ++ [(q, .inr (13, [.long 0, .null]))])[k']? = some x ∧ (k' = k ∧ k < 87 ∨ k = 87 ∧ k' = 87 + (gW Y.1 (rX cy Y.1 Y.2.1 tn Y.2.2)).length) := fun k x h => by
    rcases wo_cell h with ⟨hk, -⟩ | ⟨hk, -⟩
    · rw [wo_lo hk] at h
      exact ⟨k, pos1 k x h, Or.inl ⟨rfl, hk⟩⟩
    · subst hk
      rw [wo_87] at h
      cases h
      exact ⟨_, pos3, Or.inr ⟨rfl, rfl⟩⟩
  have apart : ∀ a, woC lay q a → ¬ rC cy Y a := fun a ha hr => by
    obtain ⟨k, e9, hk, hX, rfl⟩ := rC_cell hr
    obtain ⟨j, hj⟩ := gW_pos (lay := Y.1) hk hX
    have h2 := pos2 j _ hj
    have hjl : j < (gW Y.1 (rX cy Y.1 Y.2.1 tn Y.2.2)).length := (List.getElem?_eq_some_iff.mp hj).1
    rcases ha with ⟨i, hi, e1⟩ | e1
    · have := hD.1 i (87 + j) _ _ (pos1 i _ (ag_at hi rfl)) h2 e1.symm
      omega
    · have := hD.1 _ (87 + j) _ _ pos3 h2 e1.symm
      omega
  refine ⟨⟨fun k x hk => ?_, ⟨fun i j x y hi hj exy => ?_, fun k x hk => ?_⟩⟩, ⟨fun k e9 hk hX => ?_, hI⟩, ⟨⟨?_, ?_⟩, fun i hi => ?_⟩, g6, apart, hS⟩
  · obtain ⟨k', h1, -⟩ := posW k x hk
    exact hP k' x h1
  · obtain ⟨i', h1, hi'⟩ := posW i x hi
    obtain ⟨j', h2, hj'⟩ := posW j y hj
    have := hD.1 i' j' x y h1 h2 exy
    omega
  · obtain ⟨k', h1, -⟩ := posW k x hk
    exact hD.2 k' x h1
  · obtain ⟨j, hj⟩ := gW_pos (lay := Y.1) hk hX
    exact hP (87 + j) _ (pos2 j _ hj)
  · rw [he]
    obtain ⟨cell, h1, -⟩ := hT.2.2.2.1.2.1
    have hlt : ea < s.heap.size := (Array.getElem?_eq_some_iff.mp h1).1
    exact ⟨cell, by rw [hS.2.1 ea hlt hT.2.2.2.1.2.2.1]; exact h1⟩
  · rw [he]
    intro z
    refine hT.2.2.2.1.2.2.1 ?_
    rcases z with (z | z) | z
    · rcases z with ⟨k, hk, e1⟩ | e1
      · have := hD.2 k _ (pos1 k _ (ag_at hk rfl))
        rw [e1]; exact this
      · have := hD.2 _ _ pos3
        rw [e1]; exact this
    · exact rC_in hI z
    · exact Nat.le_trans hS.1 z
  · rw [hB0] at hi
    exact absurd hi (Nat.not_lt_zero _)
theorem lwG_new (G : lwG D cy lay o (σ, 0, .null) Y s H locs) (hz : H.size ≤ H1.size) (hk : ∀ q : Nat, q < H.size → H1[q]? = H[q]?) (hS : va_S (lgA s.heap.size) s.heap H1 locs1) : lwG D cy lay o (σ, 0, .null) Y s H1 locs1 :=
  ⟨⟨fun k q hk2 => (G.1.1 k q hk2).kept (hk q.1 (G.1.1 k q hk2).lt), G.1.2⟩, ⟨fun k e hk2 hX => (G.2.1.1 k e hk2 hX).kept (hk _ (G.2.1.1 k e hk2 hX).lt), G.2.1.2⟩,
   rS_kept G.2.2.1 (fun q hq _ => hk q hq) (fun q hq hB => hB.elim Or.inl (fun z => absurd hq (by omega))), G.2.2.2.1, G.2.2.2.2.1, hS⟩
set_option maxHeartbeats 8000000 in
set_option maxRecDepth 100000 in
theorem lw_start (l : Launch) (hl0 : l.stackTraces = false) {b L : Nat} {xs : Nat → Int32} (hL : L ≤ 3584) (C0 : lw_At p s m meth c b L xs) (hts : ∀ w ∈ lwx, w.before #[Value.ref b] s = true) (hwl : ∀ w ∈ wsL_law ++ lkL, w ∈ lwx) : W p l e room_1 s m #[Value.ref b] below meth c s.heap [] 0 0 (lw_Z below #[Value.ref b] s) (entryFrame m ([Value.ref b] : List Value).toArray 7) := by
  obtain ⟨hx, hb, hr, hml, hown, -, hX, hbl, hlocks, hgv⟩ := id C0
  obtain ⟨D, cy, hK⟩ := lw_K hts
  obtain ⟨ea, mi, ta, ad, ac, am, hT⟩ := lw_T hts hgv hK
  have hG := lw_gT hts hK
  have hC : CallFix p m c cL_law 7 s #[Value.ref b] (wsL_law ++ lkL) RL := ⟨hx, hb, hml, hown, fun w hw => hts w (hwl w hw)⟩
  have hl := lv_entry [.ref b] (n := 7) (Nat.le_of_ble_eq_true rfl)
  rw [lg_entry_eq]
  generalize (lg_sl ([.ref b]) ++ List.replicate (7 - (lg_sl ([.ref b])).length) Slot.unset).toArray = ls at hl ⊢
  have hl : lv_has ls 7 [(0, .ref b)] := hl
  have hA : ∀ q, s.heap.size ≤ q → lgA s.heap.size q := fun _ h => h
  -- the class's agency
  have G0 : gG D (fun _ => 0) (fun _ => none) (lgA s.heap.size) s.heap s.heap [] := ⟨fun k e _ h => (by cases h), ⟨fun i j e f _ _ h => (by cases h), fun k e _ h => (by cases h)⟩, va_S.rf⟩
  refine g_new (k := 0) (fs := [.null, .null, .null, .null, .null, .null, .int 0, .int 0, .int 0, .int 0, .int 0, .null, .null, .null, .null]) hC hK G0 hA rfl k_X7 i_L_law_X7 (wl 0 0 rfl) (wl 0 1 rfl) (wl 0 2 rfl) df_X7 (Nat.le_of_ble_eq_true rfl) (Nat.le_of_ble_eq_true rfl) dL_law_0 (fun q1 H G => ?_)
  rw [gU_eq]
  refine lv_dup hC.1 hC.2.1 dL_law_3 rfl ?_
  refine g_v (post := inPost cy _ _) G hA (g_runI (b := gU (fun _ => 0) 0 q1 0) (As := []) (rest := [.ref q1]) hC hG G (c_X7_init l D cy _ _ gU_eq (fun i h1 h2 => gU_ne (by omega)) _) ⟨callB_of 0 hC.2.2.2.2 (gM_w gL_law_X7_init) rfl rfl rfl (hC.2.2.2.2 (.initialized RX7) (wl 0 2 rfl)) (hC.2.2.2.2 (.methodLink RL 115 yX7_init) (wl 0 9 rfl)) hdI_X7 ⟨Nat.le_of_ble_eq_true rfl, Nat.le_of_ble_eq_true rfl⟩, rfl, hC.2.2.2.2 (.instanceMethod yX7_init) (wl 0 10 rfl)⟩ rfl hl.1 rfl (Nat.le_of_ble_eq_true rfl) dL_law_4 ⟨Nat.le_of_ble_eq_true rfl, Nat.le_of_ble_eq_true rfl⟩) (fun Y H locs hY G => ?_)
  obtain ⟨lay, X1⟩ := Y
  obtain ⟨⟨e0, -⟩, e1⟩ := hY
  dsimp only at e0 e1 G
  subst e1
  rw [gU_eq] at e0
  obtain ⟨hP1, hD1⟩ := inX_ag G.1 G.2.1
  have S1 : va_S (lgA s.heap.size) s.heap H locs := G.2.2
  clear G
  refine lv_astore_n (lv' := [(1, .ref q1), (0, .ref b)]) hC.1 hC.2.1 dL_law_7 rfl hl (by decide) rfl (fun ls hl => ?_)
  rw [← e0] at hl
  -- the reference
  refine va_new hC.1 hC.2.1 hC.2.2.2.2 i_L_law_X11 tyX11 k_X11.2.1 hC.2.2.2.1 (hC.2.2.2.2 _ (wl 0 3 rfl)) (hC.2.2.2.2 _ (wl 0 4 rfl)) (hC.2.2.2.2 _ (wl 0 5 rfl)) hK hP1 hD1 S1 hA k_X11.1 df_X11 (Nat.le_of_ble_eq_true rfl) (Nat.le_of_ble_eq_true rfl) dL_law_8 (fun q2 H2 hP2 hD2 S2 => ?_)
  have at2 : ((agW cy lay σ0) ++ [(q2, .inr (16, [.int 0, .int 0, .int 0, .null, .null, .null, .null, .null, .null, .null, .null, .null, .long (m64 0 0)]))] : va_W)[87]? = some (q2, .inr (16, [.int 0, .int 0, .int 0, .null, .null, .null, .null, .null, .null, .null, .null, .null, .long (m64 0 0)])) := by
    rw [List.getElem?_append_right (by rw [ag_len]; exact Nat.le_refl _), ag_len]
    rfl
  have at1 : ∀ k x, (agW cy lay σ0)[k]? = some x → ((agW cy lay σ0) ++ [(q2, .inr (16, [.int 0, .int 0, .int 0, .null, .null, .null, .null, .null, .null, .null, .null, .null, .long (m64 0 0)]))] : va_W)[k]? = some x := fun k x h => by
    rw [List.getElem?_append_left (List.getElem?_eq_some_iff.mp h).1]
    exact h
  have hq2 := hP2 87 _ at2
  have hq2A : lgA s.heap.size q2 := hD2.2 87 _ at2
  refine lv_dup hC.1 hC.2.1 dL_law_11 rfl ?_
  obtain ⟨nT, hnT⟩ := sf_init (ea := ea) (post := fun τ => rG0 ea = rG0 ea ∧ rOk nwT (rG0 ea) τ) (fun τ h => ⟨rfl, h⟩)
  obtain ⟨XM, hXM⟩ : ∃ XM : Nat → Option va_E, XM = fun k => if k = 0 then some (.inr (16, [.int 0, .int 0, .int 0, .null, .null, .null, .null, .null, .null, .null, .null, .null, .long (m64 0 0)])) else none := ⟨_, rfl⟩
  have XM0 : XM 0 = some (.inr (16, [.int 0, .int 0, .int 0, .null, .null, .null, .null, .null, .null, .null, .null, .null, .long (m64 0 0)])) := by rw [hXM]; exact if_pos rfl
  have XMn : ∀ k, k ≠ 0 → XM k = none := fun k hk => by rw [hXM]; exact if_neg hk
  have gPM : gP D (fun _ => q2) XM H2 := fun k e9 hk h => by
    by_cases z : k = 0
    · subst z
      rw [XM0] at h
      cases h
      exact hq2
    · rw [XMn k z] at h; cases h
  have gIM : gI (fun _ => True) (fun _ => q2) XM := by
    refine ⟨fun i j e9 f9 _ _ h1 h2 _ => ?_, fun _ _ _ _ => trivial⟩
    by_cases z1 : i = 0
    · by_cases z2 : j = 0
      · omega
      · rw [XMn j z2] at h2; cases h2
    · rw [XMn i z1] at h1; cases h1
  have gAM : ∀ q, gA (fun _ => q2) XM H2.size q → lgA s.heap.size q := fun q hq => by
    rcases hq with ⟨k, e9, hk, hXk, e1⟩ | hq
    · rw [e1]; exact hq2A
    · exact Nat.le_trans S2.1 hq
  refine va_callv (va_runI (As := []) (rest := [.ref q2]) hC (c_X11_init l D cy (fun _ => q2) XM ea mi (post := fun Y => Y.2.1 = rG0 ea ∧ rOk nwT (rG0 ea) Y.2.2) XM0 (fun k h1 _ => XMn k h1) (fun _ => hnT) H2.size) ⟨callB_of 0 hC.2.2.2.2 (gM_w gL_law_X11_init) rfl rfl rfl (hC.2.2.2.2 (.initialized RX11) (wl 0 5 rfl)) (hC.2.2.2.2 (.methodLink RL 118 yX11_init) (wl 4 23 rfl)) hdI_X11 ⟨Nat.le_of_ble_eq_true rfl, Nat.le_of_ble_eq_true rfl⟩, rfl, hC.2.2.2.2 (.instanceMethod yX11_init) (wl 5 0 rfl)⟩ ⟨hK_blind, fun U hU hW => ⟨rfl, ⟨by rw [hU], ⟨va_K.moved hW.alike hK, rN_warm hW hT.2.2.1⟩, by rw [hU]; exact gPM, gIM⟩, hZs_next hT.2.2.2.1 S2 gAM hU hW⟩⟩ rfl rfl hl.1 rfl (lv_room (Nat.le_of_ble_eq_true rfl)) dL_law_12 ⟨Nat.le_of_ble_eq_true rfl, Nat.le_of_ble_eq_true rfl⟩) S2 (fun q _ h => gAM q h) gAM (fun Y t H3 locs3 ht hvm hp hB hz hk S3 => ?_)
  subst ht
  obtain ⟨eΓ, hOk⟩ := hp
  obtain ⟨⟨b1, b2, b3, b4⟩, b5⟩ := hB
  have b5 : Y.1 0 = q2 := b5
  refine lv_astore_n (lv' := [(2, .ref q2), (1, .ref (lay 0)), (0, .ref b)]) hC.1 hC.2.1 dL_law_15 rfl hl (by decide) rfl (fun ls hl => ?_)
  have hI3 : gI (lgA s.heap.size) Y.1 (rX cy Y.1 Y.2.1 tn Y.2.2) := gI_weak b2 gAM
  have hP3 : va_P D vwCl (agW cy lay σ0) t.heap := fun k x hx => by
    have h0 := hP2 k x (at1 k x hx)
    refine h0.kept (hk x.1 h0.lt (fun z => ?_))
    rcases z with ⟨k9, e9, hk9, hXk, e1⟩ | z
    · have hne := hD2.1 k 87 x _ (at1 k x hx) at2 e1
      have := (ag_of hx).1
      omega
    · exact absurd h0.lt (Nat.not_lt.mpr z)
  have hD3 : va_D (lgA s.heap.size) (agW cy lay σ0) := hD1
  have cross : ∀ (i j : Nat) (x y : Nat × va_E), (agW cy lay σ0)[i]? = some x → (gW Y.1 (rX cy Y.1 Y.2.1 tn Y.2.2))[j]? = some y → x.1 ≠ y.1 := fun i j x y hi hj exy => by
    obtain ⟨k, e9, hk9, hXk, rfl⟩ := gW_inv hj
    have h1 := b2.2 k e9 hk9 hXk
    have h0 := hP2 i x (at1 i x hi)
    have exy : x.1 = Y.1 k := exy
    rw [← exy] at h1
    rcases h1 with ⟨k8, e8, hk8, hX8, e1⟩ | h1
    · have hne := hD2.1 i 87 x _ (at1 i x hi) at2 e1
      have := (ag_of hi).1
      omega
    · exact absurd h0.lt (Nat.not_lt.mpr h1)
  -- Out
  refine va_new hC.1 hC.2.1 hC.2.2.2.2 i_L_law_X8 tyX8 k_X8.2.1 hC.2.2.2.1 (hC.2.2.2.2 _ (wl 0 6 rfl)) (hC.2.2.2.2 _ (wl 0 7 rfl)) (hC.2.2.2.2 _ (wl 0 8 rfl)) hK (hP3.app (gP_list b1)) (va_D.app hD3 (gI_list hI3) cross) S3 hA k_X8.1 df_X8 (Nat.le_of_ble_eq_true rfl) (Nat.le_of_ble_eq_true rfl) dL_law_16 (fun q3 H4 hP4 hD4 S4 => ?_)
  have G4 : lwG D cy lay q3 (σ0, 0, .null) Y s H4 locs3 := lw_mk hT b1 b4 (by rw [eΓ]) (by rw [eΓ]) hP4 hD4 S4 hI3
  refine lv_dup hC.1 hC.2.1 dL_law_19 rfl ?_
  have gA0 : ∀ q, gA (fun _ => 0) (fun _ => none) H4.size q → H4.size ≤ q := fun q hq => by
    rcases hq with ⟨k, e9, hk9, hXk, e1⟩ | hq
    · cases hXk
    · exact hq
  refine va_callv (va_runIN (As := []) (rest := [.ref q3]) hC (c_X8_init l D cy (fun _ => 0) (fun _ => none) (q := q3) H4.size) ⟨va_cnB 0 hC.2.2.2.2 (gM_w gL_law_X8_init_n119) rfl rfl rfl (hG.2.1 _ (wm 35 rfl)) (hC.2.2.2.2 (.initialized RX8) (wl 0 8 rfl)) hdI_X8 ⟨Nat.le_of_ble_eq_true rfl, Nat.le_of_ble_eq_true rfl⟩, rfl, hC.2.2.2.2 (.instanceMethod yX8_init) (wl 6 10 rfl)⟩ ⟨hI_blind, fun U hU hW => ⟨rfl, by rw [hU], ⟨va_K.moved hW.alike hK, rN_warm hW hT.2.2.1⟩, fun k e9 _ h => (by cases h), ⟨fun i j e9 f9 _ _ h => (by cases h), fun k e9 _ h => (by cases h)⟩⟩⟩ rfl rfl hl.1 rfl (lv_room (Nat.le_of_ble_eq_true rfl)) dL_law_20 ⟨Nat.le_of_ble_eq_true rfl, Nat.le_of_ble_eq_true rfl⟩) S4 (fun q _ h => Nat.le_trans S4.1 (gA0 q h)) (fun q h => Nat.le_trans S4.1 (gA0 q h)) (fun Y5 t5 H5 locs5 ht5 hvm5 hp5 hB5 hz5 hk5 S5 => ?_)
  have G5 : lwG D cy lay q3 (σ0, 0, .null) Y s H5 locs5 := lwG_new G4 hz5 (fun q hq => hk5 q hq (fun z => absurd (gA0 q z) (by omega))) S5
  refine lv_astore_n (lv' := [(3, .ref q3), (2, .ref q2), (1, .ref (lay 0)), (0, .ref b)]) hC.1 hC.2.1 dL_law_23 rfl hl (by decide) rfl (fun ls hl => ?_)
  refine lv_iconst (v := 0) hC.1 hC.2.1 dL_law_24 (by decide) ?_
  refine lv_istore (lv' := [(4, .int 0), (3, .ref q3), (2, .ref q2), (1, .ref (lay 0)), (0, .ref b)]) hC.1 hC.2.1 dL_law_25 hl (by decide) rfl (fun ls hl => ?_)
  refine W.widen (k := 200 + 400 * 0) (n := 5000 + 6000 * 0) (by decide) (by decide) ?_
  refine lw_loop (K := 200) (S := 5000) (m0 := q2) hl0 hC hr hlocks hT hL hX hbl (by decide) (by decide) 512 0 (by decide) (σ0, 0, .null) Y H5 locs5 ls b5 ⟨0, ?_, ?_, ?_, ?_⟩ G5 (lv_sub hl [0, 4, 3, 2, 1] rfl)
  · rw [eΓ]; exact CX.new
  · rw [eΓ]; exact hOk.reT tr_new
  · rw [eΓ]; exact fun b hb => absurd hb (Nat.not_lt_zero b)
  · rw [eΓ]
end START
