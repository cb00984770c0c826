section
/-! THE REFERENCE: adding to a full list (the eleventh wedding): a longer row -/
section K2
variable {p : Program} {l : Launch} {e : Env} {R : Room} {s : State} {m : MethodId} {args : Array Value} {below : List Frame} {meth : Method} {c : Code} {H : Heap} {locs : List Loc} {cells slots : Nat} {Q : State → Prop}
variable {cc bytes : ByteArray} {pc nL maxL mc ms n index ea mi : Nat} {ls : Array Slot} {ST rest As : List Value} {D : va_G} {cy : Nat → ClassId} {lay : Nat → Nat} {X : Nat → Option va_E} {A : Nat → Prop} {H0 : Heap} {Ts ws : List Cond} {own Cn host : String} {y : MethodName} {ret : Option FieldType} {rm : Room} {b : Addr} {tys : List (ClassId × FieldType)}
variable {Qc : Array Value → State → Outcome → State → Prop} {free : Addr → Prop}
theorem k_runS (hC : CallFix p m c cc nL s args Ts own) (hT : va_K D vwCl (fdT cy) s ∧ rN s) (hZ : hZs D cy ea mi A s) (hA : ∀ q, s.heap.size ≤ q → A q) (G : gG D lay X A s.heap H locs) (hM : Met l y ws rm (va_Pc As (hK D cy lay X ea mi H.size)) Qc mc ms free) (cw : CallB R s args own index y bytes maxL ret ws rm mc ms n ∧ (Cond.static y).before args s = true)
    (hn : As.length = n) (hls : ls.size = nL) (hst : ST = As.reverse ++ rest) (hW : (rest.map fun v => v.category).sum ≤ 8) (hdg : decode cc pc = .ok (.invokestatic index, 3)) (hf : cells + mc ≤ R.cells ∧ slots + ms ≤ R.slots) :
    va_Run p l e R s m args below meth c H locs cells slots mc ms (F0 m pc ls ST) rest (Qc As.toArray) free :=
  va_runS hC hM cw ⟨hK_blind, fun U hU hW => ⟨rfl, hK_next hT hZ G hA hU hW⟩⟩ rfl hn hls hst (lv_room hW) hdg hf
theorem g_i {post : Int32 → GY → Prop} {a : Array Value} (G : gG D lay X A H0 H locs) (hA : ∀ q, H0.size ≤ q → A q) (hr : va_Run p l e R s m args below meth c H locs cells slots mc ms (F0 m pc ls ST) rest (va_Qi post (gO D (gA lay X H.size)) (gA lay X H.size) a) (gA lay X H.size))
    (kk : ∀ (r : Int32) (Y : GY) (H1 : Heap) (locs1 : List Loc), post r Y → gG D Y.1 Y.2 A H0 H1 locs1 → W p l e R s m args below meth c H1 locs1 (cells + mc) (slots + ms) Q (F0 m (pc + 3) ls (.int r :: rest))) : W p l e R s m args below meth c H locs cells slots Q (F0 m pc ls ST) :=
  va_calli hr G.2.2 (fun q _ h => gA_in G hA q h) (gA_in G hA) (fun r u t H1 locs1 ht hvm hw hB hz hk hS => kk r u H1 locs1 hw ⟨by rw [← ht]; exact hB.1, gI_weak hB.2 (gA_in G hA), hS⟩)
theorem g_el {kv ci : Nat} {r : vw_C} {vs : List Value} (hT : va_K D vwCl tys s) (G : gG D lay X A H0 H locs) (hkv : kv < 128) (hev : X kv = some (.inr (ci, vs))) (hc : vwCl[ci]? = some r) : ∃ cell : Cell, H[lay kv]? = some cell ∧ cell.vm.isStatics = false ∧ s.vm.findClass r.1 = some cell.cls := by
  obtain ⟨q, hq⟩ := gW_pos (lay := lay) hkv hev
  obtain ⟨r', hr', cellV, g1, g2, g3, -⟩ := gP_list G.1 q _ hq
  have hcls := (hT.1 ci r hc).2
  exact ⟨cellV, g1, by rw [g3]; rfl, by rw [g2]; exact hcls.1⟩
/-- a cell takes another's place -/
theorem gG_move {ke kn : Nat} {e1 : va_E} {lay' : Nat → Nat} {X' : Nat → Option va_E} (hkn : kn < 128) (h : X kn = some e1) (h1 : lay' ke = lay kn) (h2 : ∀ i, i ≠ ke → i ≠ kn → lay' i = lay i) (h3 : X' ke = some e1) (h4 : X' kn = none) (h5 : ∀ i, i ≠ ke → i ≠ kn → X' i = X i) (G : gG D lay X A H0 H locs) : gG D lay' X' A H0 H locs := by
  have key : ∀ i f, i < 128 → X' i = some f → ∃ i', i' < 128 ∧ X i' = some f ∧ lay' i = lay i' ∧ (i = ke ∧ i' = kn ∨ i ≠ ke ∧ i ≠ kn ∧ i' = i) := by
    intro i f hi hf
    by_cases c1 : i = ke
    · subst c1
      rw [h3] at hf
      cases hf
      exact ⟨kn, hkn, h, h1, Or.inl ⟨rfl, rfl⟩⟩
    · by_cases c2 : i = kn
      · subst c2
        rw [h4] at hf
        cases hf
      · rw [h5 i c1 c2] at hf
        exact ⟨i, hi, hf, h2 i c1 c2, Or.inr ⟨c1, c2, rfl⟩⟩
  refine ⟨fun k f hk hf => ?_, ⟨fun i j f g hi hj hf hg hij => ?_, fun k f hk hf => ?_⟩, G.2.2⟩
  · obtain ⟨i', hi, hx, hl, -⟩ := key k f hk hf
    rw [hl]
    exact G.1 i' f hi hx
  · obtain ⟨i', hi', hx, hl, c1⟩ := key i f hi hf
    obtain ⟨j', hj', hy, hm, c2⟩ := key j g hj hg
    have := G.2.1.1 i' j' f g hi' hj' hx hy (by rw [← hl, ← hm]; exact hij)
    omega
  · obtain ⟨i', hi, hx, hl, -⟩ := key k f hk hf
    rw [hl]
    exact G.2.1.2 i' f hi hx
end K2
abbrev rm_nl : Room := { frames := 1, cells := 0, slots := 0, locals := 40 }
abbrev rm_cp3 : Room := { frames := 1, cells := 1, slots := 15, locals := 60 }
abbrev rm_cp2 : Room := { frames := 2, cells := 1, slots := 15, locals := 100 }
abbrev rm_gC0 : Room := { frames := 3, cells := 1, slots := 15, locals := 140 }
abbrev rm_gC1 : Room := { frames := 4, cells := 1, slots := 15, locals := 180 }
abbrev rm_aC3 : Room := { frames := 5, cells := 1, slots := 15, locals := 220 }
abbrev rm_adC : Room := { frames := 6, cells := 1, slots := 15, locals := 260 }
theorem hdS_nl : yJ8_newLength_cabcc.cls ≠ "java/lang/invoke/MethodHandle" ∧ yJ8_newLength_cabcc.cls ≠ "java/lang/invoke/VarHandle" ∧ (parseMethodDescriptor yJ8_newLength_cabcc.desc).map (fun d => d.parameters.length) = some 3 := by decide +kernel
theorem hdS_cp3 : yJ7_copyOf_6403c.cls ≠ "java/lang/invoke/MethodHandle" ∧ yJ7_copyOf_6403c.cls ≠ "java/lang/invoke/VarHandle" ∧ (parseMethodDescriptor yJ7_copyOf_6403c.desc).map (fun d => d.parameters.length) = some 3 := by decide +kernel
theorem hdS_cp2 : yJ7_copyOf_1904c.cls ≠ "java/lang/invoke/MethodHandle" ∧ yJ7_copyOf_1904c.cls ≠ "java/lang/invoke/VarHandle" ∧ (parseMethodDescriptor yJ7_copyOf_1904c.desc).map (fun d => d.parameters.length) = some 2 := by decide +kernel
set_option maxHeartbeats 4000000 in
set_option maxRecDepth 100000 in
theorem c_newLen (l : Launch) (D : va_G) (cy : Nat → ClassId) (lay : Nat → Nat) (X : Nat → Option va_E) (ea mi : Nat) {a b g r : Int32} (h0 : a + (if b < g then g else b) = r) (h1 : ¬ r ≤ 0) (h2 : ¬ 2147483639 < r) (sz : Nat) : Met l yJ8_newLength_cabcc wsJ8_newLength_cabcc rm_nl (va_Pc [.int a, .int b, .int g] (hK D cy lay X ea mi sz)) (va_Qi (fun x (Y : GY) => x = r ∧ Y = (lay, X)) (gO D (gA lay X sz)) (gA lay X sz)) 0 0 (gA lay X sz) := by
  refine k_ofW (cc := cJ8_newLength_cabcc) (maxL := 4) (ret := some .int) (own := RJ8) (Qc := fun sz => va_Qi (fun x (Y : GY) => x = r ∧ Y = (lay, X)) (gO D (gA lay X sz)) (gA lay X sz)) (by decide) rfl (Nat.le_of_ble_eq_true rfl) rfl ?_
  intro p e0 s m args below meth c ls hC hr hlocks hname hT hZ G hl
  have hl : lv_has ls 4 [(0, .int a), (1, .int b), (2, .int g)] := hl
  refine lv_iload_n hC.1 hC.2.1 dJ8_newLength_cabcc_0 rfl (lv_at hl 0 rfl) ?_
  refine lv_iload_n hC.1 hC.2.1 dJ8_newLength_cabcc_1 rfl (lv_at hl 1 rfl) ?_
  refine lv_iload_n hC.1 hC.2.1 dJ8_newLength_cabcc_2 rfl (lv_at hl 2 rfl) ?_
  refine va_mmax hC.1 hC.2.1 (hC.2.2.1.trans hl.1.symm) hC.2.2.2.1 (hC.2.2.2.2 _ (wm 1 rfl)) (hC.2.2.2.2 _ (wm 2 rfl)) (hC.2.2.2.2 _ (wm 3 rfl)) (hC.2.2.2.2 _ (wm 4 rfl)) (Nat.le_of_ble_eq_true rfl) (Nat.le_of_ble_eq_true rfl) (Nat.le_of_ble_eq_true rfl) (Nat.le_of_ble_eq_true rfl) dJ8_newLength_cabcc_3 ?_
  refine lv_iadd hC.1 hC.2.1 dJ8_newLength_cabcc_6  ?_
  rw [h0]
  refine lv_istore_n (lv' := [(3, .int r), (0, .int a), (1, .int b), (2, .int g)]) hC.1 hC.2.1 dJ8_newLength_cabcc_7 rfl hl (by decide) rfl (fun ls hl => ?_)
  refine lv_iconst (v := 0) hC.1 hC.2.1 dJ8_newLength_cabcc_8 (by decide) ?_
  refine lv_iload_n hC.1 hC.2.1 dJ8_newLength_cabcc_9 rfl (lv_at hl 0 rfl) ?_
  refine lv_icmp_ge (tgt := 21) hC.1 hC.2.1 dJ8_newLength_cabcc_10 (by decide) (fun c1 => absurd c1 h1) (fun _ => ?_)
  refine lv_iload_n hC.1 hC.2.1 dJ8_newLength_cabcc_13 rfl (lv_at hl 0 rfl) ?_
  refine lv_ldc (v := 2147483639) hC.1 hC.2.1 hC.2.2.2.1 (hC.2.2.2.2 _ (wm 5 rfl)) dJ8_newLength_cabcc_14 ?_
  refine lv_icmp_gt (tgt := 21) hC.1 hC.2.1 dJ8_newLength_cabcc_16 (by decide) (fun c1 => absurd c1 h2) (fun _ => ?_)
  refine lv_iload_n hC.1 hC.2.1 dJ8_newLength_cabcc_19 rfl (lv_at hl 0 rfl) ?_
  exact W.iret (v := r) hC.1 hC.2.1 hr (fun t ht hW => ⟨⟨r, (lay, X), rfl, ⟨rfl, rfl⟩, by rw [ht]; exact G.1, G.2.1⟩, G.2.2.F ht⟩) G.2.2.2.2 dJ8_newLength_cabcc_20 hlocks
set_option maxHeartbeats 4000000 in
set_option maxRecDepth 100000 in
theorem c_cp3 (l : Launch) (D : va_G) (cy : Nat → ClassId) (lay : Nat → Nat) (X : Nat → Option va_E) (ea mi : Nat) {ke kn ci qn n0 n1 : Nat} {r : vw_C} {f : Nat → Option Nat} (hke : ke < 128) (hkn : kn < 128) (hn : n0 ≤ n1) (hn1 : n1 ≤ 15) (h1 : X ke = some (.inl (cy 7, n0, rfS f))) (h2 : X kn = none) (hel : ∀ i y, i < n0 → f i = some y → ∃ kv vs, kv < 128 ∧ X kv = some (.inr (ci, vs)) ∧ lay kv = y) (hc : vwCl[ci]? = some r) (hqn : nestR[qn]? = some (.castable r.1 "java/lang/Object")) (sz : Nat) : Met l yJ7_copyOf_6403c wsJ7_copyOf_6403c rm_cp3 (va_Pc [.ref (lay ke), .int (nI n1), .ref mi] (hK D cy lay X ea mi sz)) (va_Qr (S := GY) (fun Y => ∃ q, Y = (gU lay kn q, gU X kn (some (.inl (cy 7, n1, rfS (va_cpy f (fun _ => none) 0 0 n0)))))) (fun Y a t => a = Y.1 kn ∧ gO D (gA lay X sz) Y t) (gA lay X sz)) 1 15 (gA lay X sz) := by
  refine k_ofW (cc := cJ7_copyOf_6403c) (maxL := 4) (ret := some (.array (.object "java/lang/Object"))) (own := RJ7) (Qc := fun sz => (va_Qr (S := GY) (fun Y => ∃ q, Y = (gU lay kn q, gU X kn (some (.inl (cy 7, n1, rfS (va_cpy f (fun _ => none) 0 0 n0)))))) (fun Y a t => a = Y.1 kn ∧ gO D (gA lay X sz) Y t) (gA lay X sz))) (by decide) rfl (Nat.le_of_ble_eq_true rfl) rfl ?_
  intro p e0 s m args below meth c ls hC hr hlocks hname hT hZ G hl
  have hl : lv_has ls 4 [(0, .ref (lay ke)), (1, .int (nI n1)), (2, .ref mi)] := hl
  have hA : ∀ q, s.heap.size ≤ q → gA lay X s.heap.size q := fun _ h => Or.inr h
  have hne : ke ≠ kn := fun z => by rw [z, h2] at h1; cases h1
  have hz : (0 : Int32).toNatClampNeg = 0 := by decide
  have hcl : (nI n0).toNatClampNeg = n0 := nI_clamp (by omega)
  refine lv_aload_n hC.1 hC.2.1 dJ7_copyOf_6403c_0 rfl (lv_at hl 2 rfl) ?_
  refine va_ldcM hC.1 hC.2.1 hC.2.2.2.1 (hC.2.2.2.2 _ (wm 1 rfl)) hZ.2.2.2.2.1 dJ7_copyOf_6403c_1 ?_
  refine lv_acmp_ne (rx := some mi) (ry := some mi) (tgt := 13) hC.1 hC.2.1 dJ7_copyOf_6403c_3 (by decide) (fun c1 => absurd rfl c1) (fun _ => ?_)
  refine lv_iload_n hC.1 hC.2.1 dJ7_copyOf_6403c_6 rfl (lv_at hl 1 rfl) ?_
  refine va_newq (N' := n1) hC.1 hC.2.1 hC.2.2.2.1 (hC.2.2.2.2 _ (wm 2 rfl)) hZ.2.2.2.1 hT.1 (gP_list G.1) (gI_list G.2.1) G.2.2 hA (nI_pos (by omega)) (nI_clamp (by omega)) (by omega) (Nat.le_of_ble_eq_true rfl) (by show 0 + n1 ≤ 15; omega) dJ7_copyOf_6403c_7 (fun q cA H hK' hP hD hS => ?_)
  obtain ⟨-, -, -, -, -, hq1⟩ := (hK'.2 (fdT cy).length (cA, .object "java/lang/Object") (by rw [List.getElem?_append_right (Nat.le_refl _), Nat.sub_self]; rfl)).2
  obtain ⟨-, -, -, -, -, hq2⟩ := (hT.1.2 7 (cy 7, .object "java/lang/Object") rfl).2
  have hcA : cA = cy 7 := Option.some.inj (hq1.symm.trans hq2)
  subst hcA
  have G1 : gG D (gU lay kn q) (gU X kn (some (.inl (cy 7, n1, rfS fun _ => none)))) (gA lay X s.heap.size) s.heap H [] := ⟨gP_new h2 hP, gI_new G.2.1 h2 hD, hS⟩
  refine lv_goto (tgt := 24) hC.1 hC.2.1 dJ7_copyOf_6403c_10 (by decide) ?_
  refine lv_astore_n (lv' := [(3, .ref q), (0, .ref (lay ke)), (1, .int (nI n1)), (2, .ref mi)]) hC.1 hC.2.1 dJ7_copyOf_6403c_24 rfl hl (by decide) rfl (fun ls hl => ?_)
  refine lv_aload_n hC.1 hC.2.1 dJ7_copyOf_6403c_25 rfl (lv_at hl 1 rfl) ?_
  refine lv_iconst (v := 0) hC.1 hC.2.1 dJ7_copyOf_6403c_26 (by decide) ?_
  refine lv_aload_n hC.1 hC.2.1 dJ7_copyOf_6403c_27 rfl (lv_at hl 0 rfl) ?_
  refine lv_iconst (v := 0) hC.1 hC.2.1 dJ7_copyOf_6403c_28 (by decide) ?_
  refine lv_aload_n hC.1 hC.2.1 dJ7_copyOf_6403c_29 rfl (lv_at hl 1 rfl) ?_
  have x0 : gU X kn (some (.inl (cy 7, n1, rfS fun _ => none))) ke = some (.inl (cy 7, n0, rfS f)) := (gU_ne hne).trans h1
  obtain ⟨q0, hq0⟩ := gW_pos (lay := gU lay kn q) hke x0
  rw [show gU lay kn q ke = lay ke from gU_ne hne] at hq0
  obtain ⟨q1, hq1'⟩ := gW_pos (lay := gU lay kn q) (X := gU X kn (some (.inl (cy 7, n1, rfS fun _ => none)))) hkn gU_eq
  have hq1'' := hq1'
  rw [show gU lay kn q kn = q from gU_eq] at hq1''
  refine va_alen (v := nI n0) hC.1 hC.2.1 hT.1 (gP_list G1.1) q0 7 hq0 rfl rfl dJ7_copyOf_6403c_30 ?_
  refine lv_iload_n hC.1 hC.2.1 dJ7_copyOf_6403c_31 rfl (lv_at hl 2 rfl) ?_
  refine va_mmin hC.1 hC.2.1 (hC.2.2.1.trans hl.1.symm) hC.2.2.2.1 (hC.2.2.2.2 _ (wm 3 rfl)) (hC.2.2.2.2 _ (wm 4 rfl)) (hC.2.2.2.2 _ (wm 5 rfl)) (hC.2.2.2.2 _ (wm 6 rfl)) (Nat.le_of_ble_eq_true rfl) (Nat.le_of_ble_eq_true rfl) (Nat.le_of_ble_eq_true rfl) (by show 0 + n1 ≤ 15; omega) dJ7_copyOf_6403c_32 ?_
  rw [if_neg (nI_nlt hn (by omega))]
  refine va_copyq (C := r.1) hC.1 hC.2.1 (hC.2.2.1.trans hl.1.symm) hC.2.2.2.1 (hC.2.2.2.2 _ (wm 7 rfl)) (hC.2.2.2.2 _ (wm 8 rfl)) (hC.2.2.2.2 _ (wm 9 rfl)) (hC.2.2.2.2 _ (wm 10 rfl)) hT.1 (gP_list G1.1) (gI_list G1.2.1) G1.2.2 q0 q1 7 7 hq0 hq1'' rfl rfl (by decide) (by decide) (nI_pos (by omega)) (by rw [hz, hcl]; omega) (by rw [hz, hcl]; omega) (fun i hi y hy => ?_) (fun comp c0 hf hc' => ?_) (Nat.le_of_ble_eq_true rfl) (by decide +kernel) dJ7_copyOf_6403c_35 (fun H locs hP hD hS => ?_)
  · rw [hz, Nat.zero_add] at hy
    rw [hcl] at hi
    obtain ⟨kv, vs, hkv, hv, rfl⟩ := hel i y hi hy
    have hne' : kv ≠ kn := fun z => by rw [z, h2] at hv; cases hv
    have := g_el hT.1 G1 hkv ((gU_ne hne').trans hv) hc
    rw [gU_ne hne'] at this
    exact this
  · obtain ⟨c1, t1, f1, f2, f3⟩ := Cond.castable_spec (va_Nw.use (A := args) rfl (hT.2.1 _ (wm qn hqn)))
    cases f1.symm.trans hc'
    cases f2.symm.trans hf
    exact f3
  · rw [hz, hcl] at hP
    have G2 := gG_up2 (D := D) (lay := gU lay kn q) (A := gA lay X s.heap.size) (H0 := s.heap) (H := H) (locs := locs) ⟨gP_set G1.2.1 hkn gU_eq hq1' (by rw [show gU lay kn q kn = q from gU_eq]; exact hP), gI_set G1.2.1 gU_eq, hS⟩
    refine lv_aload_n hC.1 hC.2.1 dJ7_copyOf_6403c_38 rfl (lv_at hl 0 rfl) ?_
    refine W.widen (k := 1) (n := 15) (by decide) (by omega) ?_
    exact W.aret (v := .ref q) hC.1 hC.2.1 hr (Or.inr ⟨_, rfl⟩) (Or.inr ⟨_, rfl⟩) (fun t ht hW => ⟨⟨_, q, rfl, ⟨q, rfl⟩, gU_eq.symm, by rw [ht]; exact G2.1, G2.2.1⟩, G2.2.2.F ht⟩) G2.2.2.2.2 dJ7_copyOf_6403c_39 hlocks
set_option maxHeartbeats 4000000 in
set_option maxRecDepth 100000 in
theorem c_cp2 (l : Launch) (D : va_G) (cy : Nat → ClassId) (lay : Nat → Nat) (X : Nat → Option va_E) (ea mi : Nat) {ke kn ci qn n0 n1 : Nat} {r : vw_C} {f : Nat → Option Nat} (hke : ke < 128) (hkn : kn < 128) (hn : n0 ≤ n1) (hn1 : n1 ≤ 15) (h1 : X ke = some (.inl (cy 7, n0, rfS f))) (h2 : X kn = none) (hel : ∀ i y, i < n0 → f i = some y → ∃ kv vs, kv < 128 ∧ X kv = some (.inr (ci, vs)) ∧ lay kv = y) (hc : vwCl[ci]? = some r) (hqn : nestR[qn]? = some (.castable r.1 "java/lang/Object")) (sz : Nat) : Met l yJ7_copyOf_1904c wsJ7_copyOf_1904c rm_cp2 (va_Pc [.ref (lay ke), .int (nI n1)] (hK D cy lay X ea mi sz)) (va_Qr (S := GY) (fun Y => ∃ q, Y = (gU lay kn q, gU X kn (some (.inl (cy 7, n1, rfS (va_cpy f (fun _ => none) 0 0 n0)))))) (fun Y a t => a = Y.1 kn ∧ gO D (gA lay X sz) Y t) (gA lay X sz)) 1 15 (gA lay X sz) := by
  refine k_ofW (cc := cJ7_copyOf_1904c) (maxL := 2) (ret := some (.array (.object "java/lang/Object"))) (own := RJ7) (Qc := fun sz => (va_Qr (S := GY) (fun Y => ∃ q, Y = (gU lay kn q, gU X kn (some (.inl (cy 7, n1, rfS (va_cpy f (fun _ => none) 0 0 n0)))))) (fun Y a t => a = Y.1 kn ∧ gO D (gA lay X sz) Y t) (gA lay X sz))) (by decide) rfl (Nat.le_of_ble_eq_true rfl) rfl ?_
  intro p e0 s m args below meth c ls hC hr hlocks hname hT hZ G hl
  have hl : lv_has ls 2 [(0, .ref (lay ke)), (1, .int (nI n1))] := hl
  have hA : ∀ q, s.heap.size ≤ q → gA lay X s.heap.size q := fun _ h => Or.inr h
  refine lv_aload_n hC.1 hC.2.1 dJ7_copyOf_1904c_0 rfl (lv_at hl 0 rfl) ?_
  refine lv_iload_n hC.1 hC.2.1 dJ7_copyOf_1904c_1 rfl (lv_at hl 1 rfl) ?_
  refine lv_aload_n hC.1 hC.2.1 dJ7_copyOf_1904c_2 rfl (lv_at hl 0 rfl) ?_
  obtain ⟨q0, hq0⟩ := gW_pos (lay := lay) hke h1
  obtain ⟨-, -, -, -, -, hq2⟩ := (hT.1.2 7 (cy 7, .object "java/lang/Object") rfl).2
  refine va_getC (C := "[Ljava/lang/Object;") hC.1 hC.2.1 (hC.2.2.1.trans hl.1.symm) hC.2.2.2.1 (hC.2.2.2.2 _ (wm 1 rfl)) (va_Dc.use hZ.2.2.2.2.2) (hC.2.2.2.2 _ (wm 2 rfl)) (hC.2.2.2.2 _ (wm 3 rfl)) (hC.2.2.2.2 _ (wm 4 rfl)) hZ.2.2.2.2.1 ⟨_, gP_list G.1 q0 _ hq0, rfl, hq2⟩ (Nat.le_of_ble_eq_true rfl) (Nat.le_of_ble_eq_true rfl) dJ7_copyOf_1904c_3 ?_
  refine k_r (f := fun Y => Y.1 kn) G hA (k_runS (As := [.ref (lay ke), .int (nI n1), .ref mi]) (rest := []) hC hT hZ hA G (c_cp3 l D cy lay X ea mi hke hkn hn hn1 h1 h2 hel hc hqn _) (va_cwS 3 hC.2.2.2.2 gJ7_copyOf_1904c_J7_copyOf_6403c rfl rfl rfl hdS_cp3 ⟨Nat.le_of_ble_eq_true rfl, Nat.le_of_ble_eq_true rfl⟩) rfl hl.1 rfl (Nat.le_of_ble_eq_true rfl) dJ7_copyOf_1904c_6 ⟨Nat.le_of_ble_eq_true rfl, Nat.le_of_ble_eq_true rfl⟩) (fun Y H locs hY G => ?_)
  obtain ⟨q, rfl⟩ := hY
  exact W.aret (v := .ref (gU lay kn q kn)) hC.1 hC.2.1 hr (Or.inr ⟨_, rfl⟩) (Or.inr ⟨_, rfl⟩) (fun t ht hW => ⟨⟨_, gU lay kn q kn, rfl, ⟨q, rfl⟩, rfl, by rw [ht]; exact G.1, G.2.1⟩, G.2.2.F ht⟩) G.2.2.2.2 dJ7_copyOf_1904c_9 hlocks
end
section
/-! THE REFERENCE: the eleventh of a list -/
set_option maxHeartbeats 4000000 in
set_option maxRecDepth 100000 in
theorem c_gC0 (l : Launch) (D : va_G) (cy : Nat → ClassId) (lay : Nat → Nat) (X : Nat → Option va_E) (ea mi : Nat) {kl ke kn ci qn : Nat} {r : vw_C} {f : Nat → Option Nat} (hkl : kl < 128) (hke : ke < 128) (hkn : kn < 128) (hne : kl ≠ ke) {mo : Int32} (h1 : X kl = some (.inr (4, [.int mo, .ref (lay ke), .int (nI 10)]))) (h2 : X ke = some (.inl (cy 7, 10, rfS f))) (h3 : X kn = none) (hel : ∀ i y, i < 10 → f i = some y → ∃ kv vs, kv < 128 ∧ X kv = some (.inr (ci, vs)) ∧ lay kv = y) (hc : vwCl[ci]? = some r) (hqn : nestR[qn]? = some (.castable r.1 "java/lang/Object")) (sz : Nat) : Met l yJx4a65c_grow_92f84 wsJx4a65c_grow_92f84 rm_gC0 (va_Pc [.ref (lay kl), .int (nI 11)] (hK D cy lay X ea mi sz)) (va_Qr (S := GY) (fun Y => ∃ q, Y = (gU lay ke q, gU (gU X ke (some (.inl (cy 7, 15, rfS (va_cpy f (fun _ => none) 0 0 10))))) kl (some (.inr (4, [.int mo, .ref q, .int (nI 10)]))))) (fun Y a t => a = Y.1 ke ∧ gO D (gA lay X sz) Y t) (gA lay X sz)) 1 15 (gA lay X sz) := by
  refine k_ofW (cc := cJx4a65c_grow_92f84) (maxL := 4) (ret := some (.array (.object "java/lang/Object"))) (own := RJx4a65c) (Qc := fun sz => (va_Qr (S := GY) (fun Y => ∃ q, Y = (gU lay ke q, gU (gU X ke (some (.inl (cy 7, 15, rfS (va_cpy f (fun _ => none) 0 0 10))))) kl (some (.inr (4, [.int mo, .ref q, .int (nI 10)]))))) (fun Y a t => a = Y.1 ke ∧ gO D (gA lay X sz) Y t) (gA lay X sz))) (by decide) rfl (Nat.le_of_ble_eq_true rfl) rfl ?_
  intro p e0 s m args below meth c ls hC hr hlocks hname hT hZ G hl
  have hl : lv_has ls 4 [(0, .ref (lay kl)), (1, .int (nI 11))] := hl
  have hA : ∀ q, s.heap.size ≤ q → gA lay X s.heap.size q := fun _ h => Or.inr h
  have hnl : kl ≠ kn := fun z => by rw [z, h3] at h1; cases h1
  have hnk : ke ≠ kn := fun z => by rw [z, h3] at h2; cases h2
  refine lv_aload_n hC.1 hC.2.1 dJx4a65c_grow_92f84_0 rfl (lv_at hl 0 rfl) ?_
  refine g_get hC hT.1 G hkl h1 k_AL i_gr0_L 1 (by decide) (wm 1 rfl) rfl dJx4a65c_grow_92f84_1 ?_
  obtain ⟨q0, hq0⟩ := gW_pos (lay := lay) hke h2
  refine va_alen (v := nI 10) hC.1 hC.2.1 hT.1 (gP_list G.1) q0 7 hq0 rfl rfl dJx4a65c_grow_92f84_4 ?_
  refine lv_istore_n (lv' := [(2, .int (nI 10)), (0, .ref (lay kl)), (1, .int (nI 11))]) hC.1 hC.2.1 dJx4a65c_grow_92f84_5 rfl hl (by decide) rfl (fun ls hl => ?_)
  refine lv_iload_n hC.1 hC.2.1 dJx4a65c_grow_92f84_6 rfl (lv_at hl 0 rfl) ?_
  refine lv_if_gt (tgt := 20) hC.1 hC.2.1 dJx4a65c_grow_92f84_7 (by decide) (fun _ => ?_) (fun c1 => absurd (show (0 : Int32) < nI 10 from by decide +kernel) c1)
  refine lv_iload_n hC.1 hC.2.1 dJx4a65c_grow_92f84_20 rfl (lv_at hl 0 rfl) ?_
  refine lv_iload_n hC.1 hC.2.1 dJx4a65c_grow_92f84_21 rfl (lv_at hl 2 rfl) ?_
  refine lv_iload_n hC.1 hC.2.1 dJx4a65c_grow_92f84_22 rfl (lv_at hl 0 rfl) ?_
  refine lv_isub hC.1 hC.2.1 dJx4a65c_grow_92f84_23  ?_
  refine lv_iload_n hC.1 hC.2.1 dJx4a65c_grow_92f84_24 rfl (lv_at hl 0 rfl) ?_
  refine lv_iconst (v := 1) hC.1 hC.2.1 dJx4a65c_grow_92f84_25 (by decide) ?_
  refine lv_ishr hC.1 hC.2.1 dJx4a65c_grow_92f84_26  ?_
  refine g_i G hA (k_runS (As := [.int (nI 10), .int (nI 11 - nI 10), .int (nI 10 >>> (1 &&& 31))]) (rest := []) hC hT hZ hA G (c_newLen l D cy lay X ea mi (r := nI 15) (by decide +kernel) (by decide +kernel) (by decide +kernel) _) (va_cwS 3 hC.2.2.2.2 gJx4a65c_grow_92f84_J8_newLength_cabcc rfl rfl rfl hdS_nl ⟨Nat.le_of_ble_eq_true rfl, Nat.le_of_ble_eq_true rfl⟩) rfl hl.1 rfl (Nat.le_of_ble_eq_true rfl) dJx4a65c_grow_92f84_27 ⟨Nat.le_of_ble_eq_true rfl, Nat.le_of_ble_eq_true rfl⟩) (fun r0 Y H locs hY G => ?_)
  obtain ⟨rfl, rfl⟩ := hY
  have G : gG D lay X (gA lay X s.heap.size) s.heap H locs := G
  refine lv_istore_n (lv' := [(3, .int (nI 15)), (2, .int (nI 10)), (0, .ref (lay kl)), (1, .int (nI 11))]) hC.1 hC.2.1 dJx4a65c_grow_92f84_30 rfl hl (by decide) rfl (fun ls hl => ?_)
  refine lv_aload_n hC.1 hC.2.1 dJx4a65c_grow_92f84_31 rfl (lv_at hl 2 rfl) ?_
  refine lv_aload_n hC.1 hC.2.1 dJx4a65c_grow_92f84_32 rfl (lv_at hl 2 rfl) ?_
  refine g_get hC hT.1 G hkl h1 k_AL i_gr0_L 1 (by decide) (wm 1 rfl) rfl dJx4a65c_grow_92f84_33 ?_
  refine lv_iload_n hC.1 hC.2.1 dJx4a65c_grow_92f84_36 rfl (lv_at hl 0 rfl) ?_
  refine k_r (f := fun Y => Y.1 kn) G hA (k_runS (As := [.ref (lay ke), .int (nI 15)]) (rest := [.ref (lay kl)]) hC hT hZ hA G (c_cp2 l D cy lay X ea mi hke hkn (by decide) (by decide) h2 h3 hel hc hqn _) (va_cwS 2 hC.2.2.2.2 gJx4a65c_grow_92f84_J7_copyOf_1904c rfl rfl rfl hdS_cp2 ⟨Nat.le_of_ble_eq_true rfl, Nat.le_of_ble_eq_true rfl⟩) rfl hl.1 rfl (Nat.le_of_ble_eq_true rfl) dJx4a65c_grow_92f84_37 ⟨Nat.le_of_ble_eq_true rfl, Nat.le_of_ble_eq_true rfl⟩) (fun Y H locs hY G => ?_)
  obtain ⟨q, rfl⟩ := hY
  have G : gG D (gU lay kn q) (gU X kn (some (.inl (cy 7, 15, rfS (va_cpy f (fun _ => none) 0 0 10))))) (gA lay X s.heap.size) s.heap H locs := G
  have e0 : gU lay kn q kn = q := gU_eq
  have G1 : gG D (gU lay ke q) (gU X ke (some (.inl (cy 7, 15, rfS (va_cpy f (fun _ => none) 0 0 10))))) (gA lay X s.heap.size) s.heap H locs := gG_move (ke := ke) hkn gU_eq (gU_eq.trans e0.symm) (fun i a b => (gU_ne a).trans (gU_ne b).symm) gU_eq ((gU_ne (Ne.symm hnk)).trans h3) (fun i a b => (gU_ne a).trans (gU_ne b).symm) G
  have e1 : gU lay ke q kl = lay kl := gU_ne hne
  dsimp only
  rw [e0]
  refine lv_dup_x1 hC.1 hC.2.1 dJx4a65c_grow_92f84_40 rfl rfl ?_
  refine g_putA (a := lay kl) e1 hC hT.1 G1 hkl ((gU_ne hne).trans h1) k_AL i_gr0_L 1 (by decide) (wm 1 rfl) rfl rfl rfl (by simp) dJx4a65c_grow_92f84_41 (fun H locs G => ?_)
  have G : gG D (gU lay ke q) (gU (gU X ke (some (.inl (cy 7, 15, rfS (va_cpy f (fun _ => none) 0 0 10))))) kl (some (.inr (4, [.int mo, .ref q, .int (nI 10)])))) (gA lay X s.heap.size) s.heap H locs := G
  exact W.aret (v := .ref q) hC.1 hC.2.1 hr (Or.inr ⟨_, rfl⟩) (Or.inr ⟨_, rfl⟩) (fun t ht hW => ⟨⟨_, q, rfl, ⟨q, rfl⟩, gU_eq.symm, by rw [ht]; exact G.1, G.2.1⟩, G.2.2.F ht⟩) G.2.2.2.2 dJx4a65c_grow_92f84_44 hlocks
set_option maxHeartbeats 4000000 in
set_option maxRecDepth 100000 in
theorem c_gC1 (l : Launch) (D : va_G) (cy : Nat → ClassId) (lay : Nat → Nat) (X : Nat → Option va_E) (ea mi : Nat) {kl ke kn ci qn : Nat} {r : vw_C} {f : Nat → Option Nat} (hkl : kl < 128) (hke : ke < 128) (hkn : kn < 128) (hne : kl ≠ ke) {mo : Int32} (h1 : X kl = some (.inr (4, [.int mo, .ref (lay ke), .int (nI 10)]))) (h2 : X ke = some (.inl (cy 7, 10, rfS f))) (h3 : X kn = none) (hel : ∀ i y, i < 10 → f i = some y → ∃ kv vs, kv < 128 ∧ X kv = some (.inr (ci, vs)) ∧ lay kv = y) (hc : vwCl[ci]? = some r) (hqn : nestR[qn]? = some (.castable r.1 "java/lang/Object")) (sz : Nat) : Met l yJx4a65c_grow_d5877 wsJx4a65c_grow_d5877 rm_gC1 (va_Pc [.ref (lay kl)] (hK D cy lay X ea mi sz)) (va_Qr (S := GY) (fun Y => ∃ q, Y = (gU lay ke q, gU (gU X ke (some (.inl (cy 7, 15, rfS (va_cpy f (fun _ => none) 0 0 10))))) kl (some (.inr (4, [.int mo, .ref q, .int (nI 10)]))))) (fun Y a t => a = Y.1 ke ∧ gO D (gA lay X sz) Y t) (gA lay X sz)) 1 15 (gA lay X sz) := by
  refine k_ofW (cc := cJx4a65c_grow_d5877) (maxL := 1) (ret := some (.array (.object "java/lang/Object"))) (own := RJx4a65c) (Qc := fun sz => (va_Qr (S := GY) (fun Y => ∃ q, Y = (gU lay ke q, gU (gU X ke (some (.inl (cy 7, 15, rfS (va_cpy f (fun _ => none) 0 0 10))))) kl (some (.inr (4, [.int mo, .ref q, .int (nI 10)]))))) (fun Y a t => a = Y.1 ke ∧ gO D (gA lay X sz) Y t) (gA lay X sz))) (by decide) rfl (Nat.le_of_ble_eq_true rfl) rfl ?_
  intro p e0 s m args below meth c ls hC hr hlocks hname hT hZ G hl
  have hl : lv_has ls 1 [(0, .ref (lay kl))] := hl
  have hA : ∀ q, s.heap.size ≤ q → gA lay X s.heap.size q := fun _ h => Or.inr h
  refine lv_aload_n hC.1 hC.2.1 dJx4a65c_grow_d5877_0 rfl (lv_at hl 0 rfl) ?_
  refine lv_aload_n hC.1 hC.2.1 dJx4a65c_grow_d5877_1 rfl (lv_at hl 0 rfl) ?_
  refine g_get hC hT.1 G hkl h1 k_AL i_gr1_L 2 (by decide) (wm 1 rfl) rfl dJx4a65c_grow_d5877_2 ?_
  refine lv_iconst (v := 1) hC.1 hC.2.1 dJx4a65c_grow_d5877_5 (by decide) ?_
  refine lv_iadd hC.1 hC.2.1 dJx4a65c_grow_d5877_6 ?_
  rw [show nI 10 + 1 = nI 11 from by decide +kernel]
  refine k_r (f := fun Y => Y.1 ke) G hA (k_runV (As := [.int (nI 11)]) (rest := []) hC hT hZ hA G (c_gC0 l D cy lay X ea mi hkl hke hkn hne h1 h2 h3 hel hc hqn _) (cwV 1 hC.2.2.2.2 gJx4a65c_grow_d5877_Jx4a65c_grow_92f84 rfl rfl rfl hdV_gr0 ⟨Nat.le_of_ble_eq_true rfl, Nat.le_of_ble_eq_true rfl⟩) (h_recv hT G hkl h1 k_AL) rfl hl.1 rfl (Nat.le_of_ble_eq_true rfl) dJx4a65c_grow_d5877_7 ⟨Nat.le_of_ble_eq_true rfl, Nat.le_of_ble_eq_true rfl⟩) (fun Y H locs hY G => ?_)
  obtain ⟨q, rfl⟩ := hY
  exact W.aret (v := .ref (gU lay ke q ke)) hC.1 hC.2.1 hr (Or.inr ⟨_, rfl⟩) (Or.inr ⟨_, rfl⟩) (fun t ht hW => ⟨⟨_, gU lay ke q ke, rfl, ⟨q, rfl⟩, rfl, by rw [ht]; exact G.1, G.2.1⟩, G.2.2.F ht⟩) G.2.2.2.2 dJx4a65c_grow_d5877_10 hlocks
set_option maxHeartbeats 4000000 in
set_option maxRecDepth 100000 in
theorem c_aC3 (l : Launch) (D : va_G) (cy : Nat → ClassId) (lay : Nat → Nat) (X : Nat → Option va_E) (ea mi : Nat) {kl ke kn ci qn : Nat} {r : vw_C} {f : Nat → Option Nat} (hkl : kl < 128) (hke : ke < 128) (hkn : kn < 128) (hne : kl ≠ ke) {mo : Int32} (h1 : X kl = some (.inr (4, [.int mo, .ref (lay ke), .int (nI 10)]))) (h2 : X ke = some (.inl (cy 7, 10, rfS f))) (h3 : X kn = none) (hel : ∀ i y, i < 10 → f i = some y → ∃ kv vs, kv < 128 ∧ X kv = some (.inr (ci, vs)) ∧ lay kv = y) (hc : vwCl[ci]? = some r) (hqn : nestR[qn]? = some (.castable r.1 "java/lang/Object")) {kv : Nat} {vs : List Value} (hkv : kv < 128) (hne2 : kv ≠ ke) (hne3 : kv ≠ kl) (h4 : X kv = some (.inr (ci, vs))) (sz : Nat) : Met l yJx4a65c_add_72be8 wsJx4a65c_add_72be8 rm_aC3 (va_Pc [.ref (lay kl), .ref (lay kv), .ref (lay ke), .int (nI 10)] (hK D cy lay X ea mi sz)) (va_Qv (fun Y : GY => ∃ q, Y = (gU lay ke q, adX cy X kl ke mo q 15 10 (va_cpy f (fun _ => none) 0 0 10) (lay kv))) (gO D (gA lay X sz)) (gA lay X sz)) 1 15 (gA lay X sz) := by
  refine k_ofW (cc := cJx4a65c_add_72be8) (maxL := 4) (ret := none) (own := RJx4a65c) (Qc := fun sz => (va_Qv (fun Y : GY => ∃ q, Y = (gU lay ke q, adX cy X kl ke mo q 15 10 (va_cpy f (fun _ => none) 0 0 10) (lay kv))) (gO D (gA lay X sz)) (gA lay X sz))) (by decide) rfl (Nat.le_of_ble_eq_true rfl) rfl ?_
  intro p e0 s m args below meth c ls hC hr hlocks hname hT hZ G hl
  have hl : lv_has ls 4 [(0, .ref (lay kl)), (1, .ref (lay kv)), (2, .ref (lay ke)), (3, .int (nI 10))] := hl
  have hA : ∀ q, s.heap.size ≤ q → gA lay X s.heap.size q := fun _ h => Or.inr h
  refine lv_iload_n hC.1 hC.2.1 dJx4a65c_add_72be8_0 rfl (lv_at hl 3 rfl) ?_
  refine lv_aload_n hC.1 hC.2.1 dJx4a65c_add_72be8_1 rfl (lv_at hl 2 rfl) ?_
  obtain ⟨q0, hq0⟩ := gW_pos (lay := lay) hke h2
  refine va_alen (v := nI 10) hC.1 hC.2.1 hT.1 (gP_list G.1) q0 7 hq0 rfl rfl dJx4a65c_add_72be8_2 ?_
  refine lv_icmp_ne (tgt := 11) hC.1 hC.2.1 dJx4a65c_add_72be8_3 (by decide) (fun c1 => absurd rfl c1) (fun _ => ?_)
  refine lv_aload_n hC.1 hC.2.1 dJx4a65c_add_72be8_6 rfl (lv_at hl 0 rfl) ?_
  refine k_r (f := fun Y => Y.1 ke) G hA (k_runV (As := []) (rest := []) hC hT hZ hA G (c_gC1 l D cy lay X ea mi hkl hke hkn hne h1 h2 h3 hel hc hqn _) (cwV 0 hC.2.2.2.2 gJx4a65c_add_72be8_Jx4a65c_grow_d5877 rfl rfl rfl hdV_gr1 ⟨Nat.le_of_ble_eq_true rfl, Nat.le_of_ble_eq_true rfl⟩) (h_recv hT G hkl h1 k_AL) rfl hl.1 rfl (Nat.le_of_ble_eq_true rfl) dJx4a65c_add_72be8_7 ⟨Nat.le_of_ble_eq_true rfl, Nat.le_of_ble_eq_true rfl⟩) (fun Y H locs hY G => ?_)
  obtain ⟨q, rfl⟩ := hY
  have G : gG D (gU lay ke q) (gU (gU X ke (some (.inl (cy 7, 15, rfS (va_cpy f (fun _ => none) 0 0 10))))) kl (some (.inr (4, [.int mo, .ref q, .int (nI 10)])))) (gA lay X s.heap.size) s.heap H locs := G
  have e1 : gU lay ke q kl = lay kl := gU_ne hne
  have e2 : gU lay ke q kv = lay kv := gU_ne hne2
  have e3 : gU lay ke q ke = q := gU_eq
  refine lv_astore_n (lv' := [(2, .ref q), (0, .ref (lay kl)), (1, .ref (lay kv)), (3, .int (nI 10))]) hC.1 hC.2.1 dJx4a65c_add_72be8_10 rfl hl (by decide) (by show (2, Value.ref (gU lay ke q ke)) :: _ = _; rw [e3]; rfl) (fun ls hl => ?_)
  refine lv_aload_n hC.1 hC.2.1 dJx4a65c_add_72be8_11 rfl (lv_at hl 0 rfl) ?_
  refine lv_iload_n hC.1 hC.2.1 dJx4a65c_add_72be8_12 rfl (lv_at hl 3 rfl) ?_
  refine lv_aload_n hC.1 hC.2.1 dJx4a65c_add_72be8_13 rfl (lv_at hl 2 rfl) ?_
  refine g_astoA e3 e2 hC hT.1 G hke hkv ci ((gU_ne (Ne.symm hne)).trans gU_eq) (hT.2.1 _ (wm qn hqn)) ((gU_ne hne3).trans ((gU_ne hne2).trans h4)) hc (show vp_in (nI 10) 15 from vp_in_nI (by decide) (by decide)) dJx4a65c_add_72be8_14 (fun H locs G => ?_)
  refine lv_aload_n hC.1 hC.2.1 dJx4a65c_add_72be8_15 rfl (lv_at hl 1 rfl) ?_
  refine lv_iload_n hC.1 hC.2.1 dJx4a65c_add_72be8_16 rfl (lv_at hl 3 rfl) ?_
  refine lv_iconst (v := 1) hC.1 hC.2.1 dJx4a65c_add_72be8_17 (by decide) ?_
  refine lv_iadd hC.1 hC.2.1 dJx4a65c_add_72be8_18 ?_
  rw [nI_1, nI_clamp (n := 10) (by decide)] at *
  refine g_putA (a := lay kl) e1 hC hT.1 G hkl ((gU_ne hne).trans gU_eq) k_AL i_ad3_L 2 (by decide) (wm 1 rfl) rfl rfl rfl (by simp) dJx4a65c_add_72be8_19 (fun H locs G => ?_)
  have G : gG D (gU lay ke q) (adX cy X kl ke mo q 15 10 (va_cpy f (fun _ => none) 0 0 10) (lay kv)) (gA lay X s.heap.size) s.heap H locs := by
    unfold adX
    rw [← gU4 (a := (some (.inl (cy 7, 15, rfS (va_cpy f (fun _ => none) 0 0 10))))) (b := (some (.inr (4, [.int mo, .ref q, .int (nI 10)]))))]
    exact G
  exact g_vret (Y := (gU lay ke q, adX cy X kl ke mo q 15 10 (va_cpy f (fun _ => none) 0 0 10) (lay kv))) hC hr hlocks G ⟨q, rfl⟩ dJx4a65c_add_72be8_22
set_option maxHeartbeats 4000000 in
set_option maxRecDepth 100000 in
theorem c_adC (l : Launch) (D : va_G) (cy : Nat → ClassId) (lay : Nat → Nat) (X : Nat → Option va_E) (ea mi : Nat) {kl ke kn ci qn : Nat} {r : vw_C} {f : Nat → Option Nat} (hkl : kl < 128) (hke : ke < 128) (hkn : kn < 128) (hne : kl ≠ ke) {mo : Int32} (h1 : X kl = some (.inr (4, [.int mo, .ref (lay ke), .int (nI 10)]))) (h2 : X ke = some (.inl (cy 7, 10, rfS f))) (h3 : X kn = none) (hel : ∀ i y, i < 10 → f i = some y → ∃ kv vs, kv < 128 ∧ X kv = some (.inr (ci, vs)) ∧ lay kv = y) (hc : vwCl[ci]? = some r) (hqn : nestR[qn]? = some (.castable r.1 "java/lang/Object")) {kv : Nat} {vs : List Value} (hkv : kv < 128) (hne2 : kv ≠ ke) (hne3 : kv ≠ kl) (h4 : X kv = some (.inr (ci, vs))) (sz : Nat) : Met l yJx4a65c_add_9ea2d wsJx4a65c_add_9ea2d rm_adC (va_Pc [.ref (lay kl), .ref (lay kv)] (hK D cy lay X ea mi sz)) (va_Qi (fun x (Y : GY) => x = 1 ∧ ∃ q, Y = (gU lay ke q, adX cy X kl ke (mo + 1) q 15 10 (va_cpy f (fun _ => none) 0 0 10) (lay kv))) (gO D (gA lay X sz)) (gA lay X sz)) 1 15 (gA lay X sz) := by
  refine k_ofW (cc := cJx4a65c_add_9ea2d) (maxL := 2) (ret := some .boolean) (own := RJx4a65c) (Qc := fun sz => (va_Qi (fun x (Y : GY) => x = 1 ∧ ∃ q, Y = (gU lay ke q, adX cy X kl ke (mo + 1) q 15 10 (va_cpy f (fun _ => none) 0 0 10) (lay kv))) (gO D (gA lay X sz)) (gA lay X sz))) (by decide) rfl (Nat.le_of_ble_eq_true rfl) rfl ?_
  intro p e0 s m args below meth c ls hC hr hlocks hname hT hZ G hl
  have hl : lv_has ls 2 [(0, .ref (lay kl)), (1, .ref (lay kv))] := hl
  have hA : ∀ q, s.heap.size ≤ q → gA lay X s.heap.size q := fun _ h => Or.inr h
  have hnl : kn ≠ kl := fun z => by rw [← z, h3] at h1; cases h1
  refine lv_aload_n hC.1 hC.2.1 dJx4a65c_add_9ea2d_0 rfl (lv_at hl 0 rfl) ?_
  refine lv_dup hC.1 hC.2.1 dJx4a65c_add_9ea2d_1 rfl ?_
  refine g_getS hC hT.1 G hkl h1 k_AL i_add_L 0 (by decide) (wm 1 rfl) (wm 2 rfl) rfl dJx4a65c_add_9ea2d_2 ?_
  refine lv_iconst (v := 1) hC.1 hC.2.1 dJx4a65c_add_9ea2d_5 (by decide) ?_
  refine lv_iadd hC.1 hC.2.1 dJx4a65c_add_9ea2d_6 ?_
  refine g_putS hC hT.1 G hkl h1 k_AL i_add_L 0 (by decide) (wm 1 rfl) (wm 2 rfl) rfl rfl rfl (by simp) dJx4a65c_add_9ea2d_7 (fun H locs G => ?_)
  have G : gG D lay (gU X kl (some (.inr (4, [.int (mo + 1), .ref (lay ke), .int (nI 10)])))) (gA lay X s.heap.size) s.heap H locs := G
  refine lv_aload_n hC.1 hC.2.1 dJx4a65c_add_9ea2d_10 rfl (lv_at hl 0 rfl) ?_
  refine lv_aload_n hC.1 hC.2.1 dJx4a65c_add_9ea2d_11 rfl (lv_at hl 1 rfl) ?_
  refine lv_aload_n hC.1 hC.2.1 dJx4a65c_add_9ea2d_12 rfl (lv_at hl 0 rfl) ?_
  refine g_get hC hT.1 G hkl gU_eq k_AL i_add_L 1 (by decide) (wm 3 rfl) rfl dJx4a65c_add_9ea2d_13 ?_
  refine lv_aload_n hC.1 hC.2.1 dJx4a65c_add_9ea2d_16 rfl (lv_at hl 0 rfl) ?_
  refine g_get hC hT.1 G hkl gU_eq k_AL i_add_L 2 (by decide) (wm 4 rfl) rfl dJx4a65c_add_9ea2d_17 ?_
  have hel' : ∀ i y, i < 10 → f i = some y → ∃ kv vs, kv < 128 ∧ (gU X kl (some (.inr (4, [.int (mo + 1), .ref (lay ke), .int (nI 10)])))) kv = some (.inr (ci, vs)) ∧ lay kv = y := fun i y hi hy => by
    obtain ⟨k1, vs1, a1, a2, a3⟩ := hel i y hi hy
    by_cases hk : k1 = kl
    · subst hk
      rw [h1] at a2
      cases a2
      exact ⟨k1, _, a1, gU_eq, a3⟩
    · exact ⟨k1, vs1, a1, (gU_ne hk).trans a2, a3⟩
  refine g_v G hA (k_runV (As := [.ref (lay kv), .ref (lay ke), .int (nI 10)]) (rest := []) hC hT hZ hA G (c_aC3 l D cy lay (gU X kl (some (.inr (4, [.int (mo + 1), .ref (lay ke), .int (nI 10)])))) ea mi hkl hke hkn hne gU_eq ((gU_ne (Ne.symm hne)).trans h2) ((gU_ne hnl).trans h3) hel' hc hqn hkv hne2 hne3 ((gU_ne hne3).trans h4) _) (cwV 3 hC.2.2.2.2 gJx4a65c_add_9ea2d_Jx4a65c_add_72be8 rfl rfl rfl hdV_ad3 ⟨Nat.le_of_ble_eq_true rfl, Nat.le_of_ble_eq_true rfl⟩) (h_recv hT G hkl gU_eq k_AL) rfl hl.1 rfl (Nat.le_of_ble_eq_true rfl) dJx4a65c_add_9ea2d_20 ⟨Nat.le_of_ble_eq_true rfl, Nat.le_of_ble_eq_true rfl⟩) (fun Y H locs hY G => ?_)
  obtain ⟨q, rfl⟩ := hY
  have G : gG D (gU lay ke q) (adX cy X kl ke (mo + 1) q 15 10 (va_cpy f (fun _ => none) 0 0 10) (lay kv)) (gA lay X s.heap.size) s.heap H locs := by
    have e : adX cy (gU X kl (some (.inr (4, [.int (mo + 1), .ref (lay ke), .int (nI 10)])))) kl ke (mo + 1) q 15 10 (va_cpy f (fun _ => none) 0 0 10) (lay kv) = adX cy X kl ke (mo + 1) q 15 10 (va_cpy f (fun _ => none) 0 0 10) (lay kv) := by
      unfold adX
      exact gU3
    rw [← e]
    exact G
  refine lv_iconst (v := 1) hC.1 hC.2.1 dJx4a65c_add_9ea2d_23 (by decide) ?_
  exact W.zret (v := 1) hC.1 hC.2.1 hr rfl (fun t ht hW => ⟨⟨1, (gU lay ke q, adX cy X kl ke (mo + 1) q 15 10 (va_cpy f (fun _ => none) 0 0 10) (lay kv)), rfl, ⟨rfl, q, rfl⟩, by rw [ht]; exact G.1, G.2.1⟩, G.2.2.F ht⟩) G.2.2.2.2 dJx4a65c_add_9ea2d_24 hlocks
end
section
/-! THE REFERENCE: new objects; methods that make the world grow -/
section K3
variable {p : Program} {l : Launch} {e : Env} {R : Room} {s : State} {m : MethodId} {args : Array Value} {below : List Frame} {meth : Method} {c : Code} {H : Heap} {locs : List Loc} {cells slots : Nat} {Q : State → Prop}
variable {cc bytes : ByteArray} {pc nL maxL mc ms n index ea mi : Nat} {ls : Array Slot} {ST rest As : List Value} {D : va_G} {cy : Nat → ClassId} {lay : Nat → Nat} {X : Nat → Option va_E} {A : Nat → Prop} {H0 : Heap} {Ts ws : List Cond} {own Cn host : String} {y : MethodName} {ret : Option FieldType} {rm : Room} {b : Addr} {tys : List (ClassId × FieldType)} {Γ : RG} {σ : MS}
variable {Qc : Array Value → State → Outcome → State → Prop} {free : Addr → Prop}
theorem k_newz (hC : CallFix p m c cc nL s args Ts own) (hK : va_K D vwCl (fdT cy) s) (G : gG D lay X A H0 H locs) (hA : ∀ q, H0.size ≤ q → A q) {k : Nat} (hX : X k = none) (harr : Cond.arrayClass .boolean ∈ Ts) {v : Int32} {N : Nat} (hn : ¬ v < 0) (hN : v.toNatClampNeg = N) (hb : N * componentBytes .boolean ≤ 536870912) (hcells : cells + 1 ≤ R.cells) (hslots : slots + N ≤ R.slots) (hdg : decode cc pc = .ok (.newarray .boolean, 2))
    (kk : ∀ (q : Nat) (H1 : Heap), gG D (gU lay k q) (gU X k (some (.inl (cy 1, N, .inl (fun _ => 0))))) A H0 H1 locs → W p l e R s m args below meth c H1 locs (cells + 1) (slots + N) Q (F0 m (pc + 2) ls (.ref q :: rest))) : W p l e R s m args below meth c H locs cells slots Q (F0 m pc ls (.int v :: rest)) :=
  va_newa (atype := .boolean) (ty := .boolean) hC.1 hC.2.1 (hC.2.2.2.2 _ harr) rfl hK (gP_list G.1) (gI_list G.2.1) G.2.2 hA (a0 := (N, .inl (fun _ => 0))) (fun _ => rfl) hn hN hb hcells hslots hdg (fun q cA H1 hK' hP hD hS => by
    have h1 := (hK'.2 (fdT cy).length (cA, .boolean) (by rw [List.getElem?_append_right (Nat.le_refl _), Nat.sub_self]; rfl)).2
    have h2 := (hK.2 1 (cy 1, .boolean) rfl).2
    have hc : cA = cy 1 := Option.some.inj (Eq.trans (Eq.symm h1) h2)
    subst hc
    exact kk q H1 ⟨gP_new hX hP, gI_new G.2.1 hX hD, hS⟩)
theorem h_runIN (hC : CallFix p m c cc nL s args Ts own) (hT : va_K D vwCl (fdT cy) s ∧ rN s) (G : gG D lay X A H0 H locs) (hM : Met l y ws rm (va_Pc (.ref b :: As) (hI D cy lay X H.size)) Qc mc ms free) (cw : va_CN R s args own index y host bytes maxL none ws rm mc ms n ∧ y.name = "<init>" ∧ (Cond.instanceMethod y).before args s = true)
    (hn : As.length = n) (hls : ls.size = nL) (hst : ST = As.reverse ++ .ref b :: rest) (hW : (rest.map fun v => v.category).sum ≤ 8) (hdg : decode cc pc = .ok (.invokespecial index, 3)) (hf : cells + mc ≤ R.cells ∧ slots + ms ≤ R.slots) :
    va_Run p l e R s m args below meth c H locs cells slots mc ms (F0 m pc ls ST) rest (Qc (.ref b :: As).toArray) free :=
  va_runIN hC hM cw ⟨hI_blind, fun U hU hW => ⟨rfl, hI_next hT G hU hW⟩⟩ rfl hn hls hst (lv_room hW) hdg hf
theorem g_putNA {C : String} {T : u_T} {N ci index a : Nat} {ty : Nat → FieldType} {k : Nat} (ha : lay k = a) (hC : CallFix p m c cc nL s args Ts own) (hK : va_K D vwCl tys s) (G : gG D lay X A H0 H locs) (hk : k < 128) {fs : List Value} (he : X k = some (.inr (ci, fs))) (hcl : agCl C T N ci ty) (hin : ∀ w ∈ u_ws C T N, w ∈ Ts) (j : Nat) (hj : j < N) (hl : (Cond.fieldLinkNest own index (T j).1 (T j).2.1 (T j).2.2.1 host).before args s = true) (hfin : (T j).2.2.2 = false) {v : Value} (hn : narrow (ty j) v = v) (hfit : fits (ty j) v = true) (hjl : j < fs.length) (hdg : decode cc pc = .ok (.putfield index, 3))
    (kk : ∀ (H1 : Heap) (locs1 : List Loc), gG D lay (gU X k (some (.inr (ci, fs.set j v)))) A H0 H1 locs1 → W p l e R s m args below meth c H1 locs1 cells slots Q (F0 m (pc + 3) ls rest)) : W p l e R s m args below meth c H locs cells slots Q (F0 m pc ls (v :: .ref a :: rest)) := by
  subst ha
  exact g_putN hC hK G hk he hcl hin j hj hl hfin hn hfit hjl hdg kk
/-- a world that grew: where its cells lie, how many there are, the numbers -/
abbrev RY : Type := (Nat → Nat) × RG × MS
def rOn (D : va_G) (cy : Nat → ClassId) (A : Nat → Prop) (Y : RY) (t : State) : Prop := gP D Y.1 (rX cy Y.1 Y.2.1 tn Y.2.2) t.heap ∧ gI A Y.1 (rX cy Y.1 Y.2.1 tn Y.2.2) ∧ rS D cy Y.2.1 (rA cy Y.1 Y.2.1 t.heap.size) t t.heap ∧ rB Y.2.1
def rIK (D : va_G) (cy : Nat → ClassId) (lay : Nat → Nat) (Γ : RG) (σ : MS) (mi sz : Nat) (U : State) : Prop := rI D cy lay Γ σ sz U ∧ hZs D cy Γ.2.2.2.1 mi (rA cy lay Γ sz) U
theorem rIK_blind {mi sz : Nat} : FrameBlind (va_Pc As (rIK D cy lay Γ σ mi sz)) := by
  intro a U g mk h
  obtain ⟨h0, h1, k1, k2, k3, k4, k5, k6⟩ := h
  have := rI_blind (D := D) (cy := cy) (lay := lay) (Γ := Γ) (σ := σ) (sz := sz) (As := As) a U g mk ⟨h0, h1⟩
  exact ⟨this.1, this.2, va_Z.moved (u := U) (U := U.calling g mk a) (Vm.Alike.refl U.vm) k1, va_T.moved (u := U) (U := U.calling g mk a) (Vm.Alike.refl U.vm) k2, k3, va_AO.moved (u := U) (U := U.calling g mk a) (Vm.Alike.refl U.vm) k4, va_Mi.moved (u := U) (U := U.calling g mk a) (Vm.Alike.refl U.vm) k5, va_Dc.moved (u := U) (U := U.calling g mk a) (Vm.Alike.refl U.vm) k6⟩
theorem rk_ofW {ws' : List Cond} {maxL mi : Nat} {sz : Nat} {Qc : Nat → Array Value → State → Outcome → State → Prop} (hy : plainName y.cls = true) (hw : ws = Cond.code y cc maxL ret :: ws') (hnl : (lg_sl As).length ≤ maxL) (hoo : y.cls = own)
    (body : ∀ (p : Program) (e : Env) (s : State) (m : MethodId) (args : Array Value) (below : List Frame) (meth : Method) (c : Code) (ls : Array Slot), CallFix p m c cc maxL s args ws own → meth.sig.returnType = ret → meth.locks = false → rT D cy lay Γ s → hZs D cy Γ.2.2.2.1 mi (rA cy lay Γ s.heap.size) s → rG D cy lay Γ tn σ (rA cy lay Γ s.heap.size) s.heap s.heap [] → lv_has ls maxL (lv_args 0 As) →
      W p l e rm s m args below meth c s.heap [] 0 0 (MQ below (Qc s.heap.size) args s mc ms (rA cy lay Γ s.heap.size)) (F0 m 0 ls [])) : Met l y ws rm (va_Pc As (rIK D cy lay Γ σ mi sz)) (Qc sz) mc ms (rA cy lay Γ sz) := by
  refine Met.ofW (cc := cc) (maxL := maxL) (ret := ret) hy hw ?_
  intro p e s m args below meth c s₁ B hml hv
  obtain ⟨rfl, ⟨hsz, hT, hP, hD⟩, hZ⟩ := hv
  subst hsz
  have hl := lv_entry As (n := maxL) hnl
  rw [lg_entry_eq]
  have hown : s.vm.findClass y.cls = some m.cls := findClass_of_methodNamed B.named
  rw [hoo] at hown
  exact body p e s m As.toArray below meth c _ ⟨B.exec, B.bytes, hml, hown, atoms_spec (ws := ws) B.pre⟩ B.returns B.notSynchronized hT hZ ⟨hP, rI_of hD, va_S.rf⟩ hl
/-- the empty row and the Integers stay apart -/
theorem rS_grow {lay' : Nat → Nat} {Γ' : RG} {σ' : MS} (h : rS D cy Γ (rA cy lay Γ s.heap.size) s s.heap) (G : gG D lay' (rX cy lay' Γ' tn σ') (rA cy lay Γ s.heap.size) s.heap H locs) (h1 : Γ'.2.1 = Γ.2.1) (h2 : Γ'.2.2.2 = Γ.2.2.2) : rS D cy Γ' (rA cy lay' Γ' H.size) s H := by
  have hk := rS_kept (B := rA cy lay' Γ' H.size) h G.2.2.2.1 (fun q hq hB => by
    rcases hB with ⟨k, hk, hX, rfl⟩ | hB
    · rw [r_some (lay' := lay') (tm' := tn) (σ' := σ') hk] at hX
      cases hx : rX cy lay' Γ' tn σ' k with
      | none => rw [hx] at hX; cases hX
      | some e => exact G.2.1.2 k e (by omega) hx
    · exact absurd (Nat.le_trans G.2.2.1 hB) (by omega))
  unfold rS at hk ⊢
  rw [h1, h2]
  exact hk
theorem rk_iret {post : Int32 → RY → Prop} {v : Int32} {Y : RY} {locs : List Loc} (hC : CallFix p m c cc nL s args Ts own) (hr : meth.sig.returnType = some .int) (hlocks : meth.locks = false) (G : gG D Y.1 (rX cy Y.1 Y.2.1 tn Y.2.2) (rA cy lay Γ s.heap.size) s.heap H locs) (hS : rS D cy Y.2.1 (rA cy Y.1 Y.2.1 H.size) s H) (hB : rB Y.2.1) (h : post v Y) (hdg : decode cc pc = .ok (.ireturn, 1)) :
    W p l e R s m args below meth c H locs cells slots (MQ below (va_Qi post (rOn D cy (rA cy lay Γ s.heap.size)) (rA cy lay Γ s.heap.size)) args s cells slots (rA cy lay Γ s.heap.size)) (F0 m pc ls [.int v]) :=
  W.iret hC.1 hC.2.1 hr (fun t ht hW => ⟨⟨v, Y, rfl, h, by rw [ht]; exact G.1, G.2.1, by rw [ht]; exact rS_moved hW.alike hS, hB⟩, G.2.2.F ht⟩) G.2.2.2.2 hdg hlocks
/-- .. and the model is where it was -/
def rOz (z0 : Nat) (D : va_G) (cy : Nat → ClassId) (A : Nat → Prop) (Y : RY) (t : State) : Prop := rOn D cy A Y t ∧ Y.1 0 = z0
theorem rk_iretz {post : Int32 → RY → Prop} {v : Int32} {Y : RY} {locs : List Loc} {z0 : Nat} (hz : Y.1 0 = z0) (hC : CallFix p m c cc nL s args Ts own) (hr : meth.sig.returnType = some .int) (hlocks : meth.locks = false) (G : gG D Y.1 (rX cy Y.1 Y.2.1 tn Y.2.2) (rA cy lay Γ s.heap.size) s.heap H locs) (hS : rS D cy Y.2.1 (rA cy Y.1 Y.2.1 H.size) s H) (hB : rB Y.2.1) (h : post v Y) (hdg : decode cc pc = .ok (.ireturn, 1)) :
    W p l e R s m args below meth c H locs cells slots (MQ below (va_Qi post (rOz z0 D cy (rA cy lay Γ s.heap.size)) (rA cy lay Γ s.heap.size)) args s cells slots (rA cy lay Γ s.heap.size)) (F0 m pc ls [.int v]) :=
  W.iret hC.1 hC.2.1 hr (fun t ht hW => ⟨⟨v, Y, rfl, h, ⟨by rw [ht]; exact G.1, G.2.1, by rw [ht]; exact rS_moved hW.alike hS, hB⟩, hz⟩, G.2.2.F ht⟩) G.2.2.2.2 hdg hlocks
end K3
abbrev rm_X9_init : Room := { frames := 1, cells := 1, slots := 366, locals := 16 }
abbrev rm_X10_init : Room := { frames := 1, cells := 0, slots := 0, locals := 16 }
abbrev rm_gsz : Room := { frames := 0, cells := 0, slots := 0, locals := 0 }
theorem i_X9_init_X9 : ∀ w ∈ wsX90, w ∈ wsX9_init := fun _ h => List.mem_cons_of_mem _ (List.mem_append_right _ h)
theorem hdI_X9 : yX9_init.cls ≠ "java/lang/invoke/MethodHandle" ∧ yX9_init.cls ≠ "java/lang/invoke/VarHandle" ∧ (parseMethodDescriptor yX9_init.desc).map (fun d => d.parameters.length) = some 0 := by decide +kernel
theorem hdI_X10 : yX10_init.cls ≠ "java/lang/invoke/MethodHandle" ∧ yX10_init.cls ≠ "java/lang/invoke/VarHandle" ∧ (parseMethodDescriptor yX10_init.desc).map (fun d => d.parameters.length) = some 0 := by decide +kernel
abbrev offE (cy : Nat → ClassId) : va_E := .inl (cy 1, 366, .inl fun _ => 0)
abbrev plE (a b c d : Int32) (v : Value) : va_E := .inr (14, [.int a, .int b, .int c, .int d, .int 0, .int 0, v])
set_option maxHeartbeats 4000000 in
set_option maxRecDepth 100000 in
theorem c_X9_init (l : Launch) (D : va_G) (cy : Nat → ClassId) (lay : Nat → Nat) (X : Nat → Option va_E) {k ko : Nat} (hk : k < 128) (hko : ko < 128) (hne : k ≠ ko) (hX : X k = some (plE 0 0 0 0 .null)) (hX2 : X ko = none) (sz : Nat) : Met l yX9_init wsX9_init rm_X9_init (va_Pc [.ref (lay k)] (hI D cy lay X sz)) (va_Qv (fun Y : GY => ∃ q, Y = (gU lay ko q, gU (gU X ko (some (offE cy))) k (some (plE 0 0 0 0 (.ref q))))) (gO D (gA lay X sz)) (gA lay X sz)) 1 366 (gA lay X sz) := by
  refine h_ofW (cc := cX9_init) (maxL := 1) (ret := none) (own := RX9) (Qc := fun sz => (va_Qv (fun Y : GY => ∃ q, Y = (gU lay ko q, gU (gU X ko (some (offE cy))) k (some (plE 0 0 0 0 (.ref q))))) (gO D (gA lay X sz)) (gA lay X sz))) (by decide) rfl (Nat.le_of_ble_eq_true rfl) rfl ?_
  intro p e0 s m args below meth c ls hC hr hlocks hname hT G hl
  have hl : lv_has ls 1 [(0, .ref (lay k))] := hl
  have hA : ∀ q, s.heap.size ≤ q → gA lay X s.heap.size q := fun _ h => Or.inr h
  refine lv_aload_n hC.1 hC.2.1 dX9_init_0 rfl (lv_at hl 0 rfl) ?_
  refine W.objInit hC.1 hC.2.1 hC.2.2.2.1 (hC.2.2.2.2 _ (wm 1 rfl)) (hC.2.2.2.2 _ (wm 2 rfl)) (hC.2.2.2.2 _ (wm 3 rfl)) rfl (by rw [hC.2.2.1]; exact hl.1) rfl dX9_init_1 (Nat.le_of_ble_eq_true rfl) (Nat.le_of_ble_eq_true rfl) ?_
  refine W.eq (g2 := F0 m 4 ls []) rfl ?_
  refine lv_aload_n hC.1 hC.2.1 dX9_init_4 rfl (lv_at hl 0 rfl) ?_
  refine lv_sipush (v := 366) hC.1 hC.2.1 dX9_init_5 (by decide) ?_
  refine k_newz (k := ko) (N := 366) hC hT.1 G hA hX2 (wm 4 rfl) (by decide) (by decide) (by decide) (Nat.le_of_ble_eq_true rfl) (Nat.le_of_ble_eq_true rfl) dX9_init_8 (fun q H G => ?_)
  have e1 : gU lay ko q k = lay k := gU_ne hne
  refine g_putFA (a := lay k) e1 hC hT.1 G hk ((gU_ne hne).trans hX) k_X9 i_X9_init_X9 6 (by decide) (wm 5 rfl) rfl hname rfl rfl rfl (by simp) dX9_init_10 (fun H locs G => ?_)
  have G : gG D (gU lay ko q) (gU (gU X ko (some (offE cy))) k (some (plE 0 0 0 0 (.ref q)))) (gA lay X s.heap.size) s.heap H locs := G
  exact g_vret (Y := (gU lay ko q, gU (gU X ko (some (offE cy))) k (some (plE 0 0 0 0 (.ref q))))) hC hr hlocks G ⟨q, rfl⟩ dX9_init_13
set_option maxHeartbeats 4000000 in
set_option maxRecDepth 100000 in
theorem c_X10_init (l : Launch) (D : va_G) (cy : Nat → ClassId) (lay : Nat → Nat) (X : Nat → Option va_E) {k : Nat} (sz : Nat) : Met l yX10_init wsX10_init rm_X10_init (va_Pc [.ref (lay k)] (hI D cy lay X sz)) (va_Qv (fun Y : GY => Y = (lay, X)) (gO D (gA lay X sz)) (gA lay X sz)) 0 0 (gA lay X sz) := by
  refine h_ofW (cc := cX10_init) (maxL := 1) (ret := none) (own := RX10) (Qc := fun sz => (va_Qv (fun Y : GY => Y = (lay, X)) (gO D (gA lay X sz)) (gA lay X sz))) (by decide) rfl (Nat.le_of_ble_eq_true rfl) rfl ?_
  intro p e0 s m args below meth c ls hC hr hlocks hname hT G hl
  have hl : lv_has ls 1 [(0, .ref (lay k))] := hl
  refine lv_aload_n hC.1 hC.2.1 dX10_init_0 rfl (lv_at hl 0 rfl) ?_
  refine W.objInit hC.1 hC.2.1 hC.2.2.2.1 (hC.2.2.2.2 _ (wm 1 rfl)) (hC.2.2.2.2 _ (wm 2 rfl)) (hC.2.2.2.2 _ (wm 3 rfl)) rfl (by rw [hC.2.2.1]; exact hl.1) rfl dX10_init_1 (Nat.le_of_ble_eq_true rfl) (Nat.le_of_ble_eq_true rfl) ?_
  refine W.eq (g2 := F0 m 4 ls []) rfl ?_
  exact g_vret (Y := (lay, X)) hC hr hlocks G rfl dX10_init_4
set_option maxHeartbeats 4000000 in
set_option maxRecDepth 100000 in
theorem c_gsz (l : Launch) (D : va_G) (cy : Nat → ClassId) (lay : Nat → Nat) (X : Nat → Option va_E) {k : Nat} (hk : k < 128) {mo n : Int32} {o : Value} (hX : X k = some (.inr (4, [.int mo, o, .int n]))) (sz : Nat) : Met l yJx4a65c_size_8abf5 wsJx4a65c_size_8abf5 rm_gsz (va_Pc [.ref (lay k)] (hI D cy lay X sz)) (va_Qi (fun x (Y : GY) => x = n ∧ Y = (lay, X)) (gO D (gA lay X sz)) (gA lay X sz)) 0 0 (gA lay X sz) := by
  refine h_ofW (cc := cJx4a65c_size_8abf5) (maxL := 1) (ret := some .int) (own := RJx4a65c) (Qc := fun sz => (va_Qi (fun x (Y : GY) => x = n ∧ Y = (lay, X)) (gO D (gA lay X sz)) (gA lay X sz))) (by decide) rfl (Nat.le_of_ble_eq_true rfl) rfl ?_
  intro p e0 s m args below meth c ls hC hr hlocks hname hT G hl
  have hl : lv_has ls 1 [(0, .ref (lay k))] := hl
  refine lv_aload_n hC.1 hC.2.1 dJx4a65c_size_8abf5_0 rfl (lv_at hl 0 rfl) ?_
  refine g_get hC hT.1 G hk hX k_AL (fun _ h => List.mem_cons_of_mem _ (List.mem_append_right _ h)) 2 (by decide) (wm 1 rfl) rfl dJx4a65c_size_8abf5_1 ?_
  exact W.iret (v := n) hC.1 hC.2.1 hr (fun t ht hW => ⟨⟨n, (lay, X), rfl, ⟨rfl, rfl⟩, by rw [ht]; exact G.1, G.2.1⟩, G.2.2.F ht⟩) G.2.2.2.2 dJx4a65c_size_8abf5_4 hlocks
end
section
/-! THE REFERENCE: player -/
def rpS (σ : MS) (P : Nat) (a b c d : Int32) : MS := fun k j => if k = 1 then (if j = 0 then σ 1 0 + 1 else if j = 2 then nI (P + 1) else σ 1 j) else if k = 13 + P then (if j = 0 then a else if j = 1 then b else if j = 2 then c else if j = 3 then d else 0) else if k = 23 + P then 0 else σ k j
section ADDP
variable {cy : Nat → ClassId} {lay lay' : Nat → Nat} {Γ : RG} {σ : MS} {a b c d : Int32}
theorem r_no_pl (h : Γ.1 < 10) : rX cy lay Γ tn σ (13 + Γ.1) = none := by
  unfold rX
  rw [if_neg (by omega), if_neg (by omega), if_neg (by omega), if_neg (by omega), if_neg (by omega), if_neg (by omega), if_neg (by omega), if_neg (by omega), if_neg (by omega), if_pos (by omega), if_neg (by omega)]
theorem r_no_of (h : Γ.1 < 10) : rX cy lay Γ tn σ (23 + Γ.1) = none := by
  unfold rX
  rw [if_neg (by omega), if_neg (by omega), if_neg (by omega), if_neg (by omega), if_neg (by omega), if_neg (by omega), if_neg (by omega), if_neg (by omega), if_neg (by omega), if_neg (by omega), if_pos (by omega), if_neg (by omega)]
theorem r_no_ep (h : Γ.1 = 0) : rX cy lay Γ tn σ 4 = none := if_pos h
theorem rpS_ne {k : Nat} {P : Nat} (h1 : k ≠ 1) (h2 : k ≠ 13 + P) (h3 : k ≠ 23 + P) : rpS σ P a b c d k = σ k := by
  funext j
  unfold rpS
  rw [if_neg h1, if_neg h2, if_neg h3]
theorem r_addp (hP : Γ.1 < 10) (hl : ∀ k, k ≠ 4 → k ≠ 13 + Γ.1 → k ≠ 23 + Γ.1 → lay' k = lay k) {o q2 : Nat} {f' : Nat → Option Nat} (h4 : lay' 4 = o) (h5 : lay' (23 + Γ.1) = q2) (hf : f' = fun i => if i < Γ.1 + 1 then some (lay' (13 + i)) else none) (k : Nat) :
    gU (gU (gU (gU (rX cy lay Γ tn σ) (23 + Γ.1) (some (offE cy))) (13 + Γ.1) (some (plE a b c d (.ref q2)))) 4 (some (.inl (cy 7, 10, rfS f')))) 1 (some (.inr (4, [.int (σ 1 0 + 1), .ref o, .int (nI (Γ.1 + 1))]))) k = rX cy lay' (Γ.1 + 1, Γ.2) tn (rpS σ Γ.1 a b c d) k := by
  by_cases c1 : k = 1
  · subst c1
    rw [gU_eq, r_lp]
    simp [rpS, h4]
  rw [gU_ne c1]
  by_cases c4 : k = 4
  · subst c4
    rw [gU_eq, r_ep (Nat.succ_ne_zero _), hf]
  rw [gU_ne c4]
  by_cases cp : k = 13 + Γ.1
  · subst cp
    rw [gU_eq, r_pl ⟨hP, Nat.lt_succ_self _⟩, h5]
    have e : ∀ j, rpS σ Γ.1 a b c d (13 + Γ.1) j = if j = 0 then a else if j = 1 then b else if j = 2 then c else if j = 3 then d else 0 := fun j => by
      unfold rpS
      rw [if_neg (by omega), if_pos rfl]
    show some (plE a b c d (.ref q2)) = some (.inr (14, [.int (rpS σ Γ.1 a b c d (13 + Γ.1) 0), .int (rpS σ Γ.1 a b c d (13 + Γ.1) 1), .int (rpS σ Γ.1 a b c d (13 + Γ.1) 2), .int (rpS σ Γ.1 a b c d (13 + Γ.1) 3), .int (rpS σ Γ.1 a b c d (13 + Γ.1) 4), .int (rpS σ Γ.1 a b c d (13 + Γ.1) 5), .ref q2]))
    rw [e, e, e, e, e, e]
    rfl
  rw [gU_ne cp]
  by_cases co : k = 23 + Γ.1
  · subst co
    rw [gU_eq, r_of ⟨hP, Nat.lt_succ_self _⟩]
    have e : rpS σ Γ.1 a b c d (23 + Γ.1) = fun _ => 0 := by
      funext j
      unfold rpS
      rw [if_neg (by omega), if_neg (by omega), if_pos rfl]
    rw [e]
  rw [gU_ne co]
  have hs : rpS σ Γ.1 a b c d k = σ k := rpS_ne c1 cp co
  unfold rX
  rw [hs]
  by_cases c0 : k = 0
  · subst c0
    rw [if_pos rfl, if_pos rfl]
    have hm : Lmo lay' (rpS σ Γ.1 a b c d 0) = Lmo lay (σ 0) := by
      rw [rpS_ne (by omega) (by omega) (by omega)]
      show [_, _, _, _, _, _, _, _, _, _, _, _, _] = _
      rw [hl 1 (by omega) (by omega) (by omega), hl 2 (by omega) (by omega) (by omega), hl 3 (by omega) (by omega) (by omega), hl 7 (by omega) (by omega) (by omega), hl 8 (by omega) (by omega) (by omega), hl 9 (by omega) (by omega) (by omega), hl 10 (by omega) (by omega) (by omega), hl 11 (by omega) (by omega) (by omega), hl 12 (by omega) (by omega) (by omega)]
    rw [hm]
  rw [if_neg c0, if_neg c0, if_neg c1, if_neg c1]
  by_cases c2 : k = 2
  · subst c2
    rw [if_pos rfl, if_pos rfl, rpS_ne (by omega) (by omega) (by omega)]
    unfold rL
    rw [hl 5 (by omega) (by omega) (by omega)]
  rw [if_neg c2, if_neg c2]
  by_cases c3 : k = 3
  · subst c3
    rw [if_pos rfl, if_pos rfl, rpS_ne (by omega) (by omega) (by omega)]
    unfold rL
    rw [hl 6 (by omega) (by omega) (by omega)]
  rw [if_neg c3, if_neg c3, if_neg c4, if_neg c4]
  by_cases c5 : k = 5
  · rw [if_pos c5, if_pos c5]
  rw [if_neg c5, if_neg c5]
  by_cases c6 : k = 6
  · rw [if_pos c6, if_pos c6]
    have e : (fun i => if i < Γ.2.2.1 then some (lay' (33 + i)) else none) = fun i => if i < Γ.2.2.1 then some (lay (33 + i)) else none := by
      funext i
      rw [hl (33 + i) (by omega) (by omega) (by omega)]
    show _ = if Γ.2.2.1 = 0 then none else some (Sum.inl (cy 7, if Γ.2.2.1 ≤ 10 then 10 else 15, rfS fun i => if i < Γ.2.2.1 then some (lay' (33 + i)) else none))
    rw [e]
  rw [if_neg c6, if_neg c6]
  by_cases c7 : k < 11
  · rw [if_pos c7, if_pos c7]
  rw [if_neg c7, if_neg c7]
  by_cases c8 : k < 13
  · rw [if_pos c8, if_pos c8]
  rw [if_neg c8, if_neg c8]
  by_cases c9 : k < 23
  · rw [if_pos c9, if_pos c9]
    by_cases z : k - 13 < Γ.1
    · rw [if_pos z, if_pos (show k - 13 < Γ.1 + 1 by omega), hl (23 + (k - 13)) (by omega) (by omega) (by omega)]
    · rw [if_neg z, if_neg (show ¬ k - 13 < Γ.1 + 1 by omega)]
  rw [if_neg c9, if_neg c9]
  by_cases c10 : k < 33
  · rw [if_pos c10, if_pos c10]
    by_cases z : k - 23 < Γ.1
    · rw [if_pos z, if_pos (show k - 23 < Γ.1 + 1 by omega)]
    · rw [if_neg z, if_neg (show ¬ k - 23 < Γ.1 + 1 by omega)]
  rw [if_neg c10, if_neg c10]
  by_cases c11 : k < 47
  · rw [if_pos c11, if_pos c11]
  rw [if_neg c11, if_neg c11]
  by_cases c12 : k < 64
  · rw [if_pos c12, if_pos c12]
  rw [if_neg c12, if_neg c12]
  rfl
end ADDP
theorem df_X9 : ∀ j, j < 7 → defaultValue (tyX9 j) = vp_V [.int 0, .int 0, .int 0, .int 0, .int 0, .int 0, .null] j := by decide
abbrev rm_X11_player : Room := { frames := 5, cells := 3, slots := 383, locals := 220 }
theorem i_X11_player_X11 : ∀ w ∈ wsX110, w ∈ wsX11_player := fun _ h => List.mem_cons_of_mem _ (List.mem_append_left _ (List.mem_append_left _ (List.mem_append_right _ h)))
theorem i_X11_player_X9 : ∀ w ∈ wsX90, w ∈ wsX11_player := fun _ h => List.mem_cons_of_mem _ (List.mem_append_left _ (List.mem_append_right _ h))
def w_X11_player (lay : Nat → Nat) (Γ : RG) (post : Int32 → RY → Prop) (σ : MS) (a1 a2 a3 a4 : Int32) : Prop :=
  w_X11_is Γ (fun r σ1 => (r = 0 → w_X11_refuse Γ (fun x σ9 => post x (lay, Γ, σ9)) σ1 1) ∧ (¬ r = 0 → w_X11_is Γ (fun r σ2 => (r = 0 → w_X11_refuse Γ (fun x σ9 => post x (lay, Γ, σ9)) σ2 2) ∧ (¬ r = 0 → w_X11_areSongs Γ (fun r σ3 => (r = 0 → w_X11_refuse Γ (fun x σ9 => post x (lay, Γ, σ9)) σ3 2) ∧ (¬ r = 0 → w_X11_is Γ (fun r σ4 => (r = 0 → w_X11_refuse Γ (fun x σ9 => post x (lay, Γ, σ9)) σ4 2) ∧ (¬ r = 0 → w_lp_Jx4a65c_size_8abf5 Γ (fun r σ5 => (r = 10 → w_X11_refuse Γ (fun x σ9 => post x (lay, Γ, σ9)) σ5 3) ∧ (¬ r = 10 → Γ.1 < 10 ∧ σ5 1 2 = nI Γ.1 ∧ ∀ lay', post (nI Γ.1) (lay', (Γ.1 + 1, Γ.2), rpS σ5 Γ.1 a1 a2 a3 a4))) σ4)) σ3 a4 1 99)) σ2 a2)) σ1 a1 1 63)) (up2 σ 0 0 0) a3 0 5
set_option maxHeartbeats 4000000 in
set_option maxRecDepth 100000 in
theorem c_X11_player (l : Launch) (D : va_G) (cy : Nat → ClassId) (lay : Nat → Nat) (Γ : RG) (mi : Nat) {z9 : Nat} (hz9 : lay 0 = z9) {σ : MS} {post : Int32 → RY → Prop} {a1 a2 a3 a4 : Int32} (h : w_X11_player lay Γ post σ a1 a2 a3 a4) (sz : Nat) : Met l yX11_player wsX11_player rm_X11_player (va_Pc [.ref (lay 0), .int a1, .int a2, .int a3, .int a4] (rIK D cy lay Γ σ mi sz)) (va_Qi post (rOz z9 D cy (rA cy lay Γ sz)) (rA cy lay Γ sz)) 3 383 (rA cy lay Γ sz) := by
  refine rk_ofW (cc := cX11_player) (maxL := 6) (ret := some .int) (own := RX11) (Qc := fun sz => va_Qi post (rOz z9 D cy (rA cy lay Γ sz)) (rA cy lay Γ sz)) (by decide) rfl (Nat.le_of_ble_eq_true rfl) rfl ?_
  intro p e0 s m args below meth c ls hC hr hlocks hT hZ G hl
  unfold w_X11_player at h
  have hl : lv_has ls 6 [(0, .ref (lay 0)), (1, .int a1), (2, .int a2), (3, .int a3), (4, .int a4)] := hl
  refine lv_aload_n hC.1 hC.2.1 dX11_player_0 rfl (lv_at hl 0 rfl) ?_
  refine lv_iconst (v := 0) hC.1 hC.2.1 dX11_player_1 (by decide) ?_
  refine rg_put hC hT G (by decide) r_mo k_X11 i_X11_player_X11 0 (by decide) (wm 1 rfl) rfl rfl (by simp) r_mo (by rw [up2_eq]; rfl) dX11_player_2 (fun H locs G => ?_)
  refine lv_iload_n hC.1 hC.2.1 dX11_player_5 rfl (lv_at hl 3 rfl) ?_
  refine lv_iconst (v := 0) hC.1 hC.2.1 dX11_player_6 (by decide) ?_
  refine lv_iconst (v := 5) hC.1 hC.2.1 dX11_player_7 (by decide) ?_
  refine rg_i G (rg_runS (As := [.int a3, .int 0, .int 5]) (rest := []) hC hT G (c_X11_is l D cy lay Γ h _) (va_cwS 3 hC.2.2.2.2 gX11_player_X11_is rfl rfl rfl hdS_X11_is ⟨Nat.le_of_ble_eq_true rfl, Nat.le_of_ble_eq_true rfl⟩) rfl hl.1 rfl (Nat.le_of_ble_eq_true rfl) dX11_player_8 ⟨Nat.le_of_ble_eq_true rfl, Nat.le_of_ble_eq_true rfl⟩) (fun r1 σ1 H locs h G => ?_)
  (try dsimp only at h)
  refine lv_if_ne (tgt := 20) hC.1 hC.2.1 dX11_player_11 (by decide) (fun c1 => ?_) (fun c1 => ?_)
  rotate_left
  · replace h := h.1 c1
    refine lv_aload_n hC.1 hC.2.1 dX11_player_14 rfl (lv_at hl 0 rfl) ?_
    refine lv_iconst (v := 1) hC.1 hC.2.1 dX11_player_15 (by decide) ?_
    refine rg_i G (rg_runV (As := [.int 1]) (rest := []) hC hT G (c_X11_refuse l D cy lay Γ h _) (cwV 1 hC.2.2.2.2 gX11_player_X11_refuse rfl rfl rfl hdV_X11_refuse ⟨Nat.le_of_ble_eq_true rfl, Nat.le_of_ble_eq_true rfl⟩) (rg_recv hT G (by decide) r_mo k_X11) rfl hl.1 rfl (Nat.le_of_ble_eq_true rfl) dX11_player_16 ⟨Nat.le_of_ble_eq_true rfl, Nat.le_of_ble_eq_true rfl⟩) (fun r9 σ9 H locs h G => ?_)
    refine W.widen (k := 3) (n := 383) (by decide) (by decide) ?_
    exact rk_iretz hz9 (Y := (lay, Γ, σ9)) hC hr hlocks G (rS_grow hT.2.2.1 G rfl rfl) hT.2.2.2 h dX11_player_19
  replace h := h.2 c1
  refine lv_iload_n hC.1 hC.2.1 dX11_player_20 rfl (lv_at hl 1 rfl) ?_
  refine lv_iconst (v := 1) hC.1 hC.2.1 dX11_player_21 (by decide) ?_
  refine lv_bipush (v := 63) hC.1 hC.2.1 dX11_player_22 (by decide) ?_
  refine rg_i G (rg_runS (As := [.int a1, .int 1, .int 63]) (rest := []) hC hT G (c_X11_is l D cy lay Γ h _) (va_cwS 3 hC.2.2.2.2 gX11_player_X11_is rfl rfl rfl hdS_X11_is ⟨Nat.le_of_ble_eq_true rfl, Nat.le_of_ble_eq_true rfl⟩) rfl hl.1 rfl (Nat.le_of_ble_eq_true rfl) dX11_player_24 ⟨Nat.le_of_ble_eq_true rfl, Nat.le_of_ble_eq_true rfl⟩) (fun r2 σ2 H locs h G => ?_)
  (try dsimp only at h)
  refine lv_if_eq (tgt := 49) hC.1 hC.2.1 dX11_player_27 (by decide) (fun c2 => ?_) (fun c2 => ?_)
  · replace h := h.1 c2
    refine lv_aload_n hC.1 hC.2.1 dX11_player_49 rfl (lv_at hl 0 rfl) ?_
    refine lv_iconst (v := 2) hC.1 hC.2.1 dX11_player_50 (by decide) ?_
    refine rg_i G (rg_runV (As := [.int 2]) (rest := []) hC hT G (c_X11_refuse l D cy lay Γ h _) (cwV 1 hC.2.2.2.2 gX11_player_X11_refuse rfl rfl rfl hdV_X11_refuse ⟨Nat.le_of_ble_eq_true rfl, Nat.le_of_ble_eq_true rfl⟩) (rg_recv hT G (by decide) r_mo k_X11) rfl hl.1 rfl (Nat.le_of_ble_eq_true rfl) dX11_player_51 ⟨Nat.le_of_ble_eq_true rfl, Nat.le_of_ble_eq_true rfl⟩) (fun r9 σ9 H locs h G => ?_)
    refine W.widen (k := 3) (n := 383) (by decide) (by decide) ?_
    exact rk_iretz hz9 (Y := (lay, Γ, σ9)) hC hr hlocks G (rS_grow hT.2.2.1 G rfl rfl) hT.2.2.2 h dX11_player_54
  replace h := h.2 c2
  refine lv_aload_n hC.1 hC.2.1 dX11_player_30 rfl (lv_at hl 0 rfl) ?_
  refine lv_iload_n hC.1 hC.2.1 dX11_player_31 rfl (lv_at hl 2 rfl) ?_
  refine rg_i G (rg_runV (As := [.int a2]) (rest := []) hC hT G (c_X11_areSongs l D cy lay Γ h _) (cwV 1 hC.2.2.2.2 gX11_player_X11_areSongs rfl rfl rfl hdV_X11_areSongs ⟨Nat.le_of_ble_eq_true rfl, Nat.le_of_ble_eq_true rfl⟩) (rg_recv hT G (by decide) r_mo k_X11) rfl hl.1 rfl (Nat.le_of_ble_eq_true rfl) dX11_player_32 ⟨Nat.le_of_ble_eq_true rfl, Nat.le_of_ble_eq_true rfl⟩) (fun r3 σ3 H locs h G => ?_)
  (try dsimp only at h)
  refine lv_if_eq (tgt := 49) hC.1 hC.2.1 dX11_player_35 (by decide) (fun c3 => ?_) (fun c3 => ?_)
  · replace h := h.1 c3
    refine lv_aload_n hC.1 hC.2.1 dX11_player_49 rfl (lv_at hl 0 rfl) ?_
    refine lv_iconst (v := 2) hC.1 hC.2.1 dX11_player_50 (by decide) ?_
    refine rg_i G (rg_runV (As := [.int 2]) (rest := []) hC hT G (c_X11_refuse l D cy lay Γ h _) (cwV 1 hC.2.2.2.2 gX11_player_X11_refuse rfl rfl rfl hdV_X11_refuse ⟨Nat.le_of_ble_eq_true rfl, Nat.le_of_ble_eq_true rfl⟩) (rg_recv hT G (by decide) r_mo k_X11) rfl hl.1 rfl (Nat.le_of_ble_eq_true rfl) dX11_player_51 ⟨Nat.le_of_ble_eq_true rfl, Nat.le_of_ble_eq_true rfl⟩) (fun r9 σ9 H locs h G => ?_)
    refine W.widen (k := 3) (n := 383) (by decide) (by decide) ?_
    exact rk_iretz hz9 (Y := (lay, Γ, σ9)) hC hr hlocks G (rS_grow hT.2.2.1 G rfl rfl) hT.2.2.2 h dX11_player_54
  replace h := h.2 c3
  refine lv_iload hC.1 hC.2.1 dX11_player_38 (lv_at hl 4 rfl) ?_
  refine lv_iconst (v := 1) hC.1 hC.2.1 dX11_player_40 (by decide) ?_
  refine lv_bipush (v := 99) hC.1 hC.2.1 dX11_player_41 (by decide) ?_
  refine rg_i G (rg_runS (As := [.int a4, .int 1, .int 99]) (rest := []) hC hT G (c_X11_is l D cy lay Γ h _) (va_cwS 3 hC.2.2.2.2 gX11_player_X11_is rfl rfl rfl hdS_X11_is ⟨Nat.le_of_ble_eq_true rfl, Nat.le_of_ble_eq_true rfl⟩) rfl hl.1 rfl (Nat.le_of_ble_eq_true rfl) dX11_player_43 ⟨Nat.le_of_ble_eq_true rfl, Nat.le_of_ble_eq_true rfl⟩) (fun r4 σ4 H locs h G => ?_)
  (try dsimp only at h)
  refine lv_if_ne (tgt := 55) hC.1 hC.2.1 dX11_player_46 (by decide) (fun c4 => ?_) (fun c4 => ?_)
  rotate_left
  · replace h := h.1 c4
    refine lv_aload_n hC.1 hC.2.1 dX11_player_49 rfl (lv_at hl 0 rfl) ?_
    refine lv_iconst (v := 2) hC.1 hC.2.1 dX11_player_50 (by decide) ?_
    refine rg_i G (rg_runV (As := [.int 2]) (rest := []) hC hT G (c_X11_refuse l D cy lay Γ h _) (cwV 1 hC.2.2.2.2 gX11_player_X11_refuse rfl rfl rfl hdV_X11_refuse ⟨Nat.le_of_ble_eq_true rfl, Nat.le_of_ble_eq_true rfl⟩) (rg_recv hT G (by decide) r_mo k_X11) rfl hl.1 rfl (Nat.le_of_ble_eq_true rfl) dX11_player_51 ⟨Nat.le_of_ble_eq_true rfl, Nat.le_of_ble_eq_true rfl⟩) (fun r9 σ9 H locs h G => ?_)
    refine W.widen (k := 3) (n := 383) (by decide) (by decide) ?_
    exact rk_iretz hz9 (Y := (lay, Γ, σ9)) hC hr hlocks G (rS_grow hT.2.2.1 G rfl rfl) hT.2.2.2 h dX11_player_54
  replace h := h.2 c4
  refine lv_aload_n hC.1 hC.2.1 dX11_player_55 rfl (lv_at hl 0 rfl) ?_
  refine rg_get hC hT G (by decide) r_mo k_X11 i_X11_player_X11 3 (by decide) (wm 2 rfl) rfl dX11_player_56 ?_
  refine rg_i G (rg_runV (As := []) (rest := []) hC hT G (c_lp_Jx4a65c_size_8abf5 l D cy lay Γ h _) (cwV 0 hC.2.2.2.2 gX11_player_Jx4a65c_size_8abf5 rfl rfl rfl hdV_Jx4a65c_size_8abf5 ⟨Nat.le_of_ble_eq_true rfl, Nat.le_of_ble_eq_true rfl⟩) (rg_recv hT G (by decide) r_lp k_AL) rfl hl.1 rfl (Nat.le_of_ble_eq_true rfl) dX11_player_59 ⟨Nat.le_of_ble_eq_true rfl, Nat.le_of_ble_eq_true rfl⟩) (fun r5 σ5 H locs h G => ?_)
  (try dsimp only at h)
  refine lv_bipush (v := 10) hC.1 hC.2.1 dX11_player_62 (by decide) ?_
  refine lv_icmp_ne (tgt := 73) hC.1 hC.2.1 dX11_player_64 (by decide) (fun c5 => ?_) (fun c5 => ?_)
  rotate_left
  · replace h := h.1 c5
    refine lv_aload_n hC.1 hC.2.1 dX11_player_67 rfl (lv_at hl 0 rfl) ?_
    refine lv_iconst (v := 3) hC.1 hC.2.1 dX11_player_68 (by decide) ?_
    refine rg_i G (rg_runV (As := [.int 3]) (rest := []) hC hT G (c_X11_refuse l D cy lay Γ h _) (cwV 1 hC.2.2.2.2 gX11_player_X11_refuse rfl rfl rfl hdV_X11_refuse ⟨Nat.le_of_ble_eq_true rfl, Nat.le_of_ble_eq_true rfl⟩) (rg_recv hT G (by decide) r_mo k_X11) rfl hl.1 rfl (Nat.le_of_ble_eq_true rfl) dX11_player_69 ⟨Nat.le_of_ble_eq_true rfl, Nat.le_of_ble_eq_true rfl⟩) (fun r9 σ9 H locs h G => ?_)
    refine W.widen (k := 3) (n := 383) (by decide) (by decide) ?_
    exact rk_iretz hz9 (Y := (lay, Γ, σ9)) hC hr hlocks G (rS_grow hT.2.2.1 G rfl rfl) hT.2.2.2 h dX11_player_72
  replace h := h.2 c5
  obtain ⟨hP, hsz, h⟩ := h
  have hA : ∀ q, s.heap.size ≤ q → rA cy lay Γ s.heap.size q := fun _ h => Or.inr h
  refine g_new (k := 13 + Γ.1) (fs := [.int 0, .int 0, .int 0, .int 0, .int 0, .int 0, .null]) hC hT.1 G hA (r_no_pl hP) k_X9 i_X11_player_X9 (wm 3 rfl) (wm 4 rfl) (wm 5 rfl) df_X9 (Nat.le_of_ble_eq_true rfl) (Nat.le_of_ble_eq_true rfl) dX11_player_73 (fun q H G => ?_)
  have eq0 : gU lay (13 + Γ.1) q (13 + Γ.1) = q := gU_eq
  rw [eq0]
  refine lv_dup hC.1 hC.2.1 dX11_player_76 rfl ?_
  refine g_v G hA (h_runIN (host := RX11) (b := gU lay (13 + Γ.1) q (13 + Γ.1)) (As := []) (rest := [.ref q]) hC ⟨hT.1, hT.2.1⟩ G (c_X9_init l D cy _ _ (k := 13 + Γ.1) (ko := 23 + Γ.1) (by omega) (by omega) (by omega) gU_eq ((gU_ne (by omega)).trans (r_no_of hP)) _) ⟨va_cnB 0 hC.2.2.2.2 ggX11_player_X9_init rfl rfl rfl (hT.2.1.1 _ (wm 1 rfl)) (hC.2.2.2.2 (.initialized RX9) (wm 5 rfl)) hdI_X9 ⟨Nat.le_of_ble_eq_true rfl, Nat.le_of_ble_eq_true rfl⟩, rfl, hC.2.2.2.2 (.instanceMethod yX9_init) (wm 25 rfl)⟩ rfl hl.1 (by rw [eq0]; rfl) (Nat.le_of_ble_eq_true rfl) dX11_player_77 ⟨Nat.le_of_ble_eq_true rfl, Nat.le_of_ble_eq_true rfl⟩) (fun Y H locs hY G => ?_)
  obtain ⟨q2, rfl⟩ := hY
  obtain ⟨L, e1, e2, el, G⟩ : ∃ L : Nat → Nat, L (13 + Γ.1) = q ∧ L (23 + Γ.1) = q2 ∧ (∀ k, k ≠ 13 + Γ.1 → k ≠ 23 + Γ.1 → L k = lay k) ∧ gG D L (gU (gU (rX cy lay Γ tn σ5) (23 + Γ.1) (some (offE cy))) (13 + Γ.1) (some (plE 0 0 0 0 (.ref q2)))) (rA cy lay Γ s.heap.size) s.heap H locs :=
    ⟨gU (gU lay (13 + Γ.1) q) (23 + Γ.1) q2, (gU_ne (by omega)).trans gU_eq, gU_eq, fun k a b => (gU_ne b).trans (gU_ne a), by rw [← gU3]; exact G⟩
  refine lv_astore (lv' := [(5, .ref q), (0, .ref (lay 0)), (1, .int a1), (2, .int a2), (3, .int a3), (4, .int a4)]) hC.1 hC.2.1 dX11_player_80 hl (by decide) rfl (fun ls hl => ?_)
  refine lv_aload hC.1 hC.2.1 dX11_player_82 (lv_at hl 0 rfl) ?_
  refine lv_iload_n hC.1 hC.2.1 dX11_player_84 rfl (lv_at hl 2 rfl) ?_
  refine g_putNA (host := RX11) e1 hC hT.1 G (by omega) gU_eq k_X9 i_X11_player_X9 0 (by decide) (nest_use _ (nestR_ok _ (wm 2 rfl)) (hT.2.1.1 _ (wm 2 rfl))) rfl rfl rfl (by simp) dX11_player_85 (fun H locs G => ?_)
  have G : gG D L (gU (gU (rX cy lay Γ tn σ5) (23 + Γ.1) (some (offE cy))) (13 + Γ.1) (some (plE a1 0 0 0 (.ref q2)))) (rA cy lay Γ s.heap.size) s.heap H locs := gG_up2 G
  refine lv_aload hC.1 hC.2.1 dX11_player_88 (lv_at hl 0 rfl) ?_
  refine lv_iload_n hC.1 hC.2.1 dX11_player_90 rfl (lv_at hl 3 rfl) ?_
  refine g_putNA (host := RX11) e1 hC hT.1 G (by omega) gU_eq k_X9 i_X11_player_X9 1 (by decide) (nest_use _ (nestR_ok _ (wm 3 rfl)) (hT.2.1.1 _ (wm 3 rfl))) rfl rfl rfl (by simp) dX11_player_91 (fun H locs G => ?_)
  have G : gG D L (gU (gU (rX cy lay Γ tn σ5) (23 + Γ.1) (some (offE cy))) (13 + Γ.1) (some (plE a1 a2 0 0 (.ref q2)))) (rA cy lay Γ s.heap.size) s.heap H locs := gG_up2 G
  refine lv_aload hC.1 hC.2.1 dX11_player_94 (lv_at hl 0 rfl) ?_
  refine lv_iload_n hC.1 hC.2.1 dX11_player_96 rfl (lv_at hl 4 rfl) ?_
  refine g_putNA (host := RX11) e1 hC hT.1 G (by omega) gU_eq k_X9 i_X11_player_X9 2 (by decide) (nest_use _ (nestR_ok _ (wm 4 rfl)) (hT.2.1.1 _ (wm 4 rfl))) rfl rfl rfl (by simp) dX11_player_97 (fun H locs G => ?_)
  have G : gG D L (gU (gU (rX cy lay Γ tn σ5) (23 + Γ.1) (some (offE cy))) (13 + Γ.1) (some (plE a1 a2 a3 0 (.ref q2)))) (rA cy lay Γ s.heap.size) s.heap H locs := gG_up2 G
  refine lv_aload hC.1 hC.2.1 dX11_player_100 (lv_at hl 0 rfl) ?_
  refine lv_iload hC.1 hC.2.1 dX11_player_102 (lv_at hl 5 rfl) ?_
  refine g_putNA (host := RX11) e1 hC hT.1 G (by omega) gU_eq k_X9 i_X11_player_X9 3 (by decide) (nest_use _ (nestR_ok _ (wm 5 rfl)) (hT.2.1.1 _ (wm 5 rfl))) rfl rfl rfl (by simp) dX11_player_104 (fun H locs G => ?_)
  have G : gG D L (gU (gU (rX cy lay Γ tn σ5) (23 + Γ.1) (some (offE cy))) (13 + Γ.1) (some (plE a1 a2 a3 a4 (.ref q2)))) (rA cy lay Γ s.heap.size) s.heap H locs := gG_up2 G
  have x0 : (gU (gU (rX cy lay Γ tn σ5) (23 + Γ.1) (some (offE cy))) (13 + Γ.1) (some (plE a1 a2 a3 a4 (.ref q2)))) 0 = some (.inr (16, Lmo lay (σ5 0))) := (gU_ne (by omega)).trans ((gU_ne (by omega)).trans r_mo)
  have fin : ∀ (L' : Nat → Nat) (H : Heap) (locs : List Loc), L' 0 = lay 0 → gG D L' (rX cy L' (Γ.1 + 1, Γ.2) tn (rpS σ5 Γ.1 a1 a2 a3 a4)) (rA cy lay Γ s.heap.size) s.heap H locs → W p l e0 rm_X11_player s m args below meth c H locs 3 383 (MQ below (va_Qi post (rOz z9 D cy (rA cy lay Γ s.heap.size)) (rA cy lay Γ s.heap.size)) args s 3 383 (rA cy lay Γ s.heap.size)) (F0 m 116 ls [.int 1]) := by
    intro L' H locs z0 G
    refine lv_pop hC.1 hC.2.1 dX11_player_116 rfl ?_
    refine lv_aload_n hC.1 hC.2.1 dX11_player_117 rfl (lv_at hl 1 rfl) ?_
    rw [← z0]
    refine g_get (k := 0) hC hT.1 G (by decide) r_mo k_X11 i_X11_player_X11 3 (by decide) (wm 2 rfl) rfl dX11_player_118 ?_
    refine g_i G hA (h_runV (As := []) (rest := []) hC ⟨hT.1, hT.2.1⟩ G (c_gsz l D cy L' _ (k := 1) (by decide) r_lp _) (cwV 0 hC.2.2.2.2 gX11_player_Jx4a65c_size_8abf5 rfl rfl rfl hdV_Jx4a65c_size_8abf5 ⟨Nat.le_of_ble_eq_true rfl, Nat.le_of_ble_eq_true rfl⟩) (h_recv (k := 1) ⟨hT.1, hT.2.1⟩ G (by decide) r_lp k_AL) rfl hl.1 rfl (Nat.le_of_ble_eq_true rfl) dX11_player_121 ⟨Nat.le_of_ble_eq_true rfl, Nat.le_of_ble_eq_true rfl⟩) (fun r Y H locs hY G => ?_)
    obtain ⟨rfl, rfl⟩ := hY
    refine lv_iconst (v := 1) hC.1 hC.2.1 dX11_player_124 (by decide) ?_
    refine lv_isub hC.1 hC.2.1 dX11_player_125 ?_
    rw [show rpS σ5 Γ.1 a1 a2 a3 a4 1 2 = nI (Γ.1 + 1) from rfl, nI_pred]
    exact rk_iretz (z0.trans hz9) (Y := (L', (Γ.1 + 1, Γ.2), rpS σ5 Γ.1 a1 a2 a3 a4)) hC hr hlocks G (rS_grow hT.2.2.1 G rfl rfl) ⟨by show Γ.1 + 1 ≤ 10; omega, hT.2.2.2.2⟩ (h L') dX11_player_126
  refine lv_aload_n hC.1 hC.2.1 dX11_player_107 rfl (lv_at hl 1 rfl) ?_
  rw [show lay 0 = L 0 from (el 0 (by omega) (by omega)).symm]
  refine g_get (k := 0) hC hT.1 G (by decide) x0 k_X11 i_X11_player_X11 3 (by decide) (wm 2 rfl) rfl dX11_player_108 ?_
  refine lv_aload hC.1 hC.2.1 dX11_player_111 (lv_at hl 0 rfl) ?_
  have el1 : L 1 = lay 1 := el 1 (by omega) (by omega)
  by_cases hP0 : Γ.1 = 0
  · have x1 : (gU (gU (rX cy lay Γ tn σ5) (23 + Γ.1) (some (offE cy))) (13 + Γ.1) (some (plE a1 a2 a3 a4 (.ref q2)))) 1 = some (.inr (4, [.int (σ5 1 0), .ref Γ.2.2.2.1, .int 0])) := (gU_ne (by omega)).trans ((gU_ne (by omega)).trans (by rw [r_lp, if_pos hP0, hsz, hP0]; rfl))
    have x4 : (gU (gU (rX cy lay Γ tn σ5) (23 + Γ.1) (some (offE cy))) (13 + Γ.1) (some (plE a1 a2 a3 a4 (.ref q2)))) 4 = none := (gU_ne (by omega)).trans ((gU_ne (by omega)).trans (r_no_ep hP0))
    refine g_i G hA (k_runV (b := L 1) (As := [.ref (L (13 + Γ.1))]) (rest := []) hC ⟨hT.1, hT.2.1⟩ hZ hA G (c_add_0 l D cy L (gU (gU (rX cy lay Γ tn σ5) (23 + Γ.1) (some (offE cy))) (13 + Γ.1) (some (plE a1 a2 a3 a4 (.ref q2)))) Γ.2.2.2.1 mi (kl := 1) (ke := 4) (kv := 13 + Γ.1) (ci := 14) (qn := 25) (by decide) (by decide) (by omega) (by decide) (by omega) (by omega) x1 x4 gU_eq rfl rfl _) (cwV 1 hC.2.2.2.2 gX11_player_Jx4a65c_add_9ea2d rfl rfl rfl hdV_add ⟨Nat.le_of_ble_eq_true rfl, Nat.le_of_ble_eq_true rfl⟩) (h_recv (k := 1) ⟨hT.1, hT.2.1⟩ G (by decide) x1 k_AL) rfl hl.1 (by rw [e1, el1]; rfl) (Nat.le_of_ble_eq_true rfl) dX11_player_113 ⟨Nat.le_of_ble_eq_true rfl, Nat.le_of_ble_eq_true rfl⟩) (fun r Y H locs hY G => ?_)
    obtain ⟨rfl, q4, rfl⟩ := hY
    refine fin (gU L 4 q4) H locs ((gU_ne (by decide)).trans (el 0 (by omega) (by omega))) (gG_eq (fun k hk => ?_) G)
    rw [← r_addp (lay' := gU L 4 q4) (o := q4) (q2 := q2) (f' := va_up (fun _ => none) 0 (some (L (13 + Γ.1)))) hP (fun k b1 b2 b3 => (gU_ne b1).trans (el k b2 b3)) gU_eq ((gU_ne (by omega)).trans e2) ?_ k]
    · show adX cy (gU (gU (rX cy lay Γ tn σ5) (23 + Γ.1) (some (offE cy))) (13 + Γ.1) (some (plE a1 a2 a3 a4 (.ref q2)))) 1 4 (σ5 1 0 + 1) q4 10 0 (fun _ => none) (L (13 + Γ.1)) k = _
      unfold adX
      rw [hP0]
    · funext i
      by_cases hi : i = 0
      · subst hi
        rw [va_up_self, if_pos (by omega), gU_ne (by omega), hP0]
      · rw [va_up_ne _ _ hi, if_neg (by omega)]
  · have x1 : (gU (gU (rX cy lay Γ tn σ5) (23 + Γ.1) (some (offE cy))) (13 + Γ.1) (some (plE a1 a2 a3 a4 (.ref q2)))) 1 = some (.inr (4, [.int (σ5 1 0), .ref (L 4), .int (nI Γ.1)])) := (gU_ne (by omega)).trans ((gU_ne (by omega)).trans (by rw [r_lp, if_neg hP0, hsz, el 4 (by omega) (by omega)]))
    have x4 : (gU (gU (rX cy lay Γ tn σ5) (23 + Γ.1) (some (offE cy))) (13 + Γ.1) (some (plE a1 a2 a3 a4 (.ref q2)))) 4 = some (.inl (cy 7, 10, rfS fun i => if i < Γ.1 then some (lay (13 + i)) else none)) := (gU_ne (by omega)).trans ((gU_ne (by omega)).trans (r_ep hP0))
    refine g_i G hA (k_runV (b := L 1) (As := [.ref (L (13 + Γ.1))]) (rest := []) hC ⟨hT.1, hT.2.1⟩ hZ hA G (c_add_A l D cy L (gU (gU (rX cy lay Γ tn σ5) (23 + Γ.1) (some (offE cy))) (13 + Γ.1) (some (plE a1 a2 a3 a4 (.ref q2)))) Γ.2.2.2.1 mi (kl := 1) (ke := 4) (kv := 13 + Γ.1) (ci := 14) (qn := 25) (n := Γ.1) (cap := 10) (by decide) (by decide) (by omega) (by decide) (by omega) hP (by decide) x1 x4 gU_eq rfl rfl _) (cwV 1 hC.2.2.2.2 gX11_player_Jx4a65c_add_9ea2d rfl rfl rfl hdV_add ⟨Nat.le_of_ble_eq_true rfl, Nat.le_of_ble_eq_true rfl⟩) (h_recv (k := 1) ⟨hT.1, hT.2.1⟩ G (by decide) x1 k_AL) rfl hl.1 (by rw [e1, el1]; rfl) (Nat.le_of_ble_eq_true rfl) dX11_player_113 ⟨Nat.le_of_ble_eq_true rfl, Nat.le_of_ble_eq_true rfl⟩) (fun r Y H locs hY G => ?_)
    obtain ⟨rfl, rfl⟩ := hY
    refine fin L H locs (el 0 (by omega) (by omega)) (gG_eq (fun k hk => ?_) G)
    rw [← r_addp (lay' := L) (o := L 4) (q2 := q2) (f' := va_up (fun i => if i < Γ.1 then some (lay (13 + i)) else none) Γ.1 (some (L (13 + Γ.1)))) hP (fun k b1 b2 b3 => el k b2 b3) rfl e2 ?_ k]
    · rfl
    · funext i
      by_cases hi : i = Γ.1
      · subst hi
        rw [va_up_self, if_pos (by omega)]
      · rw [va_up_ne _ _ hi]
        by_cases h2 : i < Γ.1
        · rw [if_pos h2, if_pos (by omega), el (13 + i) (by omega) (by omega)]
        · rw [if_neg h2, if_neg (by omega)]
end
section
/-! THE REFERENCE: ask -/
abbrev wdE (a b c d e f g : Int32) : va_E := .inr (15, [.int a, .int b, .int c, .int d, .int e, .int f, .int g, .int 0, .int 0, .int 0, .int 0, .int 0])
def rwS (σ : MS) (n : Nat) (a b c d e f g : Int32) : MS := fun k j => if k = 3 then (if j = 0 then σ 3 0 + 1 else if j = 2 then nI (n + 1) else σ 3 j) else if k = 33 + n then (if j = 0 then a else if j = 1 then b else if j = 2 then c else if j = 3 then d else if j = 4 then e else if j = 5 then f else if j = 6 then g else 0) else σ k j
section ADDW
variable {cy : Nat → ClassId} {lay lay' : Nat → Nat} {Γ : RG} {σ : MS} {a b c d e f g : Int32}
theorem r_no_wd (h : Γ.2.2.1 < 14) : rX cy lay Γ tn σ (33 + Γ.2.2.1) = none := by
  unfold rX
  rw [if_neg (by omega), if_neg (by omega), if_neg (by omega), if_neg (by omega), if_neg (by omega), if_neg (by omega), if_neg (by omega), if_neg (by omega), if_neg (by omega), if_neg (by omega), if_neg (by omega), if_pos (by omega), if_neg (by omega)]
theorem r_no_ew (h : Γ.2.2.1 = 0) : rX cy lay Γ tn σ 6 = none := if_pos h
theorem r_eww (h : Γ.2.2.1 ≠ 0) : rX cy lay Γ tn σ 6 = some (.inl (cy 7, if Γ.2.2.1 ≤ 10 then 10 else 15, rfS fun i => if i < Γ.2.2.1 then some (lay (33 + i)) else none)) := if_neg h
theorem rwS_ne {k n : Nat} (h1 : k ≠ 3) (h2 : k ≠ 33 + n) : rwS σ n a b c d e f g k = σ k := by
  funext j
  unfold rwS
  rw [if_neg h1, if_neg h2]
theorem r_addw (hP : Γ.2.2.1 < 14) (hG : Γ.1 ≤ 10) (hl : ∀ k, k ≠ 6 → k ≠ 33 + Γ.2.2.1 → lay' k = lay k) {o cap : Nat} {f' : Nat → Option Nat} (h4 : lay' 6 = o) (hcap : cap = if Γ.2.2.1 + 1 ≤ 10 then 10 else 15) (hf : f' = fun i => if i < Γ.2.2.1 + 1 then some (lay' (33 + i)) else none) (k : Nat) :
    gU (gU (gU (rX cy lay Γ tn σ) (33 + Γ.2.2.1) (some (wdE a b c d e f g))) 6 (some (.inl (cy 7, cap, rfS f')))) 3 (some (.inr (4, [.int (σ 3 0 + 1), .ref o, .int (nI (Γ.2.2.1 + 1))]))) k = rX cy lay' (Γ.1, Γ.2.1, Γ.2.2.1 + 1, Γ.2.2.2) tn (rwS σ Γ.2.2.1 a b c d e f g) k := by
  by_cases c3 : k = 3
  · subst c3
    rw [gU_eq, r_lw]
    simp [rwS, h4]
  rw [gU_ne c3]
  by_cases c6 : k = 6
  · subst c6
    rw [gU_eq, r_eww (Nat.succ_ne_zero _), hf, hcap]
  rw [gU_ne c6]
  by_cases cp : k = 33 + Γ.2.2.1
  · subst cp
    rw [gU_eq, r_wd ⟨hP, Nat.lt_succ_self _⟩]
    have e9 : ∀ j, rwS σ Γ.2.2.1 a b c d e f g (33 + Γ.2.2.1) j = if j = 0 then a else if j = 1 then b else if j = 2 then c else if j = 3 then d else if j = 4 then e else if j = 5 then f else if j = 6 then g else 0 := fun j => by
      unfold rwS
      rw [if_neg (by omega), if_pos rfl]
    have e8 : rwS σ Γ.2.2.1 a b c d e f g (33 + Γ.2.2.1) = fun j => if j = 0 then a else if j = 1 then b else if j = 2 then c else if j = 3 then d else if j = 4 then e else if j = 5 then f else if j = 6 then g else 0 := funext e9
    rw [e8]
    rfl
  rw [gU_ne cp]
  have hs : rwS σ Γ.2.2.1 a b c d e f g k = σ k := rwS_ne c3 cp
  unfold rX
  rw [hs]
  by_cases c0 : k = 0
  · subst c0
    rw [if_pos rfl, if_pos rfl]
    have hm : Lmo lay' (rwS σ Γ.2.2.1 a b c d e f g 0) = Lmo lay (σ 0) := by
      rw [rwS_ne (by omega) (by omega)]
      show [_, _, _, _, _, _, _, _, _, _, _, _, _] = _
      rw [hl 1 (by omega) (by omega), hl 2 (by omega) (by omega), hl 3 (by omega) (by omega), hl 7 (by omega) (by omega), hl 8 (by omega) (by omega), hl 9 (by omega) (by omega), hl 10 (by omega) (by omega), hl 11 (by omega) (by omega), hl 12 (by omega) (by omega)]
    rw [hm]
  rw [if_neg c0, if_neg c0]
  by_cases c1 : k = 1
  · subst c1
    rw [if_pos rfl, if_pos rfl, rwS_ne (by omega) (by omega)]
    unfold rL
    rw [hl 4 (by omega) (by omega)]
  rw [if_neg c1, if_neg c1]
  by_cases c2 : k = 2
  · subst c2
    rw [if_pos rfl, if_pos rfl, rwS_ne (by omega) (by omega)]
    unfold rL
    rw [hl 5 (by omega) (by omega)]
  rw [if_neg c2, if_neg c2, if_neg c3, if_neg c3]
  by_cases c4 : k = 4
  · rw [if_pos c4, if_pos c4]
    have e7 : (fun i => if i < Γ.1 then some (lay (13 + i)) else none) = fun i => if i < Γ.1 then some (lay' (13 + i)) else none := by
      funext i
      by_cases z : i < Γ.1
      · rw [if_pos z, if_pos z, hl (13 + i) (by omega) (by omega)]
      · rw [if_neg z, if_neg z]
    rw [e7]
  rw [if_neg c4, if_neg c4]
  by_cases c5 : k = 5
  · rw [if_pos c5, if_pos c5]
  rw [if_neg c5, if_neg c5, if_neg c6, if_neg c6]
  by_cases c7 : k < 11
  · rw [if_pos c7, if_pos c7]
  rw [if_neg c7, if_neg c7]
  by_cases c8 : k < 13
  · rw [if_pos c8, if_pos c8]
  rw [if_neg c8, if_neg c8]
  by_cases c9 : k < 23
  · rw [if_pos c9, if_pos c9, hl (23 + (k - 13)) (by omega) (by omega)]
  rw [if_neg c9, if_neg c9]
  by_cases c10 : k < 33
  · rw [if_pos c10, if_pos c10]
  rw [if_neg c10, if_neg c10]
  by_cases c11 : k < 47
  · rw [if_pos c11, if_pos c11]
    by_cases z : k - 33 < Γ.2.2.1
    · rw [if_pos z, if_pos (show k - 33 < Γ.2.2.1 + 1 by omega)]
    · rw [if_neg z, if_neg (show ¬ k - 33 < Γ.2.2.1 + 1 by omega)]
  rw [if_neg c11, if_neg c11]
  by_cases c12 : k < 64
  · rw [if_pos c12, if_pos c12]
  rw [if_neg c12, if_neg c12]
  rfl
end ADDW
theorem df_X10 : ∀ j, j < 12 → defaultValue (tyX10 j) = vp_V [.int 0, .int 0, .int 0, .int 0, .int 0, .int 0, .int 0, .int 0, .int 0, .int 0, .int 0, .int 0] j := by decide
abbrev rm_X11_ask : Room := { frames := 7, cells := 2, slots := 27, locals := 340 }
theorem i_X11_ask_X11 : ∀ w ∈ wsX110, w ∈ wsX11_ask := fun _ h => List.mem_cons_of_mem _ (List.mem_append_left _ (List.mem_append_left _ (List.mem_append_right _ h)))
theorem i_X11_ask_X10 : ∀ w ∈ wsX100, w ∈ wsX11_ask := fun _ h => List.mem_cons_of_mem _ (List.mem_append_left _ (List.mem_append_right _ h))
def w_X11_ask (lay : Nat → Nat) (Γ : RG) (post : Int32 → RY → Prop) (σ : MS) (a1 a2 a3 a4 a5 a6 : Int32) : Prop :=
  w_X11_isBand Γ (fun r σ1 => (r = 0 → w_X11_refuse Γ (fun x σ9 => post x (lay, Γ, σ9)) σ1 1) ∧ (¬ r = 0 → w_X11_isTown Γ (fun r σ2 => (r = 0 → w_X11_refuse Γ (fun x σ9 => post x (lay, Γ, σ9)) σ2 1) ∧ (¬ r = 0 → w_X11_isDay Γ (fun r σ3 => (r = 0 → w_X11_refuse Γ (fun x σ9 => post x (lay, Γ, σ9)) σ3 2) ∧ (¬ r = 0 → w_X11_is Γ (fun r σ4 => (r = 0 → w_X11_refuse Γ (fun x σ9 => post x (lay, Γ, σ9)) σ4 2) ∧ (¬ r = 0 → w_X11_is Γ (fun r σ5 => (r = 0 → w_X11_refuse Γ (fun x σ9 => post x (lay, Γ, σ9)) σ5 2) ∧ (¬ r = 0 → (24 < a4 + a5 → w_X11_refuse Γ (fun x σ9 => post x (lay, Γ, σ9)) σ5 2) ∧ (¬ 24 < a4 + a5 → w_X11_areSongs Γ (fun r σ6 => (r = 0 → w_X11_refuse Γ (fun x σ9 => post x (lay, Γ, σ9)) σ6 2) ∧ (¬ r = 0 → w_lw_Jx4a65c_size_8abf5 Γ (fun r σ7 => (r = 14 → w_X11_refuse Γ (fun x σ9 => post x (lay, Γ, σ9)) σ7 3) ∧ (¬ r = 14 → w_X11_isFixed Γ (fun r σ8 => (¬ r = 0 → w_X11_refuse Γ (fun x σ9 => post x (lay, Γ, σ9)) σ8 3) ∧ (r = 0 → Γ.2.2.1 < 14 ∧ σ8 3 2 = nI Γ.2.2.1 ∧ ∀ lay', post (nI Γ.2.2.1) (lay', (Γ.1, Γ.2.1, Γ.2.2.1 + 1, Γ.2.2.2), rwS σ8 Γ.2.2.1 a1 a2 a3 a4 a5 a6 (σ8 0 1)))) σ7 a1 a2)) σ6)) σ5 a6))) σ4 a5 1 6)) σ3 a4 10 22)) σ2 a2)) σ1 a3)) (up2 σ 0 0 0) a1
set_option maxHeartbeats 4000000 in
set_option maxRecDepth 100000 in
theorem c_X11_ask (l : Launch) (D : va_G) (cy : Nat → ClassId) (lay : Nat → Nat) (Γ : RG) (mi : Nat) {z9 : Nat} (hz9 : lay 0 = z9) {σ : MS} {post : Int32 → RY → Prop} {a1 a2 a3 a4 a5 a6 : Int32} (h : w_X11_ask lay Γ post σ a1 a2 a3 a4 a5 a6) (sz : Nat) : Met l yX11_ask wsX11_ask rm_X11_ask (va_Pc [.ref (lay 0), .int a1, .int a2, .int a3, .int a4, .int a5, .int a6] (rIK D cy lay Γ σ mi sz)) (va_Qi post (rOz z9 D cy (rA cy lay Γ sz)) (rA cy lay Γ sz)) 2 27 (rA cy lay Γ sz) := by
  refine rk_ofW (cc := cX11_ask) (maxL := 8) (ret := some .int) (own := RX11) (Qc := fun sz => va_Qi post (rOz z9 D cy (rA cy lay Γ sz)) (rA cy lay Γ sz)) (by decide) rfl (Nat.le_of_ble_eq_true rfl) rfl ?_
  intro p e0 s m args below meth c ls hC hr hlocks hT hZ G hl
  unfold w_X11_ask at h
  have hl : lv_has ls 8 [(0, .ref (lay 0)), (1, .int a1), (2, .int a2), (3, .int a3), (4, .int a4), (5, .int a5), (6, .int a6)] := hl
  refine lv_aload_n hC.1 hC.2.1 dX11_ask_0 rfl (lv_at hl 0 rfl) ?_
  refine lv_iconst (v := 0) hC.1 hC.2.1 dX11_ask_1 (by decide) ?_
  refine rg_put hC hT G (by decide) r_mo k_X11 i_X11_ask_X11 0 (by decide) (wm 1 rfl) rfl rfl (by simp) r_mo (by rw [up2_eq]; rfl) dX11_ask_2 (fun H locs G => ?_)
  refine lv_aload_n hC.1 hC.2.1 dX11_ask_5 rfl (lv_at hl 0 rfl) ?_
  refine lv_iload_n hC.1 hC.2.1 dX11_ask_6 rfl (lv_at hl 1 rfl) ?_
  refine rg_i G (rg_runV (As := [.int a1]) (rest := []) hC hT G (c_X11_isBand l D cy lay Γ h _) (cwV 1 hC.2.2.2.2 gX11_ask_X11_isBand rfl rfl rfl hdV_X11_isBand ⟨Nat.le_of_ble_eq_true rfl, Nat.le_of_ble_eq_true rfl⟩) (rg_recv hT G (by decide) r_mo k_X11) rfl hl.1 rfl (Nat.le_of_ble_eq_true rfl) dX11_ask_7 ⟨Nat.le_of_ble_eq_true rfl, Nat.le_of_ble_eq_true rfl⟩) (fun r1 σ1 H locs h G => ?_)
  (try dsimp only at h)
  refine lv_if_eq (tgt := 20) hC.1 hC.2.1 dX11_ask_10 (by decide) (fun c1 => ?_) (fun c1 => ?_)
  · replace h := h.1 c1
    refine lv_aload_n hC.1 hC.2.1 dX11_ask_20 rfl (lv_at hl 0 rfl) ?_
    refine lv_iconst (v := 1) hC.1 hC.2.1 dX11_ask_21 (by decide) ?_
    refine rg_i G (rg_runV (As := [.int 1]) (rest := []) hC hT G (c_X11_refuse l D cy lay Γ h _) (cwV 1 hC.2.2.2.2 gX11_ask_X11_refuse rfl rfl rfl hdV_X11_refuse ⟨Nat.le_of_ble_eq_true rfl, Nat.le_of_ble_eq_true rfl⟩) (rg_recv hT G (by decide) r_mo k_X11) rfl hl.1 rfl (Nat.le_of_ble_eq_true rfl) dX11_ask_22 ⟨Nat.le_of_ble_eq_true rfl, Nat.le_of_ble_eq_true rfl⟩) (fun r9 σ9 H locs h G => ?_)
    refine W.widen (k := 2) (n := 27) (by decide) (by decide) ?_
    exact rk_iretz hz9 (Y := (lay, Γ, σ9)) hC hr hlocks G (rS_grow hT.2.2.1 G rfl rfl) hT.2.2.2 h dX11_ask_25
  replace h := h.2 c1
  refine lv_iload_n hC.1 hC.2.1 dX11_ask_13 rfl (lv_at hl 3 rfl) ?_
  refine rg_i G (rg_runS (As := [.int a3]) (rest := []) hC hT G (c_X11_isTown l D cy lay Γ h _) (va_cwS 1 hC.2.2.2.2 gX11_ask_X11_isTown rfl rfl rfl hdS_X11_isTown ⟨Nat.le_of_ble_eq_true rfl, Nat.le_of_ble_eq_true rfl⟩) rfl hl.1 rfl (Nat.le_of_ble_eq_true rfl) dX11_ask_14 ⟨Nat.le_of_ble_eq_true rfl, Nat.le_of_ble_eq_true rfl⟩) (fun r2 σ2 H locs h G => ?_)
  (try dsimp only at h)
  refine lv_if_ne (tgt := 26) hC.1 hC.2.1 dX11_ask_17 (by decide) (fun c2 => ?_) (fun c2 => ?_)
  rotate_left
  · replace h := h.1 c2
    refine lv_aload_n hC.1 hC.2.1 dX11_ask_20 rfl (lv_at hl 0 rfl) ?_
    refine lv_iconst (v := 1) hC.1 hC.2.1 dX11_ask_21 (by decide) ?_
    refine rg_i G (rg_runV (As := [.int 1]) (rest := []) hC hT G (c_X11_refuse l D cy lay Γ h _) (cwV 1 hC.2.2.2.2 gX11_ask_X11_refuse rfl rfl rfl hdV_X11_refuse ⟨Nat.le_of_ble_eq_true rfl, Nat.le_of_ble_eq_true rfl⟩) (rg_recv hT G (by decide) r_mo k_X11) rfl hl.1 rfl (Nat.le_of_ble_eq_true rfl) dX11_ask_22 ⟨Nat.le_of_ble_eq_true rfl, Nat.le_of_ble_eq_true rfl⟩) (fun r9 σ9 H locs h G => ?_)
    refine W.widen (k := 2) (n := 27) (by decide) (by decide) ?_
    exact rk_iretz hz9 (Y := (lay, Γ, σ9)) hC hr hlocks G (rS_grow hT.2.2.1 G rfl rfl) hT.2.2.2 h dX11_ask_25
  replace h := h.2 c2
  refine lv_aload_n hC.1 hC.2.1 dX11_ask_26 rfl (lv_at hl 0 rfl) ?_
  refine lv_iload_n hC.1 hC.2.1 dX11_ask_27 rfl (lv_at hl 2 rfl) ?_
  refine rg_i G (rg_runV (As := [.int a2]) (rest := []) hC hT G (c_X11_isDay l D cy lay Γ h _) (cwV 1 hC.2.2.2.2 gX11_ask_X11_isDay rfl rfl rfl hdV_X11_isDay ⟨Nat.le_of_ble_eq_true rfl, Nat.le_of_ble_eq_true rfl⟩) (rg_recv hT G (by decide) r_mo k_X11) rfl hl.1 rfl (Nat.le_of_ble_eq_true rfl) dX11_ask_28 ⟨Nat.le_of_ble_eq_true rfl, Nat.le_of_ble_eq_true rfl⟩) (fun r3 σ3 H locs h G => ?_)
  (try dsimp only at h)
  refine lv_if_eq (tgt := 76) hC.1 hC.2.1 dX11_ask_31 (by decide) (fun c3 => ?_) (fun c3 => ?_)
  · replace h := h.1 c3
    refine lv_aload_n hC.1 hC.2.1 dX11_ask_76 rfl (lv_at hl 0 rfl) ?_
    refine lv_iconst (v := 2) hC.1 hC.2.1 dX11_ask_77 (by decide) ?_
    refine rg_i G (rg_runV (As := [.int 2]) (rest := []) hC hT G (c_X11_refuse l D cy lay Γ h _) (cwV 1 hC.2.2.2.2 gX11_ask_X11_refuse rfl rfl rfl hdV_X11_refuse ⟨Nat.le_of_ble_eq_true rfl, Nat.le_of_ble_eq_true rfl⟩) (rg_recv hT G (by decide) r_mo k_X11) rfl hl.1 rfl (Nat.le_of_ble_eq_true rfl) dX11_ask_78 ⟨Nat.le_of_ble_eq_true rfl, Nat.le_of_ble_eq_true rfl⟩) (fun r9 σ9 H locs h G => ?_)
    refine W.widen (k := 2) (n := 27) (by decide) (by decide) ?_
    exact rk_iretz hz9 (Y := (lay, Γ, σ9)) hC hr hlocks G (rS_grow hT.2.2.1 G rfl rfl) hT.2.2.2 h dX11_ask_81
  replace h := h.2 c3
  refine lv_iload hC.1 hC.2.1 dX11_ask_34 (lv_at hl 4 rfl) ?_
  refine lv_bipush (v := 10) hC.1 hC.2.1 dX11_ask_36 (by decide) ?_
  refine lv_bipush (v := 22) hC.1 hC.2.1 dX11_ask_38 (by decide) ?_
  refine rg_i G (rg_runS (As := [.int a4, .int 10, .int 22]) (rest := []) hC hT G (c_X11_is l D cy lay Γ h _) (va_cwS 3 hC.2.2.2.2 gX11_ask_X11_is rfl rfl rfl hdS_X11_is ⟨Nat.le_of_ble_eq_true rfl, Nat.le_of_ble_eq_true rfl⟩) rfl hl.1 rfl (Nat.le_of_ble_eq_true rfl) dX11_ask_40 ⟨Nat.le_of_ble_eq_true rfl, Nat.le_of_ble_eq_true rfl⟩) (fun r4 σ4 H locs h G => ?_)
  (try dsimp only at h)
  refine lv_if_eq (tgt := 76) hC.1 hC.2.1 dX11_ask_43 (by decide) (fun c4 => ?_) (fun c4 => ?_)
  · replace h := h.1 c4
    refine lv_aload_n hC.1 hC.2.1 dX11_ask_76 rfl (lv_at hl 0 rfl) ?_
    refine lv_iconst (v := 2) hC.1 hC.2.1 dX11_ask_77 (by decide) ?_
    refine rg_i G (rg_runV (As := [.int 2]) (rest := []) hC hT G (c_X11_refuse l D cy lay Γ h _) (cwV 1 hC.2.2.2.2 gX11_ask_X11_refuse rfl rfl rfl hdV_X11_refuse ⟨Nat.le_of_ble_eq_true rfl, Nat.le_of_ble_eq_true rfl⟩) (rg_recv hT G (by decide) r_mo k_X11) rfl hl.1 rfl (Nat.le_of_ble_eq_true rfl) dX11_ask_78 ⟨Nat.le_of_ble_eq_true rfl, Nat.le_of_ble_eq_true rfl⟩) (fun r9 σ9 H locs h G => ?_)
    refine W.widen (k := 2) (n := 27) (by decide) (by decide) ?_
    exact rk_iretz hz9 (Y := (lay, Γ, σ9)) hC hr hlocks G (rS_grow hT.2.2.1 G rfl rfl) hT.2.2.2 h dX11_ask_81
  replace h := h.2 c4
  refine lv_iload hC.1 hC.2.1 dX11_ask_46 (lv_at hl 5 rfl) ?_
  refine lv_iconst (v := 1) hC.1 hC.2.1 dX11_ask_48 (by decide) ?_
  refine lv_bipush (v := 6) hC.1 hC.2.1 dX11_ask_49 (by decide) ?_
  refine rg_i G (rg_runS (As := [.int a5, .int 1, .int 6]) (rest := []) hC hT G (c_X11_is l D cy lay Γ h _) (va_cwS 3 hC.2.2.2.2 gX11_ask_X11_is rfl rfl rfl hdS_X11_is ⟨Nat.le_of_ble_eq_true rfl, Nat.le_of_ble_eq_true rfl⟩) rfl hl.1 rfl (Nat.le_of_ble_eq_true rfl) dX11_ask_51 ⟨Nat.le_of_ble_eq_true rfl, Nat.le_of_ble_eq_true rfl⟩) (fun r5 σ5 H locs h G => ?_)
  (try dsimp only at h)
  refine lv_if_eq (tgt := 76) hC.1 hC.2.1 dX11_ask_54 (by decide) (fun c5 => ?_) (fun c5 => ?_)
  · replace h := h.1 c5
    refine lv_aload_n hC.1 hC.2.1 dX11_ask_76 rfl (lv_at hl 0 rfl) ?_
    refine lv_iconst (v := 2) hC.1 hC.2.1 dX11_ask_77 (by decide) ?_
    refine rg_i G (rg_runV (As := [.int 2]) (rest := []) hC hT G (c_X11_refuse l D cy lay Γ h _) (cwV 1 hC.2.2.2.2 gX11_ask_X11_refuse rfl rfl rfl hdV_X11_refuse ⟨Nat.le_of_ble_eq_true rfl, Nat.le_of_ble_eq_true rfl⟩) (rg_recv hT G (by decide) r_mo k_X11) rfl hl.1 rfl (Nat.le_of_ble_eq_true rfl) dX11_ask_78 ⟨Nat.le_of_ble_eq_true rfl, Nat.le_of_ble_eq_true rfl⟩) (fun r9 σ9 H locs h G => ?_)
    refine W.widen (k := 2) (n := 27) (by decide) (by decide) ?_
    exact rk_iretz hz9 (Y := (lay, Γ, σ9)) hC hr hlocks G (rS_grow hT.2.2.1 G rfl rfl) hT.2.2.2 h dX11_ask_81
  replace h := h.2 c5
  refine lv_iload hC.1 hC.2.1 dX11_ask_57 (lv_at hl 4 rfl) ?_
  refine lv_iload hC.1 hC.2.1 dX11_ask_59 (lv_at hl 5 rfl) ?_
  refine lv_iadd hC.1 hC.2.1 dX11_ask_61 ?_
  refine lv_bipush (v := 24) hC.1 hC.2.1 dX11_ask_62 (by decide) ?_
  refine lv_icmp_gt (tgt := 76) hC.1 hC.2.1 dX11_ask_64 (by decide) (fun c6 => ?_) (fun c6 => ?_)
  · replace h := h.1 c6
    refine lv_aload_n hC.1 hC.2.1 dX11_ask_76 rfl (lv_at hl 0 rfl) ?_
    refine lv_iconst (v := 2) hC.1 hC.2.1 dX11_ask_77 (by decide) ?_
    refine rg_i G (rg_runV (As := [.int 2]) (rest := []) hC hT G (c_X11_refuse l D cy lay Γ h _) (cwV 1 hC.2.2.2.2 gX11_ask_X11_refuse rfl rfl rfl hdV_X11_refuse ⟨Nat.le_of_ble_eq_true rfl, Nat.le_of_ble_eq_true rfl⟩) (rg_recv hT G (by decide) r_mo k_X11) rfl hl.1 rfl (Nat.le_of_ble_eq_true rfl) dX11_ask_78 ⟨Nat.le_of_ble_eq_true rfl, Nat.le_of_ble_eq_true rfl⟩) (fun r9 σ9 H locs h G => ?_)
    refine W.widen (k := 2) (n := 27) (by decide) (by decide) ?_
    exact rk_iretz hz9 (Y := (lay, Γ, σ9)) hC hr hlocks G (rS_grow hT.2.2.1 G rfl rfl) hT.2.2.2 h dX11_ask_81
  replace h := h.2 c6
  refine lv_aload_n hC.1 hC.2.1 dX11_ask_67 rfl (lv_at hl 0 rfl) ?_
  refine lv_iload hC.1 hC.2.1 dX11_ask_68 (lv_at hl 6 rfl) ?_
  refine rg_i G (rg_runV (As := [.int a6]) (rest := []) hC hT G (c_X11_areSongs l D cy lay Γ h _) (cwV 1 hC.2.2.2.2 gX11_ask_X11_areSongs rfl rfl rfl hdV_X11_areSongs ⟨Nat.le_of_ble_eq_true rfl, Nat.le_of_ble_eq_true rfl⟩) (rg_recv hT G (by decide) r_mo k_X11) rfl hl.1 rfl (Nat.le_of_ble_eq_true rfl) dX11_ask_70 ⟨Nat.le_of_ble_eq_true rfl, Nat.le_of_ble_eq_true rfl⟩) (fun r6 σ6 H locs h G => ?_)
  (try dsimp only at h)
  refine lv_if_ne (tgt := 82) hC.1 hC.2.1 dX11_ask_73 (by decide) (fun c7 => ?_) (fun c7 => ?_)
  rotate_left
  · replace h := h.1 c7
    refine lv_aload_n hC.1 hC.2.1 dX11_ask_76 rfl (lv_at hl 0 rfl) ?_
    refine lv_iconst (v := 2) hC.1 hC.2.1 dX11_ask_77 (by decide) ?_
    refine rg_i G (rg_runV (As := [.int 2]) (rest := []) hC hT G (c_X11_refuse l D cy lay Γ h _) (cwV 1 hC.2.2.2.2 gX11_ask_X11_refuse rfl rfl rfl hdV_X11_refuse ⟨Nat.le_of_ble_eq_true rfl, Nat.le_of_ble_eq_true rfl⟩) (rg_recv hT G (by decide) r_mo k_X11) rfl hl.1 rfl (Nat.le_of_ble_eq_true rfl) dX11_ask_78 ⟨Nat.le_of_ble_eq_true rfl, Nat.le_of_ble_eq_true rfl⟩) (fun r9 σ9 H locs h G => ?_)
    refine W.widen (k := 2) (n := 27) (by decide) (by decide) ?_
    exact rk_iretz hz9 (Y := (lay, Γ, σ9)) hC hr hlocks G (rS_grow hT.2.2.1 G rfl rfl) hT.2.2.2 h dX11_ask_81
  replace h := h.2 c7
  refine lv_aload_n hC.1 hC.2.1 dX11_ask_82 rfl (lv_at hl 0 rfl) ?_
  refine rg_get hC hT G (by decide) r_mo k_X11 i_X11_ask_X11 5 (by decide) (wm 2 rfl) rfl dX11_ask_83 ?_
  refine rg_i G (rg_runV (As := []) (rest := []) hC hT G (c_lw_Jx4a65c_size_8abf5 l D cy lay Γ h _) (cwV 0 hC.2.2.2.2 gX11_ask_Jx4a65c_size_8abf5 rfl rfl rfl hdV_Jx4a65c_size_8abf5 ⟨Nat.le_of_ble_eq_true rfl, Nat.le_of_ble_eq_true rfl⟩) (rg_recv hT G (by decide) r_lw k_AL) rfl hl.1 rfl (Nat.le_of_ble_eq_true rfl) dX11_ask_86 ⟨Nat.le_of_ble_eq_true rfl, Nat.le_of_ble_eq_true rfl⟩) (fun r7 σ7 H locs h G => ?_)
  (try dsimp only at h)
  refine lv_bipush (v := 14) hC.1 hC.2.1 dX11_ask_89 (by decide) ?_
  refine lv_icmp_eq (tgt := 103) hC.1 hC.2.1 dX11_ask_91 (by decide) (fun c8 => ?_) (fun c8 => ?_)
  · replace h := h.1 c8
    refine lv_aload_n hC.1 hC.2.1 dX11_ask_103 rfl (lv_at hl 0 rfl) ?_
    refine lv_iconst (v := 3) hC.1 hC.2.1 dX11_ask_104 (by decide) ?_
    refine rg_i G (rg_runV (As := [.int 3]) (rest := []) hC hT G (c_X11_refuse l D cy lay Γ h _) (cwV 1 hC.2.2.2.2 gX11_ask_X11_refuse rfl rfl rfl hdV_X11_refuse ⟨Nat.le_of_ble_eq_true rfl, Nat.le_of_ble_eq_true rfl⟩) (rg_recv hT G (by decide) r_mo k_X11) rfl hl.1 rfl (Nat.le_of_ble_eq_true rfl) dX11_ask_105 ⟨Nat.le_of_ble_eq_true rfl, Nat.le_of_ble_eq_true rfl⟩) (fun r9 σ9 H locs h G => ?_)
    refine W.widen (k := 2) (n := 27) (by decide) (by decide) ?_
    exact rk_iretz hz9 (Y := (lay, Γ, σ9)) hC hr hlocks G (rS_grow hT.2.2.1 G rfl rfl) hT.2.2.2 h dX11_ask_108
  replace h := h.2 c8
  refine lv_aload_n hC.1 hC.2.1 dX11_ask_94 rfl (lv_at hl 0 rfl) ?_
  refine lv_iload_n hC.1 hC.2.1 dX11_ask_95 rfl (lv_at hl 1 rfl) ?_
  refine lv_iload_n hC.1 hC.2.1 dX11_ask_96 rfl (lv_at hl 2 rfl) ?_
  refine rg_i G (rg_runV (As := [.int a1, .int a2]) (rest := []) hC hT G (c_X11_isFixed l D cy lay Γ h _) (cwV 2 hC.2.2.2.2 gX11_ask_X11_isFixed rfl rfl rfl hdV_X11_isFixed ⟨Nat.le_of_ble_eq_true rfl, Nat.le_of_ble_eq_true rfl⟩) (rg_recv hT G (by decide) r_mo k_X11) rfl hl.1 rfl (Nat.le_of_ble_eq_true rfl) dX11_ask_97 ⟨Nat.le_of_ble_eq_true rfl, Nat.le_of_ble_eq_true rfl⟩) (fun r8 σ8 H locs h G => ?_)
  (try dsimp only at h)
  refine lv_if_eq (tgt := 109) hC.1 hC.2.1 dX11_ask_100 (by decide) (fun c9 => ?_) (fun c9 => ?_)
  rotate_left
  · replace h := h.1 c9
    refine lv_aload_n hC.1 hC.2.1 dX11_ask_103 rfl (lv_at hl 0 rfl) ?_
    refine lv_iconst (v := 3) hC.1 hC.2.1 dX11_ask_104 (by decide) ?_
    refine rg_i G (rg_runV (As := [.int 3]) (rest := []) hC hT G (c_X11_refuse l D cy lay Γ h _) (cwV 1 hC.2.2.2.2 gX11_ask_X11_refuse rfl rfl rfl hdV_X11_refuse ⟨Nat.le_of_ble_eq_true rfl, Nat.le_of_ble_eq_true rfl⟩) (rg_recv hT G (by decide) r_mo k_X11) rfl hl.1 rfl (Nat.le_of_ble_eq_true rfl) dX11_ask_105 ⟨Nat.le_of_ble_eq_true rfl, Nat.le_of_ble_eq_true rfl⟩) (fun r9 σ9 H locs h G => ?_)
    refine W.widen (k := 2) (n := 27) (by decide) (by decide) ?_
    exact rk_iretz hz9 (Y := (lay, Γ, σ9)) hC hr hlocks G (rS_grow hT.2.2.1 G rfl rfl) hT.2.2.2 h dX11_ask_108
  replace h := h.2 c9
  obtain ⟨hP, hsz, h⟩ := h
  have hA : ∀ q, s.heap.size ≤ q → rA cy lay Γ s.heap.size q := fun _ h => Or.inr h
  have hG1 : Γ.1 ≤ 10 := hT.2.2.2.1
  refine g_new (k := 33 + Γ.2.2.1) (fs := [.int 0, .int 0, .int 0, .int 0, .int 0, .int 0, .int 0, .int 0, .int 0, .int 0, .int 0, .int 0]) hC hT.1 G hA (r_no_wd hP) k_X10 i_X11_ask_X10 (wm 3 rfl) (wm 4 rfl) (wm 5 rfl) df_X10 (Nat.le_of_ble_eq_true rfl) (Nat.le_of_ble_eq_true rfl) dX11_ask_109 (fun q H G => ?_)
  have eq0 : gU lay (33 + Γ.2.2.1) q (33 + Γ.2.2.1) = q := gU_eq
  rw [eq0]
  refine lv_dup hC.1 hC.2.1 dX11_ask_112 rfl ?_
  refine g_v G hA (h_runIN (host := RX11) (b := gU lay (33 + Γ.2.2.1) q (33 + Γ.2.2.1)) (As := []) (rest := [.ref q]) hC ⟨hT.1, hT.2.1⟩ G (c_X10_init l D cy _ _ (k := 33 + Γ.2.2.1) _) ⟨va_cnB 0 hC.2.2.2.2 ggX11_ask_X10_init rfl rfl rfl (hT.2.1.1 _ (wm 9 rfl)) (hC.2.2.2.2 (.initialized RX10) (wm 5 rfl)) hdI_X10 ⟨Nat.le_of_ble_eq_true rfl, Nat.le_of_ble_eq_true rfl⟩, rfl, hC.2.2.2.2 (.instanceMethod yX10_init) (wm 60 rfl)⟩ rfl hl.1 (by rw [eq0]; rfl) (Nat.le_of_ble_eq_true rfl) dX11_ask_113 ⟨Nat.le_of_ble_eq_true rfl, Nat.le_of_ble_eq_true rfl⟩) (fun Y H locs hY G => ?_)
  subst hY
  obtain ⟨L, e1, el, G⟩ : ∃ L : Nat → Nat, L (33 + Γ.2.2.1) = q ∧ (∀ k, k ≠ 33 + Γ.2.2.1 → L k = lay k) ∧ gG D L (gU (rX cy lay Γ tn σ8) (33 + Γ.2.2.1) (some (wdE 0 0 0 0 0 0 0))) (rA cy lay Γ s.heap.size) s.heap H locs :=
    ⟨gU lay (33 + Γ.2.2.1) q, gU_eq, fun k a => gU_ne a, G⟩
  have x0 : ∀ {a b c d e f g : Int32}, (gU (rX cy lay Γ tn σ8) (33 + Γ.2.2.1) (some (wdE a b c d e f g))) 0 = some (.inr (16, Lmo lay (σ8 0))) := (gU_ne (by omega)).trans r_mo
  refine lv_astore (lv' := [(7, .ref q), (0, .ref (lay 0)), (1, .int a1), (2, .int a2), (3, .int a3), (4, .int a4), (5, .int a5), (6, .int a6)]) hC.1 hC.2.1 dX11_ask_116 hl (by decide) rfl (fun ls hl => ?_)
  refine lv_aload hC.1 hC.2.1 dX11_ask_118 (lv_at hl 0 rfl) ?_
  refine lv_iload_n hC.1 hC.2.1 dX11_ask_120 rfl (lv_at hl 2 rfl) ?_
  refine g_putNA (host := RX11) e1 hC hT.1 G (by omega) gU_eq k_X10 i_X11_ask_X10 0 (by decide) (nest_use _ (nestR_ok _ (wm 10 rfl)) (hT.2.1.1 _ (wm 10 rfl))) rfl rfl rfl (by simp) dX11_ask_121 (fun H locs G => ?_)
  have G : gG D L (gU (rX cy lay Γ tn σ8) (33 + Γ.2.2.1) (some (wdE a1 0 0 0 0 0 0))) (rA cy lay Γ s.heap.size) s.heap H locs := gG_up2 G
  refine lv_aload hC.1 hC.2.1 dX11_ask_124 (lv_at hl 0 rfl) ?_
  refine lv_iload_n hC.1 hC.2.1 dX11_ask_126 rfl (lv_at hl 3 rfl) ?_
  refine g_putNA (host := RX11) e1 hC hT.1 G (by omega) gU_eq k_X10 i_X11_ask_X10 1 (by decide) (nest_use _ (nestR_ok _ (wm 11 rfl)) (hT.2.1.1 _ (wm 11 rfl))) rfl rfl rfl (by simp) dX11_ask_127 (fun H locs G => ?_)
  have G : gG D L (gU (rX cy lay Γ tn σ8) (33 + Γ.2.2.1) (some (wdE a1 a2 0 0 0 0 0))) (rA cy lay Γ s.heap.size) s.heap H locs := gG_up2 G
  refine lv_aload hC.1 hC.2.1 dX11_ask_130 (lv_at hl 0 rfl) ?_
  refine lv_iload_n hC.1 hC.2.1 dX11_ask_132 rfl (lv_at hl 4 rfl) ?_
  refine g_putNA (host := RX11) e1 hC hT.1 G (by omega) gU_eq k_X10 i_X11_ask_X10 2 (by decide) (nest_use _ (nestR_ok _ (wm 12 rfl)) (hT.2.1.1 _ (wm 12 rfl))) rfl rfl rfl (by simp) dX11_ask_133 (fun H locs G => ?_)
  have G : gG D L (gU (rX cy lay Γ tn σ8) (33 + Γ.2.2.1) (some (wdE a1 a2 a3 0 0 0 0))) (rA cy lay Γ s.heap.size) s.heap H locs := gG_up2 G
  refine lv_aload hC.1 hC.2.1 dX11_ask_136 (lv_at hl 0 rfl) ?_
  refine lv_iload hC.1 hC.2.1 dX11_ask_138 (lv_at hl 5 rfl) ?_
  refine g_putNA (host := RX11) e1 hC hT.1 G (by omega) gU_eq k_X10 i_X11_ask_X10 3 (by decide) (nest_use _ (nestR_ok _ (wm 13 rfl)) (hT.2.1.1 _ (wm 13 rfl))) rfl rfl rfl (by simp) dX11_ask_140 (fun H locs G => ?_)
  have G : gG D L (gU (rX cy lay Γ tn σ8) (33 + Γ.2.2.1) (some (wdE a1 a2 a3 a4 0 0 0))) (rA cy lay Γ s.heap.size) s.heap H locs := gG_up2 G
  refine lv_aload hC.1 hC.2.1 dX11_ask_143 (lv_at hl 0 rfl) ?_
  refine lv_iload hC.1 hC.2.1 dX11_ask_145 (lv_at hl 6 rfl) ?_
  refine g_putNA (host := RX11) e1 hC hT.1 G (by omega) gU_eq k_X10 i_X11_ask_X10 4 (by decide) (nest_use _ (nestR_ok _ (wm 14 rfl)) (hT.2.1.1 _ (wm 14 rfl))) rfl rfl rfl (by simp) dX11_ask_147 (fun H locs G => ?_)
  have G : gG D L (gU (rX cy lay Γ tn σ8) (33 + Γ.2.2.1) (some (wdE a1 a2 a3 a4 a5 0 0))) (rA cy lay Γ s.heap.size) s.heap H locs := gG_up2 G
  refine lv_aload hC.1 hC.2.1 dX11_ask_150 (lv_at hl 0 rfl) ?_
  refine lv_iload hC.1 hC.2.1 dX11_ask_152 (lv_at hl 7 rfl) ?_
  refine g_putNA (host := RX11) e1 hC hT.1 G (by omega) gU_eq k_X10 i_X11_ask_X10 5 (by decide) (nest_use _ (nestR_ok _ (wm 15 rfl)) (hT.2.1.1 _ (wm 15 rfl))) rfl rfl rfl (by simp) dX11_ask_154 (fun H locs G => ?_)
  have G : gG D L (gU (rX cy lay Γ tn σ8) (33 + Γ.2.2.1) (some (wdE a1 a2 a3 a4 a5 a6 0))) (rA cy lay Γ s.heap.size) s.heap H locs := gG_up2 G
  refine lv_aload hC.1 hC.2.1 dX11_ask_157 (lv_at hl 0 rfl) ?_
  refine lv_aload_n hC.1 hC.2.1 dX11_ask_159 rfl (lv_at hl 1 rfl) ?_
  rw [show lay 0 = L 0 from (el 0 (by omega)).symm]
  refine g_get (k := 0) hC hT.1 G (by decide) x0 k_X11 i_X11_ask_X11 1 (by decide) (wm 6 rfl) rfl dX11_ask_160 ?_
  refine g_putNA (host := RX11) e1 hC hT.1 G (by omega) gU_eq k_X10 i_X11_ask_X10 6 (by decide) (nest_use _ (nestR_ok _ (wm 16 rfl)) (hT.2.1.1 _ (wm 16 rfl))) rfl rfl rfl (by simp) dX11_ask_163 (fun H locs G => ?_)
  have G : gG D L (gU (rX cy lay Γ tn σ8) (33 + Γ.2.2.1) (some (wdE a1 a2 a3 a4 a5 a6 (σ8 0 1)))) (rA cy lay Γ s.heap.size) s.heap H locs := gG_up2 G
  have fin : ∀ (L' : Nat → Nat) (H : Heap) (locs : List Loc), L' 0 = lay 0 → gG D L' (rX cy L' (Γ.1, Γ.2.1, Γ.2.2.1 + 1, Γ.2.2.2) tn (rwS σ8 Γ.2.2.1 a1 a2 a3 a4 a5 a6 (σ8 0 1))) (rA cy lay Γ s.heap.size) s.heap H locs → W p l e0 rm_X11_ask s m args below meth c H locs 2 27 (MQ below (va_Qi post (rOz z9 D cy (rA cy lay Γ s.heap.size)) (rA cy lay Γ s.heap.size)) args s 2 27 (rA cy lay Γ s.heap.size)) (F0 m 175 ls [.int 1]) := by
    intro L' H locs z0 G
    refine lv_pop hC.1 hC.2.1 dX11_ask_175 rfl ?_
    refine lv_aload_n hC.1 hC.2.1 dX11_ask_176 rfl (lv_at hl 1 rfl) ?_
    rw [← z0]
    refine g_get (k := 0) hC hT.1 G (by decide) r_mo k_X11 i_X11_ask_X11 5 (by decide) (wm 2 rfl) rfl dX11_ask_177 ?_
    refine g_i G hA (h_runV (As := []) (rest := []) hC ⟨hT.1, hT.2.1⟩ G (c_gsz l D cy L' _ (k := 3) (by decide) r_lw _) (cwV 0 hC.2.2.2.2 gX11_ask_Jx4a65c_size_8abf5 rfl rfl rfl hdV_Jx4a65c_size_8abf5 ⟨Nat.le_of_ble_eq_true rfl, Nat.le_of_ble_eq_true rfl⟩) (h_recv (k := 3) ⟨hT.1, hT.2.1⟩ G (by decide) r_lw k_AL) rfl hl.1 rfl (Nat.le_of_ble_eq_true rfl) dX11_ask_180 ⟨Nat.le_of_ble_eq_true rfl, Nat.le_of_ble_eq_true rfl⟩) (fun r Y H locs hY G => ?_)
    obtain ⟨rfl, rfl⟩ := hY
    refine lv_iconst (v := 1) hC.1 hC.2.1 dX11_ask_183 (by decide) ?_
    refine lv_isub hC.1 hC.2.1 dX11_ask_184 ?_
    rw [show (rwS σ8 Γ.2.2.1 a1 a2 a3 a4 a5 a6 (σ8 0 1)) 3 2 = nI (Γ.2.2.1 + 1) from rfl, nI_pred]
    exact rk_iretz (z0.trans hz9) (Y := (L', (Γ.1, Γ.2.1, Γ.2.2.1 + 1, Γ.2.2.2), (rwS σ8 Γ.2.2.1 a1 a2 a3 a4 a5 a6 (σ8 0 1)))) hC hr hlocks G (rS_grow hT.2.2.1 G rfl rfl) ⟨hT.2.2.2.1, hT.2.2.2.2.1, by show Γ.2.2.1 + 1 ≤ 14; omega⟩ (h L') dX11_ask_185
  refine lv_aload_n hC.1 hC.2.1 dX11_ask_166 rfl (lv_at hl 1 rfl) ?_
  rw [show lay 0 = L 0 from (el 0 (by omega)).symm]
  refine g_get (k := 0) hC hT.1 G (by decide) x0 k_X11 i_X11_ask_X11 5 (by decide) (wm 2 rfl) rfl dX11_ask_167 ?_
  refine lv_aload hC.1 hC.2.1 dX11_ask_170 (lv_at hl 0 rfl) ?_
  have el1 : L 3 = lay 3 := el 3 (by omega)
  have hnot : ∀ i, i < Γ.2.2.1 → (gU (rX cy lay Γ tn σ8) (33 + Γ.2.2.1) (some (wdE a1 a2 a3 a4 a5 a6 (σ8 0 1)))) (33 + i) = some (.inr (15, L12 (σ8 (33 + i)))) := fun i hi => (gU_ne (by omega)).trans (r_wd ⟨by omega, hi⟩)
  by_cases hP0 : Γ.2.2.1 = 0
  · have x1 : (gU (rX cy lay Γ tn σ8) (33 + Γ.2.2.1) (some (wdE a1 a2 a3 a4 a5 a6 (σ8 0 1)))) 3 = some (.inr (4, [.int (σ8 3 0), .ref Γ.2.2.2.1, .int 0])) := (gU_ne (by omega)).trans (by rw [r_lw, if_pos hP0, hsz, hP0]; rfl)
    have x4 : (gU (rX cy lay Γ tn σ8) (33 + Γ.2.2.1) (some (wdE a1 a2 a3 a4 a5 a6 (σ8 0 1)))) 6 = none := (gU_ne (by omega)).trans (r_no_ew hP0)
    refine g_i G hA (k_runV (b := L 3) (As := [.ref (L (33 + Γ.2.2.1))]) (rest := []) hC ⟨hT.1, hT.2.1⟩ hZ hA G (c_add_0 l D cy L (gU (rX cy lay Γ tn σ8) (33 + Γ.2.2.1) (some (wdE a1 a2 a3 a4 a5 a6 (σ8 0 1)))) Γ.2.2.2.1 mi (kl := 3) (ke := 6) (kv := 33 + Γ.2.2.1) (ci := 15) (qn := 26) (by decide) (by decide) (by omega) (by decide) (by omega) (by omega) x1 x4 gU_eq rfl rfl _) (cwV 1 hC.2.2.2.2 gX11_ask_Jx4a65c_add_9ea2d rfl rfl rfl hdV_add ⟨Nat.le_of_ble_eq_true rfl, Nat.le_of_ble_eq_true rfl⟩) (h_recv (k := 3) ⟨hT.1, hT.2.1⟩ G (by decide) x1 k_AL) rfl hl.1 (by rw [e1, el1]; rfl) (Nat.le_of_ble_eq_true rfl) dX11_ask_172 ⟨Nat.le_of_ble_eq_true rfl, Nat.le_of_ble_eq_true rfl⟩) (fun r Y H locs hY G => ?_)
    obtain ⟨rfl, q4, rfl⟩ := hY
    refine W.widen (k := 2) (n := 27) (by decide) (by decide) ?_
    refine fin (gU L 6 q4) H locs ((gU_ne (by decide)).trans (el 0 (by omega))) (gG_eq (fun k hk => ?_) G)
    rw [← r_addw (lay' := gU L 6 q4) (o := q4) (cap := 10) (f' := va_up (fun _ => none) 0 (some (L (33 + Γ.2.2.1)))) hP hG1 (fun k b1 b2 => (gU_ne b1).trans (el k b2)) gU_eq (by rw [if_pos (by omega)]) ?_ k]
    · show adX cy (gU (rX cy lay Γ tn σ8) (33 + Γ.2.2.1) (some (wdE a1 a2 a3 a4 a5 a6 (σ8 0 1)))) 3 6 (σ8 3 0 + 1) q4 10 0 (fun _ => none) (L (33 + Γ.2.2.1)) k = _
      unfold adX
      rw [hP0]
    · funext i
      by_cases hi : i = 0
      · subst hi
        rw [va_up_self, if_pos (by omega), gU_ne (by omega), hP0]
      · rw [va_up_ne _ _ hi, if_neg (by omega)]
  have x1 : (gU (rX cy lay Γ tn σ8) (33 + Γ.2.2.1) (some (wdE a1 a2 a3 a4 a5 a6 (σ8 0 1)))) 3 = some (.inr (4, [.int (σ8 3 0), .ref (L 6), .int (nI Γ.2.2.1)])) := (gU_ne (by omega)).trans (by rw [r_lw, if_neg hP0, hsz, el 6 (by omega)])
  have x4 : (gU (rX cy lay Γ tn σ8) (33 + Γ.2.2.1) (some (wdE a1 a2 a3 a4 a5 a6 (σ8 0 1)))) 6 = some (.inl (cy 7, if Γ.2.2.1 ≤ 10 then 10 else 15, rfS fun i => if i < Γ.2.2.1 then some (lay (33 + i)) else none)) := (gU_ne (by omega)).trans (r_eww hP0)
  have hrow : va_up (fun i => if i < Γ.2.2.1 then some (lay (33 + i)) else none) Γ.2.2.1 (some (L (33 + Γ.2.2.1))) = fun i => if i < Γ.2.2.1 + 1 then some (L (33 + i)) else none := by
    funext i
    by_cases hi : i = Γ.2.2.1
    · subst hi
      rw [va_up_self, if_pos (by omega)]
    · rw [va_up_ne _ _ hi]
      by_cases h2 : i < Γ.2.2.1
      · rw [if_pos h2, if_pos (by omega), el (33 + i) (by omega)]
      · rw [if_neg h2, if_neg (by omega)]
  by_cases hP1 : Γ.2.2.1 = 10
  · rw [show nI Γ.2.2.1 = nI 10 from by rw [hP1]] at x1
    rw [if_pos (by omega)] at x4
    refine g_i G hA (k_runV (b := L 3) (As := [.ref (L (33 + Γ.2.2.1))]) (rest := []) hC ⟨hT.1, hT.2.1⟩ hZ hA G (c_adC l D cy L (gU (rX cy lay Γ tn σ8) (33 + Γ.2.2.1) (some (wdE a1 a2 a3 a4 a5 a6 (σ8 0 1)))) Γ.2.2.2.1 mi (kl := 3) (ke := 6) (kn := 64) (kv := 33 + Γ.2.2.1) (ci := 15) (qn := 26) (by decide) (by decide) (by decide) (by decide) x1 x4 ((gU_ne (by omega)).trans ((r_tm (by omega)).trans rfl)) (fun i y hi hy => ⟨33 + i, _, by omega, hnot i (by omega), by rw [if_pos (by omega)] at hy; rw [el (33 + i) (by omega)]; exact Option.some.inj hy⟩) rfl rfl (by omega) (by omega) (by omega) gU_eq _) (cwV 1 hC.2.2.2.2 gX11_ask_Jx4a65c_add_9ea2d rfl rfl rfl hdV_add ⟨Nat.le_of_ble_eq_true rfl, Nat.le_of_ble_eq_true rfl⟩) (h_recv (k := 3) ⟨hT.1, hT.2.1⟩ G (by decide) x1 k_AL) rfl hl.1 (by rw [e1, el1]; rfl) (Nat.le_of_ble_eq_true rfl) dX11_ask_172 ⟨Nat.le_of_ble_eq_true rfl, Nat.le_of_ble_eq_true rfl⟩) (fun r Y H locs hY G => ?_)
    obtain ⟨rfl, q4, rfl⟩ := hY
    refine fin (gU L 6 q4) H locs ((gU_ne (by decide)).trans (el 0 (by omega))) (gG_eq (fun k hk => ?_) G)
    rw [← r_addw (lay' := gU L 6 q4) (o := q4) (cap := 15) (f' := va_up (va_cpy (fun i => if i < Γ.2.2.1 then some (lay (33 + i)) else none) (fun _ => none) 0 0 10) 10 (some (L (33 + Γ.2.2.1)))) hP hG1 (fun k b1 b2 => (gU_ne b1).trans (el k b2)) gU_eq (by rw [if_neg (by omega)]) ?_ k]
    · show adX cy (gU (rX cy lay Γ tn σ8) (33 + Γ.2.2.1) (some (wdE a1 a2 a3 a4 a5 a6 (σ8 0 1)))) 3 6 (σ8 3 0 + 1) q4 15 10 (va_cpy (fun i => if i < Γ.2.2.1 then some (lay (33 + i)) else none) (fun _ => none) 0 0 10) (L (33 + Γ.2.2.1)) k = _
      unfold adX
      rw [hP1]
    · funext i
      by_cases hi : i = 10
      · subst hi
        rw [va_up_self, if_pos (by omega), gU_ne (by omega), hP1]
      · rw [va_up_ne _ _ hi]
        unfold va_cpy
        by_cases h2 : i < Γ.2.2.1
        · rw [if_pos (by omega), show 0 + (i - 0) = i by omega, if_pos (show i < Γ.2.2.1 + 1 by omega), gU_ne (by omega), el (33 + i) (by omega)]
          exact if_pos h2
        · rw [if_neg (by omega), if_neg (by omega)]
  · have hcap : Γ.2.2.1 < (if Γ.2.2.1 ≤ 10 then 10 else 15) := by
      by_cases z : Γ.2.2.1 ≤ 10
      · rw [if_pos z]; omega
      · rw [if_neg z]; omega
    have hcap2 : (if Γ.2.2.1 ≤ 10 then 10 else 15) < 100 := by
      by_cases z : Γ.2.2.1 ≤ 10
      · rw [if_pos z]; omega
      · rw [if_neg z]; omega
    have hcap3 : (if Γ.2.2.1 ≤ 10 then 10 else 15) = if Γ.2.2.1 + 1 ≤ 10 then 10 else 15 := by
      by_cases z : Γ.2.2.1 ≤ 10
      · rw [if_pos z, if_pos (by omega)]
      · rw [if_neg z, if_neg (by omega)]
    refine g_i G hA (k_runV (b := L 3) (As := [.ref (L (33 + Γ.2.2.1))]) (rest := []) hC ⟨hT.1, hT.2.1⟩ hZ hA G (c_add_A l D cy L (gU (rX cy lay Γ tn σ8) (33 + Γ.2.2.1) (some (wdE a1 a2 a3 a4 a5 a6 (σ8 0 1)))) Γ.2.2.2.1 mi (kl := 3) (ke := 6) (kv := 33 + Γ.2.2.1) (ci := 15) (qn := 26) (n := Γ.2.2.1) (by decide) (by decide) (by omega) (by decide) (by omega) hcap hcap2 x1 x4 gU_eq rfl rfl _) (cwV 1 hC.2.2.2.2 gX11_ask_Jx4a65c_add_9ea2d rfl rfl rfl hdV_add ⟨Nat.le_of_ble_eq_true rfl, Nat.le_of_ble_eq_true rfl⟩) (h_recv (k := 3) ⟨hT.1, hT.2.1⟩ G (by decide) x1 k_AL) rfl hl.1 (by rw [e1, el1]; rfl) (Nat.le_of_ble_eq_true rfl) dX11_ask_172 ⟨Nat.le_of_ble_eq_true rfl, Nat.le_of_ble_eq_true rfl⟩) (fun r Y H locs hY G => ?_)
    obtain ⟨rfl, rfl⟩ := hY
    refine W.widen (k := 2) (n := 27) (by decide) (by decide) ?_
    refine fin L H locs (el 0 (by omega)) (gG_eq (fun k hk => ?_) G)
    rw [← r_addw (lay' := L) (o := L 6) (f' := va_up (fun i => if i < Γ.2.2.1 then some (lay (33 + i)) else none) Γ.2.2.1 (some (L (33 + Γ.2.2.1)))) hP hG1 (fun k b1 b2 => el k b2) rfl hcap3 hrow k]
    rfl
end
section
/-! THE REFERENCE: adding to a list what lies outside the world (a band's Integer) -/
def hKb (D : va_G) (cy : Nat → ClassId) (lay : Nat → Nat) (X : Nat → Option va_E) (ea mi v : Nat) (C : String) (sz : Nat) (U : State) : Prop := hK D cy lay X ea mi sz U ∧ va_O C v (gA lay X sz) U U.heap
theorem hKb_blind {D : va_G} {cy : Nat → ClassId} {lay : Nat → Nat} {X : Nat → Option va_E} {ea mi v : Nat} {C : String} {sz : Nat} {As : List Value} : FrameBlind (va_Pc As (hKb D cy lay X ea mi v C sz)) := by
  intro a U g mk h
  obtain ⟨h0, h1, h2⟩ := h
  have := hK_blind (D := D) (cy := cy) (lay := lay) (X := X) (ea := ea) (mi := mi) (sz := sz) (As := As) a U g mk ⟨h0, h1⟩
  exact ⟨this.1, this.2, va_O.moved (u := U) (U := U.calling g mk a) (Vm.Alike.refl U.vm) h2⟩
section KB
variable {p : Program} {l : Launch} {e : Env} {R : Room} {s : State} {m : MethodId} {args : Array Value} {below : List Frame} {meth : Method} {c : Code} {H : Heap} {locs : List Loc} {cells slots : Nat} {Q : State → Prop}
variable {cc bytes : ByteArray} {pc nL maxL mc ms n index ea mi v : Nat} {ls : Array Slot} {ST rest As : List Value} {D : va_G} {cy : Nat → ClassId} {lay : Nat → Nat} {X : Nat → Option va_E} {A : Nat → Prop} {H0 : Heap} {Ts ws : List Cond} {own Cn C host : String} {y : MethodName} {ret : Option FieldType} {rm : Room} {b : Addr} {tys : List (ClassId × FieldType)}
variable {Qc : Array Value → State → Outcome → State → Prop} {free : Addr → Prop}
theorem kb_ofW {ws' : List Cond} {maxL : Nat} {sz : Nat} {Qc : Nat → Array Value → State → Outcome → State → Prop} (hy : plainName y.cls = true) (hw : ws = Cond.code y cc maxL ret :: ws') (hnl : (lg_sl As).length ≤ maxL) (hoo : y.cls = own)
    (body : ∀ (p : Program) (e : Env) (s : State) (m : MethodId) (args : Array Value) (below : List Frame) (meth : Method) (c : Code) (ls : Array Slot), CallFix p m c cc maxL s args ws own → meth.sig.returnType = ret → meth.locks = false → meth.name = y.name → va_K D vwCl (fdT cy) s ∧ rN s → hZs D cy ea mi (gA lay X s.heap.size) s → va_O C v (gA lay X s.heap.size) s s.heap → gG D lay X (gA lay X s.heap.size) s.heap s.heap [] → lv_has ls maxL (lv_args 0 As) →
      W p l e rm s m args below meth c s.heap [] 0 0 (MQ below (Qc s.heap.size) args s mc ms (gA lay X s.heap.size)) (F0 m 0 ls [])) : Met l y ws rm (va_Pc As (hKb D cy lay X ea mi v C sz)) (Qc sz) mc ms (gA lay X sz) := by
  refine Met.ofW (cc := cc) (maxL := maxL) (ret := ret) hy hw ?_
  intro p e s m args below meth c s₁ B hml hv
  obtain ⟨rfl, ⟨⟨hsz, hT, hP, hI⟩, hZ⟩, hO⟩ := hv
  subst hsz
  have hl := lv_entry As (n := maxL) hnl
  rw [lg_entry_eq]
  have hown : s.vm.findClass y.cls = some m.cls := findClass_of_methodNamed B.named
  rw [hoo] at hown
  exact body p e s m As.toArray below meth c _ ⟨B.exec, B.bytes, hml, hown, atoms_spec (ws := ws) B.pre⟩ B.returns B.notSynchronized (name_of_methodNamed B.named B.method).1 hT hZ hO ⟨hP, gI_self hI, va_S.rf⟩ hl
theorem kb_runV (hC : CallFix p m c cc nL s args Ts own) (hT : va_K D vwCl (fdT cy) s ∧ rN s) (hZ : hZs D cy ea mi A s) (hA : ∀ q, s.heap.size ≤ q → A q) (G : gG D lay X A s.heap H locs) (hO : va_O C v (gA lay X H.size) s H) (hM : Met l y ws rm (va_Pc (.ref b :: As) (hKb D cy lay X ea mi v C H.size)) Qc mc ms free) (cw : CallW R s args own Cn index y bytes maxL ret ws rm mc ms n) (hrv : ∃ cell : Cell, H[b]? = some cell ∧ cell.vm.isStatics = false ∧ s.vm.findClass Cn = some cell.cls)
    (hn : As.length = n) (hls : ls.size = nL) (hst : ST = As.reverse ++ .ref b :: rest) (hW : (rest.map fun v => v.category).sum ≤ 8) (hdg : decode cc pc = .ok (.invokevirtual index, 3)) (hf : cells + mc ≤ R.cells ∧ slots + ms ≤ R.slots) :
    va_Run p l e R s m args below meth c H locs cells slots mc ms (F0 m pc ls ST) rest (Qc (.ref b :: As).toArray) free :=
  va_runV hC hM cw ⟨hKb_blind, hrv, fun U hU hW => ⟨rfl, hK_next hT hZ G hA hU hW, by rw [hU]; exact va_O.moved hW.alike hO⟩⟩ rfl hn hls hst (lv_room hW) hdg hf
/-- what lies outside the world put into a row of objects -/
theorem g_astb {k a : Nat} (ha : lay k = a) (hC : CallFix p m c cc nL s args Ts own) (hT : va_K D vwCl (fdT cy) s) (G : gG D lay X A H0 H locs) (hk : k < 128) {n : Nat} {f : Nat → Option Nat} (he : X k = some (.inl (cy 7, n, rfS f))) (hca : va_Nw (.castable C "java/lang/Object") s) (hr : ∃ cell : Cell, H[v]? = some cell ∧ cell.vm.isStatics = false ∧ s.vm.findClass C = some cell.cls) {i : Int32} (hin : vp_in i n) (hdg : decode cc pc = .ok (.aastore, 1))
    (kk : ∀ (H1 : Heap) (locs1 : List Loc), gG D lay (gU X k (some (.inl (cy 7, n, rfS (va_up f i.toNatClampNeg (some v)))))) A H0 H1 locs1 → W p l e R s m args below meth c H1 locs1 cells slots Q (F0 m (pc + 1) ls rest)) : W p l e R s m args below meth c H locs cells slots Q (F0 m pc ls (.ref v :: .int i :: .ref a :: rest)) := by
  subst ha
  obtain ⟨q0, hq⟩ := gW_pos (lay := lay) hk he
  exact vb_astq hC.1 hC.2.1 hT (gP_list G.1) (gI_list G.2.1) G.2.2 q0 7 hq rfl hr (vb_asgC hca) hin hdg (fun H1 locs1 hP hD hS => kk H1 locs1 ⟨gP_set G.2.1 hk he hq hP, gI_set G.2.1 he, hS⟩)
theorem o_cell {A : Nat → Prop} (hO : va_O C v A s s.heap) (hS : va_S A s.heap H locs) : ∃ cell : Cell, H[v]? = some cell ∧ cell.vm.isStatics = false ∧ s.vm.findClass C = some cell.cls := by
  obtain ⟨cell, h1, h2, h3, -⟩ := hO.kept hS.2.1
  exact ⟨cell, h1, h2, h3⟩
end KB
set_option maxHeartbeats 4000000 in
set_option maxRecDepth 100000 in
theorem c_bd3_0 (l : Launch) (D : va_G) (cy : Nat → ClassId) (lay : Nat → Nat) (X : Nat → Option va_E) (ea mi : Nat) {kl ke v qn : Nat} {C : String} (hkl : kl < 128) (hke : ke < 128) (hne : kl ≠ ke) {mo : Int32} (h1 : X kl = some (.inr (4, [.int mo, .ref ea, .int 0]))) (h2 : X ke = none) (hqn : nestR[qn]? = some (.castable C "java/lang/Object")) (sz : Nat) : Met l yJx4a65c_add_72be8 wsJx4a65c_add_72be8 rm_ad3 (va_Pc [.ref (lay kl), .ref v, .ref ea, .int 0] (hKb D cy lay X ea mi v C sz)) (va_Qv (fun Y : GY => ∃ q, Y = (gU lay ke q, adX cy X kl ke mo q 10 0 (fun _ => none) v)) (gO D (gA lay X sz)) (gA lay X sz)) 1 10 (gA lay X sz) := by
  refine kb_ofW (cc := cJx4a65c_add_72be8) (maxL := 4) (ret := none) (own := RJx4a65c) (Qc := fun sz => va_Qv (fun Y : GY => ∃ q, Y = (gU lay ke q, adX cy X kl ke mo q 10 0 (fun _ => none) v)) (gO D (gA lay X sz)) (gA lay X sz)) (by decide) rfl (Nat.le_of_ble_eq_true rfl) rfl ?_
  intro p e0 s m args below meth c ls hC hr hlocks hname hT hZ hO G hl
  have hl : lv_has ls 4 [(0, .ref (lay kl)), (1, .ref v), (2, .ref ea), (3, .int 0)] := hl
  have hA : ∀ q, s.heap.size ≤ q → gA lay X s.heap.size q := fun _ h => Or.inr h
  refine lv_iload_n hC.1 hC.2.1 dJx4a65c_add_72be8_0 rfl (lv_at hl 3 rfl) ?_
  refine lv_aload_n hC.1 hC.2.1 dJx4a65c_add_72be8_1 rfl (lv_at hl 2 rfl) ?_
  refine va_tlen (ty := .object "java/lang/Object") (N := 0) (f := fun _ => .null) hC.1 hC.2.1 hZ.2.1 G.2.2 rfl dJx4a65c_add_72be8_2 ?_
  refine lv_icmp_ne (tgt := 11) hC.1 hC.2.1 dJx4a65c_add_72be8_3 (by decide) (fun c1 => absurd rfl c1) (fun _ => ?_)
  refine lv_aload_n hC.1 hC.2.1 dJx4a65c_add_72be8_6 rfl (lv_at hl 0 rfl) ?_
  refine k_r (f := fun Y => Y.1 ke) G hA (k_runV (As := []) (rest := []) hC hT hZ hA G (c_gr1 l D cy lay X ea mi hkl hke hne h1 h2 _) (cwV 0 hC.2.2.2.2 gJx4a65c_add_72be8_Jx4a65c_grow_d5877 rfl rfl rfl hdV_gr1 ⟨Nat.le_of_ble_eq_true rfl, Nat.le_of_ble_eq_true rfl⟩) (h_recv hT G hkl h1 k_AL) rfl hl.1 rfl (Nat.le_of_ble_eq_true rfl) dJx4a65c_add_72be8_7 ⟨Nat.le_of_ble_eq_true rfl, Nat.le_of_ble_eq_true rfl⟩) (fun Y H locs hY G => ?_)
  obtain ⟨q, rfl⟩ := hY
  have G : gG D (gU lay ke q) (gU (gU X ke (some (arr0 cy))) kl (some (.inr (4, [.int mo, .ref q, .int 0])))) (gA lay X s.heap.size) s.heap H locs := G
  have e1 : gU lay ke q kl = lay kl := gU_ne hne
  have e3 : gU lay ke q ke = q := gU_eq
  refine lv_astore_n (lv' := [(2, .ref q), (0, .ref (lay kl)), (1, .ref v), (3, .int 0)]) hC.1 hC.2.1 dJx4a65c_add_72be8_10 rfl hl (by decide) (by show (2, Value.ref (gU lay ke q ke)) :: _ = _; rw [e3]; rfl) (fun ls hl => ?_)
  refine lv_aload_n hC.1 hC.2.1 dJx4a65c_add_72be8_11 rfl (lv_at hl 0 rfl) ?_
  refine lv_iload_n hC.1 hC.2.1 dJx4a65c_add_72be8_12 rfl (lv_at hl 3 rfl) ?_
  refine lv_aload_n hC.1 hC.2.1 dJx4a65c_add_72be8_13 rfl (lv_at hl 2 rfl) ?_
  refine g_astb e3 hC hT.1 G hke ((gU_ne (Ne.symm hne)).trans gU_eq) (hT.2.1 _ (wm qn hqn)) (o_cell hO G.2.2) (show vp_in (nI 0) 10 from vp_in_nI (by decide) (by decide)) dJx4a65c_add_72be8_14 (fun H locs G => ?_)
  refine lv_aload_n hC.1 hC.2.1 dJx4a65c_add_72be8_15 rfl (lv_at hl 1 rfl) ?_
  refine lv_iload_n hC.1 hC.2.1 dJx4a65c_add_72be8_16 rfl (lv_at hl 3 rfl) ?_
  refine lv_iconst (v := 1) hC.1 hC.2.1 dJx4a65c_add_72be8_17 (by decide) ?_
  refine lv_iadd hC.1 hC.2.1 dJx4a65c_add_72be8_18 ?_
  refine g_putA (a := lay kl) e1 hC hT.1 G hkl ((gU_ne hne).trans gU_eq) k_AL i_ad3_L 2 (by decide) (wm 1 rfl) rfl rfl rfl (by simp) dJx4a65c_add_72be8_19 (fun H locs G => ?_)
  have G : gG D (gU lay ke q) (adX cy X kl ke mo q 10 0 (fun _ => none) v) (gA lay X s.heap.size) s.heap H locs := by
    unfold adX
    rw [← gU4 (a := some (arr0 cy)) (b := some (.inr (4, [.int mo, .ref q, .int 0])))]
    exact G
  exact g_vret (Y := (gU lay ke q, adX cy X kl ke mo q 10 0 (fun _ => none) v)) hC hr hlocks G ⟨q, rfl⟩ dJx4a65c_add_72be8_22
set_option maxHeartbeats 4000000 in
set_option maxRecDepth 100000 in
theorem c_bd3_A (l : Launch) (D : va_G) (cy : Nat → ClassId) (lay : Nat → Nat) (X : Nat → Option va_E) (ea mi : Nat) {kl ke v qn n cap : Nat} {C : String} {f : Nat → Option Nat} (hkl : kl < 128) (hke : ke < 128) (hne : kl ≠ ke) (hn : n < cap) (hcap : cap < 100) {mo : Int32} (h1 : X kl = some (.inr (4, [.int mo, .ref (lay ke), .int (nI n)]))) (h2 : X ke = some (.inl (cy 7, cap, rfS f))) (hqn : nestR[qn]? = some (.castable C "java/lang/Object")) (sz : Nat) : Met l yJx4a65c_add_72be8 wsJx4a65c_add_72be8 rm_ad3 (va_Pc [.ref (lay kl), .ref v, .ref (lay ke), .int (nI n)] (hKb D cy lay X ea mi v C sz)) (va_Qv (fun Y : GY => Y = (lay, adX cy X kl ke mo (lay ke) cap n f v)) (gO D (gA lay X sz)) (gA lay X sz)) 1 10 (gA lay X sz) := by
  refine kb_ofW (cc := cJx4a65c_add_72be8) (maxL := 4) (ret := none) (own := RJx4a65c) (Qc := fun sz => va_Qv (fun Y : GY => Y = (lay, adX cy X kl ke mo (lay ke) cap n f v)) (gO D (gA lay X sz)) (gA lay X sz)) (by decide) rfl (Nat.le_of_ble_eq_true rfl) rfl ?_
  intro p e0 s m args below meth c ls hC hr hlocks hname hT hZ hO G hl
  have hl : lv_has ls 4 [(0, .ref (lay kl)), (1, .ref v), (2, .ref (lay ke)), (3, .int (nI n))] := hl
  refine lv_iload_n hC.1 hC.2.1 dJx4a65c_add_72be8_0 rfl (lv_at hl 3 rfl) ?_
  refine lv_aload_n hC.1 hC.2.1 dJx4a65c_add_72be8_1 rfl (lv_at hl 2 rfl) ?_
  obtain ⟨q0, hq0⟩ := gW_pos (lay := lay) hke h2
  refine va_alen hC.1 hC.2.1 hT.1 (gP_list G.1) q0 7 hq0 rfl rfl dJx4a65c_add_72be8_2 ?_
  refine lv_icmp_ne (tgt := 11) hC.1 hC.2.1 dJx4a65c_add_72be8_3 (by decide) (fun _ => ?_) (fun c1 => absurd (by rw [c1]; exact Int32.le_refl _) (nI_ge hn (by omega)))
  refine lv_aload_n hC.1 hC.2.1 dJx4a65c_add_72be8_11 rfl (lv_at hl 2 rfl) ?_
  refine lv_iload_n hC.1 hC.2.1 dJx4a65c_add_72be8_12 rfl (lv_at hl 3 rfl) ?_
  refine lv_aload_n hC.1 hC.2.1 dJx4a65c_add_72be8_13 rfl (lv_at hl 1 rfl) ?_
  refine g_astb rfl hC hT.1 G hke h2 (hT.2.1 _ (wm qn hqn)) (o_cell hO G.2.2) (vp_in_nI hn (by omega)) dJx4a65c_add_72be8_14 (fun H locs G => ?_)
  refine lv_aload_n hC.1 hC.2.1 dJx4a65c_add_72be8_15 rfl (lv_at hl 0 rfl) ?_
  refine lv_iload_n hC.1 hC.2.1 dJx4a65c_add_72be8_16 rfl (lv_at hl 3 rfl) ?_
  refine lv_iconst (v := 1) hC.1 hC.2.1 dJx4a65c_add_72be8_17 (by decide) ?_
  refine lv_iadd hC.1 hC.2.1 dJx4a65c_add_72be8_18 ?_
  rw [nI_1, nI_clamp (show n < 2 ^ 31 by omega)] at *
  refine g_put hC hT.1 G hkl ((gU_ne hne).trans h1) k_AL i_ad3_L 2 (by decide) (wm 1 rfl) rfl rfl rfl (by simp) dJx4a65c_add_72be8_19 (fun H locs G => ?_)
  have G : gG D lay (adX cy X kl ke mo (lay ke) cap n f v) (gA lay X s.heap.size) s.heap H locs := G
  refine W.widen (k := 1) (n := 10) (by decide) (by decide) ?_
  exact g_vret (Y := (lay, adX cy X kl ke mo (lay ke) cap n f v)) hC hr hlocks G rfl dJx4a65c_add_72be8_22
/-! add(E): on the empty list -/
set_option maxHeartbeats 4000000 in
set_option maxRecDepth 100000 in
theorem c_bdd_0 (l : Launch) (D : va_G) (cy : Nat → ClassId) (lay : Nat → Nat) (X : Nat → Option va_E) (ea mi : Nat) {kl ke v qn : Nat} {C : String} (hkl : kl < 128) (hke : ke < 128) (hne : kl ≠ ke) {mo : Int32} (h1 : X kl = some (.inr (4, [.int mo, .ref ea, .int 0]))) (h2 : X ke = none) (hqn : nestR[qn]? = some (.castable C "java/lang/Object")) (sz : Nat) : Met l yJx4a65c_add_9ea2d wsJx4a65c_add_9ea2d rm_add (va_Pc [.ref (lay kl), .ref v] (hKb D cy lay X ea mi v C sz)) (va_Qi (fun x (Y : GY) => x = 1 ∧ ∃ q, Y = (gU lay ke q, adX cy X kl ke (mo + 1) q 10 0 (fun _ => none) v)) (gO D (gA lay X sz)) (gA lay X sz)) 1 10 (gA lay X sz) := by
  refine kb_ofW (cc := cJx4a65c_add_9ea2d) (maxL := 2) (ret := some .boolean) (own := RJx4a65c) (Qc := fun sz => va_Qi (fun x (Y : GY) => x = 1 ∧ ∃ q, Y = (gU lay ke q, adX cy X kl ke (mo + 1) q 10 0 (fun _ => none) v)) (gO D (gA lay X sz)) (gA lay X sz)) (by decide) rfl (Nat.le_of_ble_eq_true rfl) rfl ?_
  intro p e0 s m args below meth c ls hC hr hlocks hname hT hZ hO G hl
  have hl : lv_has ls 2 [(0, .ref (lay kl)), (1, .ref v)] := hl
  have hA : ∀ q, s.heap.size ≤ q → gA lay X s.heap.size q := fun _ h => Or.inr h
  refine lv_aload_n hC.1 hC.2.1 dJx4a65c_add_9ea2d_0 rfl (lv_at hl 0 rfl) ?_
  refine lv_dup hC.1 hC.2.1 dJx4a65c_add_9ea2d_1 rfl ?_
  refine g_getS hC hT.1 G hkl h1 k_AL i_add_L 0 (by decide) (wm 1 rfl) (wm 2 rfl) rfl dJx4a65c_add_9ea2d_2 ?_
  refine lv_iconst (v := 1) hC.1 hC.2.1 dJx4a65c_add_9ea2d_5 (by decide) ?_
  refine lv_iadd hC.1 hC.2.1 dJx4a65c_add_9ea2d_6 ?_
  refine g_putS hC hT.1 G hkl h1 k_AL i_add_L 0 (by decide) (wm 1 rfl) (wm 2 rfl) rfl rfl rfl (by simp) dJx4a65c_add_9ea2d_7 (fun H locs G => ?_)
  have G : gG D lay (gU X kl (some (.inr (4, [.int (mo + 1), .ref ea, .int 0])))) (gA lay X s.heap.size) s.heap H locs := G
  refine lv_aload_n hC.1 hC.2.1 dJx4a65c_add_9ea2d_10 rfl (lv_at hl 0 rfl) ?_
  refine lv_aload_n hC.1 hC.2.1 dJx4a65c_add_9ea2d_11 rfl (lv_at hl 1 rfl) ?_
  refine lv_aload_n hC.1 hC.2.1 dJx4a65c_add_9ea2d_12 rfl (lv_at hl 0 rfl) ?_
  refine g_get hC hT.1 G hkl gU_eq k_AL i_add_L 1 (by decide) (wm 3 rfl) rfl dJx4a65c_add_9ea2d_13 ?_
  refine lv_aload_n hC.1 hC.2.1 dJx4a65c_add_9ea2d_16 rfl (lv_at hl 0 rfl) ?_
  refine g_get hC hT.1 G hkl gU_eq k_AL i_add_L 2 (by decide) (wm 4 rfl) rfl dJx4a65c_add_9ea2d_17 ?_
  refine g_v G hA (kb_runV (As := [.ref v, .ref ea, .int 0]) (rest := []) hC hT hZ hA G (bxO_kept hO G.2.2.2.1 (fun q _ h => gA_in G hA q h)) (c_bd3_0 l D cy lay (gU X kl (some (.inr (4, [.int (mo + 1), .ref ea, .int 0])))) ea mi hkl hke hne gU_eq ((gU_ne (Ne.symm hne)).trans h2) hqn _) (cwV 3 hC.2.2.2.2 gJx4a65c_add_9ea2d_Jx4a65c_add_72be8 rfl rfl rfl hdV_ad3 ⟨Nat.le_of_ble_eq_true rfl, Nat.le_of_ble_eq_true rfl⟩) (h_recv hT G hkl gU_eq k_AL) rfl hl.1 rfl (Nat.le_of_ble_eq_true rfl) dJx4a65c_add_9ea2d_20 ⟨Nat.le_of_ble_eq_true rfl, Nat.le_of_ble_eq_true rfl⟩) (fun Y H locs hY G => ?_)
  obtain ⟨q, rfl⟩ := hY
  have G : gG D (gU lay ke q) (adX cy X kl ke (mo + 1) q 10 0 (fun _ => none) v) (gA lay X s.heap.size) s.heap H locs := by
    have e : adX cy (gU X kl (some (.inr (4, [.int (mo + 1), .ref ea, .int 0])))) kl ke (mo + 1) q 10 0 (fun _ => none) v = adX cy X kl ke (mo + 1) q 10 0 (fun _ => none) v := by
      unfold adX
      exact gU3
    rw [← e]
    exact G
  refine lv_iconst (v := 1) hC.1 hC.2.1 dJx4a65c_add_9ea2d_23 (by decide) ?_
  exact W.zret (v := 1) hC.1 hC.2.1 hr rfl (fun t ht hW => ⟨⟨1, (gU lay ke q, adX cy X kl ke (mo + 1) q 10 0 (fun _ => none) v), rfl, ⟨rfl, q, rfl⟩, by rw [ht]; exact G.1, G.2.1⟩, G.2.2.F ht⟩) G.2.2.2.2 dJx4a65c_add_9ea2d_24 hlocks
/-! add(E): where there is room -/
set_option maxHeartbeats 4000000 in
set_option maxRecDepth 100000 in
theorem c_bdd_A (l : Launch) (D : va_G) (cy : Nat → ClassId) (lay : Nat → Nat) (X : Nat → Option va_E) (ea mi : Nat) {kl ke v qn n cap : Nat} {C : String} {f : Nat → Option Nat} (hkl : kl < 128) (hke : ke < 128) (hne : kl ≠ ke) (hn : n < cap) (hcap : cap < 100) {mo : Int32} (h1 : X kl = some (.inr (4, [.int mo, .ref (lay ke), .int (nI n)]))) (h2 : X ke = some (.inl (cy 7, cap, rfS f))) (hqn : nestR[qn]? = some (.castable C "java/lang/Object")) (sz : Nat) : Met l yJx4a65c_add_9ea2d wsJx4a65c_add_9ea2d rm_add (va_Pc [.ref (lay kl), .ref v] (hKb D cy lay X ea mi v C sz)) (va_Qi (fun x (Y : GY) => x = 1 ∧ Y = (lay, adX cy X kl ke (mo + 1) (lay ke) cap n f v)) (gO D (gA lay X sz)) (gA lay X sz)) 1 10 (gA lay X sz) := by
  refine kb_ofW (cc := cJx4a65c_add_9ea2d) (maxL := 2) (ret := some .boolean) (own := RJx4a65c) (Qc := fun sz => va_Qi (fun x (Y : GY) => x = 1 ∧ Y = (lay, adX cy X kl ke (mo + 1) (lay ke) cap n f v)) (gO D (gA lay X sz)) (gA lay X sz)) (by decide) rfl (Nat.le_of_ble_eq_true rfl) rfl ?_
  intro p e0 s m args below meth c ls hC hr hlocks hname hT hZ hO G hl
  have hl : lv_has ls 2 [(0, .ref (lay kl)), (1, .ref v)] := hl
  have hA : ∀ q, s.heap.size ≤ q → gA lay X s.heap.size q := fun _ h => Or.inr h
  refine lv_aload_n hC.1 hC.2.1 dJx4a65c_add_9ea2d_0 rfl (lv_at hl 0 rfl) ?_
  refine lv_dup hC.1 hC.2.1 dJx4a65c_add_9ea2d_1 rfl ?_
  refine g_getS hC hT.1 G hkl h1 k_AL i_add_L 0 (by decide) (wm 1 rfl) (wm 2 rfl) rfl dJx4a65c_add_9ea2d_2 ?_
  refine lv_iconst (v := 1) hC.1 hC.2.1 dJx4a65c_add_9ea2d_5 (by decide) ?_
  refine lv_iadd hC.1 hC.2.1 dJx4a65c_add_9ea2d_6 ?_
  refine g_putS hC hT.1 G hkl h1 k_AL i_add_L 0 (by decide) (wm 1 rfl) (wm 2 rfl) rfl rfl rfl (by simp) dJx4a65c_add_9ea2d_7 (fun H locs G => ?_)
  have G : gG D lay (gU X kl (some (.inr (4, [.int (mo + 1), .ref (lay ke), .int (nI n)])))) (gA lay X s.heap.size) s.heap H locs := G
  refine lv_aload_n hC.1 hC.2.1 dJx4a65c_add_9ea2d_10 rfl (lv_at hl 0 rfl) ?_
  refine lv_aload_n hC.1 hC.2.1 dJx4a65c_add_9ea2d_11 rfl (lv_at hl 1 rfl) ?_
  refine lv_aload_n hC.1 hC.2.1 dJx4a65c_add_9ea2d_12 rfl (lv_at hl 0 rfl) ?_
  refine g_get hC hT.1 G hkl gU_eq k_AL i_add_L 1 (by decide) (wm 3 rfl) rfl dJx4a65c_add_9ea2d_13 ?_
  refine lv_aload_n hC.1 hC.2.1 dJx4a65c_add_9ea2d_16 rfl (lv_at hl 0 rfl) ?_
  refine g_get hC hT.1 G hkl gU_eq k_AL i_add_L 2 (by decide) (wm 4 rfl) rfl dJx4a65c_add_9ea2d_17 ?_
  refine g_v G hA (kb_runV (As := [.ref v, .ref (lay ke), .int (nI n)]) (rest := []) hC hT hZ hA G (bxO_kept hO G.2.2.2.1 (fun q _ h => gA_in G hA q h)) (c_bd3_A l D cy lay (gU X kl (some (.inr (4, [.int (mo + 1), .ref (lay ke), .int (nI n)])))) ea mi hkl hke hne hn hcap gU_eq ((gU_ne (Ne.symm hne)).trans h2) hqn _) (cwV 3 hC.2.2.2.2 gJx4a65c_add_9ea2d_Jx4a65c_add_72be8 rfl rfl rfl hdV_ad3 ⟨Nat.le_of_ble_eq_true rfl, Nat.le_of_ble_eq_true rfl⟩) (h_recv hT G hkl gU_eq k_AL) rfl hl.1 rfl (Nat.le_of_ble_eq_true rfl) dJx4a65c_add_9ea2d_20 ⟨Nat.le_of_ble_eq_true rfl, Nat.le_of_ble_eq_true rfl⟩) (fun Y H locs hY G => ?_)
  subst hY
  have G : gG D lay (adX cy X kl ke (mo + 1) (lay ke) cap n f v) (gA lay X s.heap.size) s.heap H locs := by
    have e : adX cy (gU X kl (some (.inr (4, [.int (mo + 1), .ref (lay ke), .int (nI n)])))) kl ke (mo + 1) (lay ke) cap n f v = adX cy X kl ke (mo + 1) (lay ke) cap n f v := by
      unfold adX
      exact gU3
    rw [← e]
    exact G
  refine lv_iconst (v := 1) hC.1 hC.2.1 dJx4a65c_add_9ea2d_23 (by decide) ?_
  exact W.zret (v := 1) hC.1 hC.2.1 hr rfl (fun t ht hW => ⟨⟨1, (lay, adX cy X kl ke (mo + 1) (lay ke) cap n f v), rfl, ⟨rfl, rfl⟩, by rw [ht]; exact G.1, G.2.1⟩, G.2.2.F ht⟩) G.2.2.2.2 dJx4a65c_add_9ea2d_24 hlocks
end
