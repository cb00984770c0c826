/-! THE REFERENCE: adding to a full list (the eleventh wedding): a longer row -/
section K2
variable {p : Program} {l : Launch} {e : Env} {R : Room} {s : State} {m : MethodId} {args : Array Value} {below : List Frame} {meth : Method} {c : Code} {H : Heap} {locs : List Loc} {cells slots : Nat} {Q : State → Prop}
variable {cc bytes : ByteArray} {pc nL maxL mc ms n index ea mi : Nat} {ls : Array Slot} {ST rest As : List Value} {D : va_G} {cy : Nat → ClassId} {lay : Nat → Nat} {X : Nat → Option va_E} {A : Nat → Prop} {H0 : Heap} {Ts ws : List Cond} {own Cn host : String} {y : MethodName} {ret : Option FieldType} {rm : Room} {b : Addr} {tys : List (ClassId × FieldType)}
variable {Qc : Array Value → State → Outcome → State → Prop} {free : Addr → Prop}
theorem k_runS (hC : CallFix p m c cc nL s args Ts own) (hT : va_K D vwCl (fdT cy) s ∧ rN s) (hZ : hZs D cy ea mi A s) (hA : ∀ q, s.heap.size ≤ q → A q) (G : gG D lay X A s.heap H locs) (hM : Met l y ws rm (va_Pc As (hK D cy lay X ea mi H.size)) Qc mc ms free) (cw : CallB R s args own index y bytes maxL ret ws rm mc ms n ∧ (Cond.static y).before args s = true)
    (hn : As.length = n) (hls : ls.size = nL) (hst : ST = As.reverse ++ rest) (hW : (rest.map fun v => v.category).sum ≤ 8) (hdg : decode cc pc = .ok (.invokestatic index, 3)) (hf : cells + mc ≤ R.cells ∧ slots + ms ≤ R.slots) :
    va_Run p l e R s m args below meth c H locs cells slots mc ms (F0 m pc ls ST) rest (Qc As.toArray) free :=
  va_runS hC hM cw ⟨hK_blind, fun U hU hW => ⟨rfl, hK_next hT hZ G hA hU hW⟩⟩ rfl hn hls hst (lv_room hW) hdg hf
theorem g_i {post : Int32 → GY → Prop} {a : Array Value} (G : gG D lay X A H0 H locs) (hA : ∀ q, H0.size ≤ q → A q) (hr : va_Run p l e R s m args below meth c H locs cells slots mc ms (F0 m pc ls ST) rest (va_Qi post (gO D (gA lay X H.size)) (gA lay X H.size) a) (gA lay X H.size))
    (kk : ∀ (r : Int32) (Y : GY) (H1 : Heap) (locs1 : List Loc), post r Y → gG D Y.1 Y.2 A H0 H1 locs1 → W p l e R s m args below meth c H1 locs1 (cells + mc) (slots + ms) Q (F0 m (pc + 3) ls (.int r :: rest))) : W p l e R s m args below meth c H locs cells slots Q (F0 m pc ls ST) :=
  va_calli hr G.2.2 (fun q _ h => gA_in G hA q h) (gA_in G hA) (fun r u t H1 locs1 ht hvm hw hB hz hk hS => kk r u H1 locs1 hw ⟨by rw [← ht]; exact hB.1, gI_weak hB.2 (gA_in G hA), hS⟩)
theorem g_el {kv ci : Nat} {r : vw_C} {vs : List Value} (hT : va_K D vwCl tys s) (G : gG D lay X A H0 H locs) (hkv : kv < 128) (hev : X kv = some (.inr (ci, vs))) (hc : vwCl[ci]? = some r) : ∃ cell : Cell, H[lay kv]? = some cell ∧ cell.vm.isStatics = false ∧ s.vm.findClass r.1 = some cell.cls := by
  obtain ⟨q, hq⟩ := gW_pos (lay := lay) hkv hev
  obtain ⟨r', hr', cellV, g1, g2, g3, -⟩ := gP_list G.1 q _ hq
  have hcls := (hT.1 ci r hc).2
  exact ⟨cellV, g1, by rw [g3]; rfl, by rw [g2]; exact hcls.1⟩
/-- a cell takes another's place -/
theorem gG_move {ke kn : Nat} {e1 : va_E} {lay' : Nat → Nat} {X' : Nat → Option va_E} (hkn : kn < 128) (h : X kn = some e1) (h1 : lay' ke = lay kn) (h2 : ∀ i, i ≠ ke → i ≠ kn → lay' i = lay i) (h3 : X' ke = some e1) (h4 : X' kn = none) (h5 : ∀ i, i ≠ ke → i ≠ kn → X' i = X i) (G : gG D lay X A H0 H locs) : gG D lay' X' A H0 H locs := by
  have key : ∀ i f, i < 128 → X' i = some f → ∃ i', i' < 128 ∧ X i' = some f ∧ lay' i = lay i' ∧ (i = ke ∧ i' = kn ∨ i ≠ ke ∧ i ≠ kn ∧ i' = i) := by
    intro i f hi hf
    by_cases c1 : i = ke
    · subst c1
      rw [h3] at hf
      cases hf
      exact ⟨kn, hkn, h, h1, Or.inl ⟨rfl, rfl⟩⟩
    · by_cases c2 : i = kn
      · subst c2
        rw [h4] at hf
        cases hf
      · rw [h5 i c1 c2] at hf
        exact ⟨i, hi, hf, h2 i c1 c2, Or.inr ⟨c1, c2, rfl⟩⟩
  refine ⟨fun k f hk hf => ?_, ⟨fun i j f g hi hj hf hg hij => ?_, fun k f hk hf => ?_⟩, G.2.2⟩
  · obtain ⟨i', hi, hx, hl, -⟩ := key k f hk hf
    rw [hl]
    exact G.1 i' f hi hx
  · obtain ⟨i', hi', hx, hl, c1⟩ := key i f hi hf
    obtain ⟨j', hj', hy, hm, c2⟩ := key j g hj hg
    have := G.2.1.1 i' j' f g hi' hj' hx hy (by rw [← hl, ← hm]; exact hij)
    omega
  · obtain ⟨i', hi, hx, hl, -⟩ := key k f hk hf
    rw [hl]
    exact G.2.1.2 i' f hi hx
end K2
abbrev rm_nl : Room := { frames := 1, cells := 0, slots := 0, locals := 40 }
abbrev rm_cp3 : Room := { frames := 1, cells := 1, slots := 15, locals := 60 }
abbrev rm_cp2 : Room := { frames := 2, cells := 1, slots := 15, locals := 100 }
abbrev rm_gC0 : Room := { frames := 3, cells := 1, slots := 15, locals := 140 }
abbrev rm_gC1 : Room := { frames := 4, cells := 1, slots := 15, locals := 180 }
abbrev rm_aC3 : Room := { frames := 5, cells := 1, slots := 15, locals := 220 }
abbrev rm_adC : Room := { frames := 6, cells := 1, slots := 15, locals := 260 }
theorem hdS_nl : yJ8_newLength_cabcc.cls ≠ "java/lang/invoke/MethodHandle" ∧ yJ8_newLength_cabcc.cls ≠ "java/lang/invoke/VarHandle" ∧ (parseMethodDescriptor yJ8_newLength_cabcc.desc).map (fun d => d.parameters.length) = some 3 := by decide +kernel
theorem hdS_cp3 : yJ7_copyOf_6403c.cls ≠ "java/lang/invoke/MethodHandle" ∧ yJ7_copyOf_6403c.cls ≠ "java/lang/invoke/VarHandle" ∧ (parseMethodDescriptor yJ7_copyOf_6403c.desc).map (fun d => d.parameters.length) = some 3 := by decide +kernel
theorem hdS_cp2 : yJ7_copyOf_1904c.cls ≠ "java/lang/invoke/MethodHandle" ∧ yJ7_copyOf_1904c.cls ≠ "java/lang/invoke/VarHandle" ∧ (parseMethodDescriptor yJ7_copyOf_1904c.desc).map (fun d => d.parameters.length) = some 2 := by decide +kernel
set_option maxHeartbeats 4000000 in
set_option maxRecDepth 100000 in
theorem c_newLen (l : Launch) (D : va_G) (cy : Nat → ClassId) (lay : Nat → Nat) (X : Nat → Option va_E) (ea mi : Nat) {a b g r : Int32} (h0 : a + (if b < g then g else b) = r) (h1 : ¬ r ≤ 0) (h2 : ¬ 2147483639 < r) (sz : Nat) : Met l yJ8_newLength_cabcc wsJ8_newLength_cabcc rm_nl (va_Pc [.int a, .int b, .int g] (hK D cy lay X ea mi sz)) (va_Qi (fun x (Y : GY) => x = r ∧ Y = (lay, X)) (gO D (gA lay X sz)) (gA lay X sz)) 0 0 (gA lay X sz) := by
  refine k_ofW (cc := cJ8_newLength_cabcc) (maxL := 4) (ret := some .int) (own := RJ8) (Qc := fun sz => va_Qi (fun x (Y : GY) => x = r ∧ Y = (lay, X)) (gO D (gA lay X sz)) (gA lay X sz)) (by decide) rfl (Nat.le_of_ble_eq_true rfl) rfl ?_
  intro p e0 s m args below meth c ls hC hr hlocks hname hT hZ G hl
  have hl : lv_has ls 4 [(0, .int a), (1, .int b), (2, .int g)] := hl
  refine lv_iload_n hC.1 hC.2.1 dJ8_newLength_cabcc_0 rfl (lv_at hl 0 rfl) ?_
  refine lv_iload_n hC.1 hC.2.1 dJ8_newLength_cabcc_1 rfl (lv_at hl 1 rfl) ?_
  refine lv_iload_n hC.1 hC.2.1 dJ8_newLength_cabcc_2 rfl (lv_at hl 2 rfl) ?_
  refine va_mmax hC.1 hC.2.1 (hC.2.2.1.trans hl.1.symm) hC.2.2.2.1 (hC.2.2.2.2 _ (wm 1 rfl)) (hC.2.2.2.2 _ (wm 2 rfl)) (hC.2.2.2.2 _ (wm 3 rfl)) (hC.2.2.2.2 _ (wm 4 rfl)) (Nat.le_of_ble_eq_true rfl) (Nat.le_of_ble_eq_true rfl) (Nat.le_of_ble_eq_true rfl) (Nat.le_of_ble_eq_true rfl) dJ8_newLength_cabcc_3 ?_
  refine lv_iadd hC.1 hC.2.1 dJ8_newLength_cabcc_6  ?_
  rw [h0]
  refine lv_istore_n (lv' := [(3, .int r), (0, .int a), (1, .int b), (2, .int g)]) hC.1 hC.2.1 dJ8_newLength_cabcc_7 rfl hl (by decide) rfl (fun ls hl => ?_)
  refine lv_iconst (v := 0) hC.1 hC.2.1 dJ8_newLength_cabcc_8 (by decide) ?_
  refine lv_iload_n hC.1 hC.2.1 dJ8_newLength_cabcc_9 rfl (lv_at hl 0 rfl) ?_
  refine lv_icmp_ge (tgt := 21) hC.1 hC.2.1 dJ8_newLength_cabcc_10 (by decide) (fun c1 => absurd c1 h1) (fun _ => ?_)
  refine lv_iload_n hC.1 hC.2.1 dJ8_newLength_cabcc_13 rfl (lv_at hl 0 rfl) ?_
  refine lv_ldc (v := 2147483639) hC.1 hC.2.1 hC.2.2.2.1 (hC.2.2.2.2 _ (wm 5 rfl)) dJ8_newLength_cabcc_14 ?_
  refine lv_icmp_gt (tgt := 21) hC.1 hC.2.1 dJ8_newLength_cabcc_16 (by decide) (fun c1 => absurd c1 h2) (fun _ => ?_)
  refine lv_iload_n hC.1 hC.2.1 dJ8_newLength_cabcc_19 rfl (lv_at hl 0 rfl) ?_
  exact W.iret (v := r) hC.1 hC.2.1 hr (fun t ht hW => ⟨⟨r, (lay, X), rfl, ⟨rfl, rfl⟩, by rw [ht]; exact G.1, G.2.1⟩, G.2.2.F ht⟩) G.2.2.2.2 dJ8_newLength_cabcc_20 hlocks
set_option maxHeartbeats 4000000 in
set_option maxRecDepth 100000 in
theorem c_cp3 (l : Launch) (D : va_G) (cy : Nat → ClassId) (lay : Nat → Nat) (X : Nat → Option va_E) (ea mi : Nat) {ke kn ci qn n0 n1 : Nat} {r : vw_C} {f : Nat → Option Nat} (hke : ke < 128) (hkn : kn < 128) (hn : n0 ≤ n1) (hn1 : n1 ≤ 15) (h1 : X ke = some (.inl (cy 7, n0, rfS f))) (h2 : X kn = none) (hel : ∀ i y, i < n0 → f i = some y → ∃ kv vs, kv < 128 ∧ X kv = some (.inr (ci, vs)) ∧ lay kv = y) (hc : vwCl[ci]? = some r) (hqn : nestR[qn]? = some (.castable r.1 "java/lang/Object")) (sz : Nat) : Met l yJ7_copyOf_6403c wsJ7_copyOf_6403c rm_cp3 (va_Pc [.ref (lay ke), .int (nI n1), .ref mi] (hK D cy lay X ea mi sz)) (va_Qr (S := GY) (fun Y => ∃ q, Y = (gU lay kn q, gU X kn (some (.inl (cy 7, n1, rfS (va_cpy f (fun _ => none) 0 0 n0)))))) (fun Y a t => a = Y.1 kn ∧ gO D (gA lay X sz) Y t) (gA lay X sz)) 1 15 (gA lay X sz) := by
  refine k_ofW (cc := cJ7_copyOf_6403c) (maxL := 4) (ret := some (.array (.object "java/lang/Object"))) (own := RJ7) (Qc := fun sz => (va_Qr (S := GY) (fun Y => ∃ q, Y = (gU lay kn q, gU X kn (some (.inl (cy 7, n1, rfS (va_cpy f (fun _ => none) 0 0 n0)))))) (fun Y a t => a = Y.1 kn ∧ gO D (gA lay X sz) Y t) (gA lay X sz))) (by decide) rfl (Nat.le_of_ble_eq_true rfl) rfl ?_
  intro p e0 s m args below meth c ls hC hr hlocks hname hT hZ G hl
  have hl : lv_has ls 4 [(0, .ref (lay ke)), (1, .int (nI n1)), (2, .ref mi)] := hl
  have hA : ∀ q, s.heap.size ≤ q → gA lay X s.heap.size q := fun _ h => Or.inr h
  have hne : ke ≠ kn := fun z => by rw [z, h2] at h1; cases h1
  have hz : (0 : Int32).toNatClampNeg = 0 := by decide
  have hcl : (nI n0).toNatClampNeg = n0 := nI_clamp (by omega)
  refine lv_aload_n hC.1 hC.2.1 dJ7_copyOf_6403c_0 rfl (lv_at hl 2 rfl) ?_
  refine va_ldcM hC.1 hC.2.1 hC.2.2.2.1 (hC.2.2.2.2 _ (wm 1 rfl)) hZ.2.2.2.2.1 dJ7_copyOf_6403c_1 ?_
  refine lv_acmp_ne (rx := some mi) (ry := some mi) (tgt := 13) hC.1 hC.2.1 dJ7_copyOf_6403c_3 (by decide) (fun c1 => absurd rfl c1) (fun _ => ?_)
  refine lv_iload_n hC.1 hC.2.1 dJ7_copyOf_6403c_6 rfl (lv_at hl 1 rfl) ?_
  refine va_newq (N' := n1) hC.1 hC.2.1 hC.2.2.2.1 (hC.2.2.2.2 _ (wm 2 rfl)) hZ.2.2.2.1 hT.1 (gP_list G.1) (gI_list G.2.1) G.2.2 hA (nI_pos (by omega)) (nI_clamp (by omega)) (by omega) (Nat.le_of_ble_eq_true rfl) (by show 0 + n1 ≤ 15; omega) dJ7_copyOf_6403c_7 (fun q cA H hK' hP hD hS => ?_)
  obtain ⟨-, -, -, -, -, hq1⟩ := (hK'.2 (fdT cy).length (cA, .object "java/lang/Object") (by rw [List.getElem?_append_right (Nat.le_refl _), Nat.sub_self]; rfl)).2
  obtain ⟨-, -, -, -, -, hq2⟩ := (hT.1.2 7 (cy 7, .object "java/lang/Object") rfl).2
  have hcA : cA = cy 7 := Option.some.inj (hq1.symm.trans hq2)
  subst hcA
  have G1 : gG D (gU lay kn q) (gU X kn (some (.inl (cy 7, n1, rfS fun _ => none)))) (gA lay X s.heap.size) s.heap H [] := ⟨gP_new h2 hP, gI_new G.2.1 h2 hD, hS⟩
  refine lv_goto (tgt := 24) hC.1 hC.2.1 dJ7_copyOf_6403c_10 (by decide) ?_
  refine lv_astore_n (lv' := [(3, .ref q), (0, .ref (lay ke)), (1, .int (nI n1)), (2, .ref mi)]) hC.1 hC.2.1 dJ7_copyOf_6403c_24 rfl hl (by decide) rfl (fun ls hl => ?_)
  refine lv_aload_n hC.1 hC.2.1 dJ7_copyOf_6403c_25 rfl (lv_at hl 1 rfl) ?_
  refine lv_iconst (v := 0) hC.1 hC.2.1 dJ7_copyOf_6403c_26 (by decide) ?_
  refine lv_aload_n hC.1 hC.2.1 dJ7_copyOf_6403c_27 rfl (lv_at hl 0 rfl) ?_
  refine lv_iconst (v := 0) hC.1 hC.2.1 dJ7_copyOf_6403c_28 (by decide) ?_
  refine lv_aload_n hC.1 hC.2.1 dJ7_copyOf_6403c_29 rfl (lv_at hl 1 rfl) ?_
  have x0 : gU X kn (some (.inl (cy 7, n1, rfS fun _ => none))) ke = some (.inl (cy 7, n0, rfS f)) := (gU_ne hne).trans h1
  obtain ⟨q0, hq0⟩ := gW_pos (lay := gU lay kn q) hke x0
  rw [show gU lay kn q ke = lay ke from gU_ne hne] at hq0
  obtain ⟨q1, hq1'⟩ := gW_pos (lay := gU lay kn q) (X := gU X kn (some (.inl (cy 7, n1, rfS fun _ => none)))) hkn gU_eq
  have hq1'' := hq1'
  rw [show gU lay kn q kn = q from gU_eq] at hq1''
  refine va_alen (v := nI n0) hC.1 hC.2.1 hT.1 (gP_list G1.1) q0 7 hq0 rfl rfl dJ7_copyOf_6403c_30 ?_
  refine lv_iload_n hC.1 hC.2.1 dJ7_copyOf_6403c_31 rfl (lv_at hl 2 rfl) ?_
  refine va_mmin hC.1 hC.2.1 (hC.2.2.1.trans hl.1.symm) hC.2.2.2.1 (hC.2.2.2.2 _ (wm 3 rfl)) (hC.2.2.2.2 _ (wm 4 rfl)) (hC.2.2.2.2 _ (wm 5 rfl)) (hC.2.2.2.2 _ (wm 6 rfl)) (Nat.le_of_ble_eq_true rfl) (Nat.le_of_ble_eq_true rfl) (Nat.le_of_ble_eq_true rfl) (by show 0 + n1 ≤ 15; omega) dJ7_copyOf_6403c_32 ?_
  rw [if_neg (nI_nlt hn (by omega))]
  refine va_copyq (C := r.1) hC.1 hC.2.1 (hC.2.2.1.trans hl.1.symm) hC.2.2.2.1 (hC.2.2.2.2 _ (wm 7 rfl)) (hC.2.2.2.2 _ (wm 8 rfl)) (hC.2.2.2.2 _ (wm 9 rfl)) (hC.2.2.2.2 _ (wm 10 rfl)) hT.1 (gP_list G1.1) (gI_list G1.2.1) G1.2.2 q0 q1 7 7 hq0 hq1'' rfl rfl (by decide) (by decide) (nI_pos (by omega)) (by rw [hz, hcl]; omega) (by rw [hz, hcl]; omega) (fun i hi y hy => ?_) (fun comp c0 hf hc' => ?_) (Nat.le_of_ble_eq_true rfl) (by decide +kernel) dJ7_copyOf_6403c_35 (fun H locs hP hD hS => ?_)
  · rw [hz, Nat.zero_add] at hy
    rw [hcl] at hi
    obtain ⟨kv, vs, hkv, hv, rfl⟩ := hel i y hi hy
    have hne' : kv ≠ kn := fun z => by rw [z, h2] at hv; cases hv
    have := g_el hT.1 G1 hkv ((gU_ne hne').trans hv) hc
    rw [gU_ne hne'] at this
    exact this
  · obtain ⟨c1, t1, f1, f2, f3⟩ := Cond.castable_spec (va_Nw.use (A := args) rfl (hT.2.1 _ (wm qn hqn)))
    cases f1.symm.trans hc'
    cases f2.symm.trans hf
    exact f3
  · rw [hz, hcl] at hP
    have G2 := gG_up2 (D := D) (lay := gU lay kn q) (A := gA lay X s.heap.size) (H0 := s.heap) (H := H) (locs := locs) ⟨gP_set G1.2.1 hkn gU_eq hq1' (by rw [show gU lay kn q kn = q from gU_eq]; exact hP), gI_set G1.2.1 gU_eq, hS⟩
    refine lv_aload_n hC.1 hC.2.1 dJ7_copyOf_6403c_38 rfl (lv_at hl 0 rfl) ?_
    refine W.widen (k := 1) (n := 15) (by decide) (by omega) ?_
    exact W.aret (v := .ref q) hC.1 hC.2.1 hr (Or.inr ⟨_, rfl⟩) (Or.inr ⟨_, rfl⟩) (fun t ht hW => ⟨⟨_, q, rfl, ⟨q, rfl⟩, gU_eq.symm, by rw [ht]; exact G2.1, G2.2.1⟩, G2.2.2.F ht⟩) G2.2.2.2.2 dJ7_copyOf_6403c_39 hlocks
set_option maxHeartbeats 4000000 in
set_option maxRecDepth 100000 in
theorem c_cp2 (l : Launch) (D : va_G) (cy : Nat → ClassId) (lay : Nat → Nat) (X : Nat → Option va_E) (ea mi : Nat) {ke kn ci qn n0 n1 : Nat} {r : vw_C} {f : Nat → Option Nat} (hke : ke < 128) (hkn : kn < 128) (hn : n0 ≤ n1) (hn1 : n1 ≤ 15) (h1 : X ke = some (.inl (cy 7, n0, rfS f))) (h2 : X kn = none) (hel : ∀ i y, i < n0 → f i = some y → ∃ kv vs, kv < 128 ∧ X kv = some (.inr (ci, vs)) ∧ lay kv = y) (hc : vwCl[ci]? = some r) (hqn : nestR[qn]? = some (.castable r.1 "java/lang/Object")) (sz : Nat) : Met l yJ7_copyOf_1904c wsJ7_copyOf_1904c rm_cp2 (va_Pc [.ref (lay ke), .int (nI n1)] (hK D cy lay X ea mi sz)) (va_Qr (S := GY) (fun Y => ∃ q, Y = (gU lay kn q, gU X kn (some (.inl (cy 7, n1, rfS (va_cpy f (fun _ => none) 0 0 n0)))))) (fun Y a t => a = Y.1 kn ∧ gO D (gA lay X sz) Y t) (gA lay X sz)) 1 15 (gA lay X sz) := by
  refine k_ofW (cc := cJ7_copyOf_1904c) (maxL := 2) (ret := some (.array (.object "java/lang/Object"))) (own := RJ7) (Qc := fun sz => (va_Qr (S := GY) (fun Y => ∃ q, Y = (gU lay kn q, gU X kn (some (.inl (cy 7, n1, rfS (va_cpy f (fun _ => none) 0 0 n0)))))) (fun Y a t => a = Y.1 kn ∧ gO D (gA lay X sz) Y t) (gA lay X sz))) (by decide) rfl (Nat.le_of_ble_eq_true rfl) rfl ?_
  intro p e0 s m args below meth c ls hC hr hlocks hname hT hZ G hl
  have hl : lv_has ls 2 [(0, .ref (lay ke)), (1, .int (nI n1))] := hl
  have hA : ∀ q, s.heap.size ≤ q → gA lay X s.heap.size q := fun _ h => Or.inr h
  refine lv_aload_n hC.1 hC.2.1 dJ7_copyOf_1904c_0 rfl (lv_at hl 0 rfl) ?_
  refine lv_iload_n hC.1 hC.2.1 dJ7_copyOf_1904c_1 rfl (lv_at hl 1 rfl) ?_
  refine lv_aload_n hC.1 hC.2.1 dJ7_copyOf_1904c_2 rfl (lv_at hl 0 rfl) ?_
  obtain ⟨q0, hq0⟩ := gW_pos (lay := lay) hke h1
  obtain ⟨-, -, -, -, -, hq2⟩ := (hT.1.2 7 (cy 7, .object "java/lang/Object") rfl).2
  refine va_getC (C := "[Ljava/lang/Object;") hC.1 hC.2.1 (hC.2.2.1.trans hl.1.symm) hC.2.2.2.1 (hC.2.2.2.2 _ (wm 1 rfl)) (va_Dc.use hZ.2.2.2.2.2) (hC.2.2.2.2 _ (wm 2 rfl)) (hC.2.2.2.2 _ (wm 3 rfl)) (hC.2.2.2.2 _ (wm 4 rfl)) hZ.2.2.2.2.1 ⟨_, gP_list G.1 q0 _ hq0, rfl, hq2⟩ (Nat.le_of_ble_eq_true rfl) (Nat.le_of_ble_eq_true rfl) dJ7_copyOf_1904c_3 ?_
  refine k_r (f := fun Y => Y.1 kn) G hA (k_runS (As := [.ref (lay ke), .int (nI n1), .ref mi]) (rest := []) hC hT hZ hA G (c_cp3 l D cy lay X ea mi hke hkn hn hn1 h1 h2 hel hc hqn _) (va_cwS 3 hC.2.2.2.2 gJ7_copyOf_1904c_J7_copyOf_6403c rfl rfl rfl hdS_cp3 ⟨Nat.le_of_ble_eq_true rfl, Nat.le_of_ble_eq_true rfl⟩) rfl hl.1 rfl (Nat.le_of_ble_eq_true rfl) dJ7_copyOf_1904c_6 ⟨Nat.le_of_ble_eq_true rfl, Nat.le_of_ble_eq_true rfl⟩) (fun Y H locs hY G => ?_)
  obtain ⟨q, rfl⟩ := hY
  exact W.aret (v := .ref (gU lay kn q kn)) hC.1 hC.2.1 hr (Or.inr ⟨_, rfl⟩) (Or.inr ⟨_, rfl⟩) (fun t ht hW => ⟨⟨_, gU lay kn q kn, rfl, ⟨q, rfl⟩, rfl, by rw [ht]; exact G.1, G.2.1⟩, G.2.2.F ht⟩) G.2.2.2.2 dJ7_copyOf_1904c_9 hlocks
