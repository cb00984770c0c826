/-! TEXTS: walks of StringBuilder, String (67b.tell) -/
/-! TEXTS: the class's methods that tell -/
def agIK (D : va_G) (cy : Nat → ClassId) (lay : Nat → Nat) (σ : MS) (ad : Nat → Nat) (sz : Nat) (U : State) : Prop := agI D cy lay σ sz U ∧ tB D cy (agA lay sz) U U.heap ∧ kS RX7 cTx ad (agA lay sz) U U.heap
theorem agIK_blind {D : va_G} {cy : Nat → ClassId} {lay : Nat → Nat} {σ : MS} {ad : Nat → Nat} {sz : Nat} {As : List Value} : FrameBlind (va_Pc As (agIK D cy lay σ ad sz)) := by
  intro a U g mk h
  obtain ⟨h0, h1, h2, h3⟩ := h
  have := agI_blind (D := D) (cy := cy) (lay := lay) (σ := σ) (sz := sz) (As := As) a U g mk ⟨h0, h1⟩
  exact ⟨this.1, this.2, tB.moved (u := U) (U := U.calling g mk a) (Vm.Alike.refl U.vm) (nest_same (u := U) (U := U.calling g mk a) rfl _ rfl h2.2.1) h2, kS.same (u := U) (U := U.calling g mk a) rfl h3⟩
section AGK
variable {p : Program} {l : Launch} {e : Env} {R : Room} {s : State} {m : MethodId} {args : Array Value} {below : List Frame} {meth : Method} {c : Code} {H : Heap} {locs : List Loc} {cells slots : Nat} {Q : State → Prop}
variable {cc bytes : ByteArray} {pc nL maxL mc ms n index : Nat} {ls : Array Slot} {ST rest As : List Value} {D : va_G} {cy : Nat → ClassId} {lay : Nat → Nat} {σ : MS} {Ts ws : List Cond} {own : String} {y : MethodName} {ret : Option FieldType} {rm : Room} {ad : Nat → Nat} {pex : String → MS → Prop}
theorem ag_ofXK {ws' : List Cond} {maxL : Nat} {sz : Nat} {Qc : Nat → Array Value → State → Outcome → State → Prop} (hy : plainName y.cls = true) (hw : ws = Cond.code y cc maxL ret :: ws') (hnl : (lg_sl As).length ≤ maxL) (hoo : y.cls = own)
    (body : ∀ (p : Program) (e : Env) (s : State) (m : MethodId) (args : Array Value) (below : List Frame) (meth : Method) (c : Code) (ls : Array Slot), CallFix p m c cc maxL s args ws own → meth.sig.returnType = ret → meth.locks = false → (∀ x ∈ c.exceptionTable.toList, False) → agT D cy lay s → tB D cy (agA lay s.heap.size) s s.heap → kS RX7 cTx ad (agA lay s.heap.size) s s.heap → agG D cy lay σ (agA lay s.heap.size) s.heap s.heap [] → lv_has ls maxL (lv_args 0 As) →
      W p l e rm s m args below meth c s.heap [] 0 0 (vx_MQ below (Qc s.heap.size) (agXC D cy lay pex s.heap.size) args s mc ms (agA lay s.heap.size)) (F0 m 0 ls [])) : vx_Met l y ws rm (va_Pc As (agIK D cy lay σ ad sz)) (Qc sz) (agXC D cy lay pex sz) mc ms (agA lay sz) := by
  refine vx_ofW (cc := cc) (maxL := maxL) (ret := ret) hy hw ?_
  intro p e s m args below meth c s₁ B hml htab hv
  obtain ⟨rfl, ⟨hsz, hT, hP, hD⟩, hB, hK⟩ := hv
  subst hsz
  have hl := lv_entry As (n := maxL) hnl
  rw [lg_entry_eq]
  have hown : s.vm.findClass y.cls = some m.cls := findClass_of_methodNamed B.named
  rw [hoo] at hown
  exact body p e s m As.toArray below meth c _ ⟨B.exec, B.bytes, hml, hown, atoms_spec (ws := ws) B.pre⟩ B.returns B.notSynchronized htab hT hB hK ⟨hP, agD_of hD, va_S.rf⟩ hl
/-- a text comes out, the class's world as it is -/
theorem ag_tret {post : MS → Prop} {q : Nat} {rt : FieldType} {locs : List Loc} (hC : CallFix p m c cc nL s args Ts own) (hr : meth.sig.returnType = some rt) (hrt : ∃ C, rt = .object C) (hlocks : meth.locks = false) (G : agG D cy lay σ (agA lay s.heap.size) s.heap H locs) (h : post σ) (hdg : decode cc pc = .ok (.areturn, 1)) :
    W p l e R s m args below meth c H locs cells slots (MQ below (va_Qr (S := MS) post (fun τ _ t => agO D cy lay τ t) (agA lay s.heap.size)) args s cells slots (agA lay s.heap.size)) (F0 m pc ls [.ref q]) :=
  W.aret (v := .ref q) hC.1 hC.2.1 hr (Or.inl hrt) (Or.inr ⟨_, rfl⟩) (fun t ht hW => ⟨⟨σ, q, rfl, h, agO_G G ht⟩, G.2.2.F ht⟩) G.2.2.2.2 hdg hlocks
end AGK
/-- a name of a state, beside a StringBuilder -/
theorem sb_nameOf {p : Program} {l : Launch} {e : Env} {R : Room} {s : State} {m : MethodId} {args : Array Value} {below : List Frame} {meth : Method} {c : Code} {H : Heap} {locs : List Loc} {cells slots : Nat} {Q : State → Prop} {cc : ByteArray} {pc nL index : Nat} {ls : Array Slot} {rest : List Value} {D : va_G} {cy : Nat → ClassId} {lay : Nat → Nat} {X : Nat → Option va_E} {A : Nat → Prop} {Ts : List Cond} {own : String} {k kb n : Nat} {ad : Nat → Nat} {st : Int32}
    (hC : CallFix p m c cc nL s args Ts own) (hT : tB D cy A s s.heap) (hK : kS RX7 cTx ad A s s.heap) (hA : ∀ q, s.heap.size ≤ q → A q) (S : sbW D cy lay X A s.heap H locs k kb n)
    (cw : CallB R s args own index yX7_nameOfState cX7_nameOfState 1 (some (.object "java/lang/String")) wsX7_nameOfState (rmS 0 0 0) 0 0 1 ∧ (Cond.static yX7_nameOfState).before args s = true) (hls : ls.size = nL) (hW : (rest.map fun v => v.category).sum ≤ 8) (hdg : decode cc pc = .ok (.invokestatic index, 3)) (hf : cells + 0 ≤ R.cells ∧ slots + 0 ≤ R.slots)
    (kk : ∀ (i : Nat) (H1 : Heap) (locs1 : List Loc), 4 ≤ i → i ≤ 7 → sbW D cy lay X A s.heap H1 locs1 k kb n → W p l e R s m args below meth c H1 locs1 (cells + 0) (slots + 0) Q (F0 m (pc + 3) ls (.ref (ad i) :: rest))) : W p l e R s m args below meth c H locs cells slots Q (F0 m pc ls (.int st :: rest)) := by
  obtain ⟨L, m1, a, ml, hf1, hm, hnm, hL, G⟩ := S
  refine va_callr (sk_runS (As := [.int st]) (rest := rest) hC hT hA G hK (c_nameOf l D cy L (sbX cy X k kb (L kb) m1 a (nI n) ml) ad _) cw rfl hls rfl hW hdg hf) G.2.2 (fun q _ h => gA_in G hA q h) (gA_in G hA) (fun u ra t H1 locs1 ht hvm hw hB hz hk hS => ?_)
  obtain ⟨⟨i, i1, i2, rfl⟩, hO⟩ := hB
  subst hw
  exact kk i H1 locs1 i1 i2 ⟨L, m1, a, ml, hf1, hm, hnm, hL, by rw [← ht]; exact hO.1, gI_weak hO.2 (gA_in G hA), hS⟩
/-- the players, beside a StringBuilder -/
theorem sb_appP {p : Program} {l : Launch} {e : Env} {R : Room} {s : State} {m : MethodId} {args : Array Value} {below : List Frame} {meth : Method} {c : Code} {H : Heap} {locs : List Loc} {cells slots : Nat} {Q : State → Prop} {cc : ByteArray} {pc nL index : Nat} {ls : Array Slot} {rest : List Value} {D : va_G} {cy : Nat → ClassId} {lay : Nat → Nat} {X : Nat → Option va_E} {A : Nat → Prop} {Ts : List Cond} {own : String} {k kb kn n P : Nat} {ad : Nat → Nat} {v : Int32} {fs : List Value}
    (hC : CallFix p m c cc nL s args Ts own) (hT : tB D cy A s s.heap) (hK : kS RX7 cTx ad A s s.heap) (hA : ∀ q, s.heap.size ≤ q → A q) (S : sbW D cy lay X A s.heap H locs k kb n) (hk : k < 128) (hkb : kb < 128) (hkn : kn < 128) (hne : kb ≠ k) (hnk : kn ≠ k) (hnb : kn ≠ kb) (h0k : 0 ≠ k) (h0b : 0 ≠ kb) (h3 : X kn = none) (hX0 : X 0 = some (.inr (12, fs))) (hfs : fs[6]? = some (.int (nI P))) (hP : P ≤ 10) (hn : n ≤ 36)
    (cw : CallW R s args own RX7 index yX7_appendPlayers cX7_appendPlayers 5 none wsX7_appendPlayers (rmS 6 20 1400) 20 1400 2) (hls : ls.size = nL) (hW : (rest.map fun v => v.category).sum ≤ 8) (hdg : decode cc pc = .ok (.invokevirtual index, 3)) (hf : cells + 20 ≤ R.cells ∧ slots + 1400 ≤ R.slots)
    (kk : ∀ (n' : Nat) (H1 : Heap) (locs1 : List Loc), n' ≤ n + 3 * P → sbW D cy lay X A s.heap H1 locs1 k kb n' → W p l e R s m args below meth c H1 locs1 (cells + 20) (slots + 1400) Q (F0 m (pc + 3) ls rest)) : W p l e R s m args below meth c H locs cells slots Q (F0 m pc ls (.int v :: .ref (lay k) :: .ref (lay 0) :: rest)) := by
  obtain ⟨L, m1, a, ml, hf1, hm, hnm, hL, G⟩ := S
  have e1 : L k = lay k := gU_out hL (Ne.symm hne)
  have e0 : L 0 = lay 0 := gU_out hL h0b
  rw [← e1, ← e0]
  refine g_v G hA (sk_runV (As := [.ref (L k), .int v]) (rest := rest) (b := L 0) hC hT hA G hK (c_appP l D cy lay L X ad hk hkb hkn hne hnk hnb h0k h0b h3 hX0 hfs hP hL hf1 hm hnm hn _) cw (s_recv hT G (by decide) ((sbX_o h0k h0b).trans hX0) k_X7) rfl hls rfl hW hdg hf) (fun Y H1 locs1 hY G1 => ?_)
  obtain ⟨n', L', m', a', ml', g0, g1, g2, g3, g4, rfl⟩ := hY
  exact kk n' H1 locs1 g0 ⟨L', m', a', ml', g1, g2, g3, g4, G1⟩
def w_T_X7_tell (post : MS → Prop) (pex : String → MS → Prop) (σ : MS) (a1 : Int32) : Prop := w_T_X7_checkWedding (fun σ1 => ∃ w d t P : Nat, w < 14 ∧ a1 = nI w ∧ d < 1000 ∧ σ1 (73 + w) 1 = nI d ∧ t < 1000 ∧ σ1 (73 + w) 2 = nI t ∧ P ≤ 10 ∧ σ1 0 6 = nI P ∧ post σ1) pex σ a1
set_option maxHeartbeats 8000000 in
set_option maxRecDepth 100000 in
theorem c_T_X7_tell (l : Launch) (hl0 : l.stackTraces = false) (D : va_G) (cy : Nat → ClassId) (lay : Nat → Nat) (ad : Nat → Nat) {σ : MS} {post : MS → Prop} {pex : String → MS → Prop} {a1 : Int32} (h : w_T_X7_tell post pex σ a1) (sz : Nat) : vx_Met l yX7_tell wsX7_tell (rmS 9 40 2400) (va_Pc [.ref (lay 0), .int a1] (agIK D cy lay σ ad sz)) (va_Qr (S := MS) post (fun τ _ t => agO D cy lay τ t) (agA lay sz)) (agXC D cy lay pex sz) 40 2400 (agA lay sz) := by
  refine ag_ofXK (cc := cX7_tell) (maxL := 4) (ret := (some (.object "java/lang/String"))) (own := RX7) (Qc := fun sz => va_Qr (S := MS) post (fun τ _ t => agO D cy lay τ t) (agA lay sz)) (by decide) rfl (Nat.le_of_ble_eq_true rfl) rfl ?_
  intro p e s m args below meth c ls hC hr hlocks htab hT hB hK G hl
  unfold w_T_X7_tell at h
  have hA : ∀ q, s.heap.size ≤ q → agA lay s.heap.size q := fun _ h => Or.inr h
  have hl : lv_has ls 4 [(0, .ref (lay 0)), (1, .int a1)] := hl
  refine lv_aload_n hC.1 hC.2.1 dX7_tell_0 rfl (lv_at hl 0 rfl) ?_
  refine lv_iload_n hC.1 hC.2.1 dX7_tell_1 rfl (lv_at hl 1 rfl) ?_
  refine ag_vT G htab hlocks (ag_runVT (As := [.int a1]) (rest := []) hC hT G (c_T_X7_checkWedding l hl0 D cy lay h _) (cwV 1 hC.2.2.2.2 gX7_tell_X7_checkWedding rfl rfl rfl hdV_X7_checkWedding ⟨Nat.le_of_ble_eq_true rfl, Nat.le_of_ble_eq_true rfl⟩) (ag_recv hT G (by decide) e_ag k_X7) rfl hl.1 rfl (Nat.le_of_ble_eq_true rfl) dX7_tell_2 ⟨Nat.le_of_ble_eq_true rfl, Nat.le_of_ble_eq_true rfl⟩) (by decide) (by decide) (fun σ1 H locs h G => ?_)
  obtain ⟨w, d, t, P, hw, rfl, hd, ed, ht, et, hP, eP, h⟩ := h
  refine lv_aload_n hC.1 hC.2.1 dX7_tell_5 rfl (lv_at hl 0 rfl) ?_
  refine ag_get hC hT G (by decide) e_ag k_X7 (fun _ h => List.mem_cons_of_mem _ (List.mem_append_left _ (List.mem_append_left _ (List.mem_append_left _ (List.mem_append_left _ (List.mem_append_right _ h)))))) 3 (by decide) (wm 1 rfl) rfl dX7_tell_6 ?_
  refine lv_iload_n hC.1 hC.2.1 dX7_tell_9 rfl (lv_at hl 1 rfl) ?_
  refine ag_aald hC hT G (by decide) _ rfl e_wds (vp_in_nI hw (by decide)) dX7_tell_10 ?_
  rw [nI_clamp (by omega)]
  refine lv_astore_n (lv' := [(2, .ref (lay (73 + w))), (0, .ref (lay 0)), (1, .int (nI w))]) hC.1 hC.2.1 dX7_tell_11 rfl hl (by decide) rfl (fun ls hl => ?_)
  have G := ag_g G
  have hXw : agX cy lay σ1 (73 + w) = some (.inr (11, L12 (σ1 (73 + w)))) := (agX_at (by omega)).trans (congrArg some (e_wd hw))
  have hX0 : agX cy lay σ1 0 = some (.inr (12, Lag lay (σ1 0))) := (agX_at (by decide)).trans rfl
  have hn90 : agX cy lay σ1 90 = none := agX_no (by decide)
  have hn91 : agX cy lay σ1 91 = none := agX_no (by decide)
  have hn92 : agX cy lay σ1 92 = none := agX_no (by decide)
  have hn93 : agX cy lay σ1 93 = none := agX_no (by decide)
  have hn94 : agX cy lay σ1 94 = none := agX_no (by decide)
  refine sb_new (k := 90) (kb := 91) (rest := []) hC hB hA G (by decide) (by decide) (by decide) hn90 hn91 (fun _ h => List.mem_cons_of_mem _ (List.mem_append_left _ (List.mem_append_left _ (List.mem_append_left _ (List.mem_append_right _ h))))) (wm 2 rfl) (wm 3 rfl) (wm 4 rfl) ⟨callB_of 0 hC.2.2.2.2 gX7_tell_J4_init_da8c8 rfl rfl rfl (hC.2.2.2.2 (.initialized RJ4) (wm 4 rfl)) (hC.2.2.2.2 (.methodLink RX7 368 yJ4_init_da8c8) (wm 17 rfl)) hdI_J4_init_da8c8 ⟨Nat.le_of_ble_eq_true rfl, Nat.le_of_ble_eq_true rfl⟩, rfl, hC.2.2.2.2 (.instanceMethod yJ4_init_da8c8) (wm 18 rfl)⟩ hl.1 (Nat.le_of_ble_eq_true rfl) dX7_tell_12 dX7_tell_15 dX7_tell_16 ⟨Nat.le_of_ble_eq_true rfl, Nat.le_of_ble_eq_true rfl⟩ (fun q H locs S => ?_)
  have eo : ∀ j, j < 87 → gU lay 90 q j = lay j := fun j hj => gU_ne (by omega)
  refine lv_astore_n (lv' := [(3, .ref (gU lay 90 q 90)), (2, .ref (lay (73 + w))), (0, .ref (lay 0)), (1, .int (nI w))]) hC.1 hC.2.1 dX7_tell_19 rfl hl (by decide) rfl (fun ls hl => ?_)
  generalize gU lay 90 q = L at eo S hl
  rw [← eo 0 (by decide), ← eo (73 + w) (by omega)] at hl
  have d1 : ∀ v, dg v ≤ 3 := fun v => by unfold dg; split <;> (try split) <;> omega
  have q1 := d1 w
  have q2 := d1 d
  have q3 := d1 t
  refine lv_aload_n hC.1 hC.2.1 dX7_tell_20 rfl (lv_at hl 0 rfl) ?_
  refine lv_iload_n hC.1 hC.2.1 dX7_tell_21 rfl (lv_at hl 3 rfl) ?_
  refine sb_apI (kn := 92) (rest := []) hC hB hA S (by decide) (by decide) (by decide) (by decide) (by decide) (by decide) hn92 (v := w) (by omega) (by omega) (cwV 1 hC.2.2.2.2 gX7_tell_J4_append_bf812 rfl rfl rfl hdV_J4_append_bf812 ⟨Nat.le_of_ble_eq_true rfl, Nat.le_of_ble_eq_true rfl⟩) hl.1 (Nat.le_of_ble_eq_true rfl) dX7_tell_22 ⟨Nat.le_of_ble_eq_true rfl, Nat.le_of_ble_eq_true rfl⟩ (fun H locs S => ?_)
  refine va_ldcwS hC (hK 1 (400, " on day ", 8) rfl).1 dX7_tell_25 ?_
  refine sb_apS (kn := 92) (rest := []) hC hB hA S (by decide) (by decide) (by decide) (by decide) (by decide) (by decide) hn92 (show tX (ad 1) 8 (agA lay s.heap.size) s s.heap from (hK 1 (400, " on day ", 8) rfl).2) (by decide) (by omega) (cwV 1 hC.2.2.2.2 gX7_tell_J4_append_15ec4 rfl rfl rfl hdV_J4_append_15ec4 ⟨Nat.le_of_ble_eq_true rfl, Nat.le_of_ble_eq_true rfl⟩) hl.1 (Nat.le_of_ble_eq_true rfl) dX7_tell_28 ⟨Nat.le_of_ble_eq_true rfl, Nat.le_of_ble_eq_true rfl⟩ (fun H locs S => ?_)
  refine lv_aload_n hC.1 hC.2.1 dX7_tell_31 rfl (lv_at hl 1 rfl) ?_
  refine sb_get hC hB S (by omega) (by omega) (by omega) hXw k_X6 (fun _ h => List.mem_cons_of_mem _ (List.mem_append_left _ (List.mem_append_left _ (List.mem_append_right _ h)))) 1 (by decide) (wm 5 rfl) rfl dX7_tell_32 ?_
  rw [ed]
  refine sb_apI (kn := 92) (rest := []) hC hB hA S (by decide) (by decide) (by decide) (by decide) (by decide) (by decide) hn92 (v := d) hd (by omega) (cwV 1 hC.2.2.2.2 gX7_tell_J4_append_bf812 rfl rfl rfl hdV_J4_append_bf812 ⟨Nat.le_of_ble_eq_true rfl, Nat.le_of_ble_eq_true rfl⟩) hl.1 (Nat.le_of_ble_eq_true rfl) dX7_tell_35 ⟨Nat.le_of_ble_eq_true rfl, Nat.le_of_ble_eq_true rfl⟩ (fun H locs S => ?_)
  refine va_ldcwS hC (hK 2 (405, " in ", 4) rfl).1 dX7_tell_38 ?_
  refine sb_apS (kn := 92) (rest := []) hC hB hA S (by decide) (by decide) (by decide) (by decide) (by decide) (by decide) hn92 (show tX (ad 2) 4 (agA lay s.heap.size) s s.heap from (hK 2 (405, " in ", 4) rfl).2) (by decide) (by omega) (cwV 1 hC.2.2.2.2 gX7_tell_J4_append_15ec4 rfl rfl rfl hdV_J4_append_15ec4 ⟨Nat.le_of_ble_eq_true rfl, Nat.le_of_ble_eq_true rfl⟩) hl.1 (Nat.le_of_ble_eq_true rfl) dX7_tell_41 ⟨Nat.le_of_ble_eq_true rfl, Nat.le_of_ble_eq_true rfl⟩ (fun H locs S => ?_)
  refine lv_aload_n hC.1 hC.2.1 dX7_tell_44 rfl (lv_at hl 1 rfl) ?_
  refine sb_get hC hB S (by omega) (by omega) (by omega) hXw k_X6 (fun _ h => List.mem_cons_of_mem _ (List.mem_append_left _ (List.mem_append_left _ (List.mem_append_right _ h)))) 2 (by decide) (wm 6 rfl) rfl dX7_tell_45 ?_
  rw [et]
  refine sb_apI (kn := 92) (rest := []) hC hB hA S (by decide) (by decide) (by decide) (by decide) (by decide) (by decide) hn92 (v := t) ht (by omega) (cwV 1 hC.2.2.2.2 gX7_tell_J4_append_bf812 rfl rfl rfl hdV_J4_append_bf812 ⟨Nat.le_of_ble_eq_true rfl, Nat.le_of_ble_eq_true rfl⟩) hl.1 (Nat.le_of_ble_eq_true rfl) dX7_tell_48 ⟨Nat.le_of_ble_eq_true rfl, Nat.le_of_ble_eq_true rfl⟩ (fun H locs S => ?_)
  refine lv_pop hC.1 hC.2.1 dX7_tell_51 rfl ?_
  refine lv_aload_n hC.1 hC.2.1 dX7_tell_52 rfl (lv_at hl 0 rfl) ?_
  refine va_ldcwS hC (hK 3 (407, ", ", 2) rfl).1 dX7_tell_53 ?_
  refine sb_apS (kn := 92) (rest := []) hC hB hA S (by decide) (by decide) (by decide) (by decide) (by decide) (by decide) hn92 (show tX (ad 3) 2 (agA lay s.heap.size) s s.heap from (hK 3 (407, ", ", 2) rfl).2) (by decide) (by omega) (cwV 1 hC.2.2.2.2 gX7_tell_J4_append_15ec4 rfl rfl rfl hdV_J4_append_15ec4 ⟨Nat.le_of_ble_eq_true rfl, Nat.le_of_ble_eq_true rfl⟩) hl.1 (Nat.le_of_ble_eq_true rfl) dX7_tell_56 ⟨Nat.le_of_ble_eq_true rfl, Nat.le_of_ble_eq_true rfl⟩ (fun H locs S => ?_)
  refine lv_aload_n hC.1 hC.2.1 dX7_tell_59 rfl (lv_at hl 1 rfl) ?_
  refine sb_get hC hB S (by omega) (by omega) (by omega) hXw k_X6 (fun _ h => List.mem_cons_of_mem _ (List.mem_append_left _ (List.mem_append_left _ (List.mem_append_right _ h)))) 7 (by decide) (wm 7 rfl) rfl dX7_tell_60 ?_
  refine sb_nameOf (ad := ad) (rest := [.ref (L 90)]) hC hB hK hA S (va_cwS 1 hC.2.2.2.2 gX7_tell_X7_nameOfState rfl rfl rfl hdS_X7_nameOfState ⟨Nat.le_of_ble_eq_true rfl, Nat.le_of_ble_eq_true rfl⟩) hl.1 (Nat.le_of_ble_eq_true rfl) dX7_tell_63 ⟨Nat.le_of_ble_eq_true rfl, Nat.le_of_ble_eq_true rfl⟩ (fun i H locs i1 i2 S => ?_)
  obtain ⟨w8, hw8, hX8⟩ : ∃ w8, w8 ≤ 6 ∧ tX (ad i) w8 (agA lay s.heap.size) s s.heap := by
    rcases (show i = 4 ∨ i = 5 ∨ i = 6 ∨ i = 7 by omega) with rfl | rfl | rfl | rfl
    · exact ⟨5, by decide, (hK 4 (543, "asked", 5) rfl).2⟩
    · exact ⟨5, by decide, (hK 5 (545, "fixed", 5) rfl).2⟩
    · exact ⟨6, by decide, (hK 6 (547, "played", 6) rfl).2⟩
    · exact ⟨4, by decide, (hK 7 (548, "lost", 4) rfl).2⟩
  refine sb_apS (kn := 92) (rest := []) hC hB hA S (by decide) (by decide) (by decide) (by decide) (by decide) (by decide) hn92 hX8 (by omega) (by omega) (cwV 1 hC.2.2.2.2 gX7_tell_J4_append_15ec4 rfl rfl rfl hdV_J4_append_15ec4 ⟨Nat.le_of_ble_eq_true rfl, Nat.le_of_ble_eq_true rfl⟩) hl.1 (Nat.le_of_ble_eq_true rfl) dX7_tell_66 ⟨Nat.le_of_ble_eq_true rfl, Nat.le_of_ble_eq_true rfl⟩ (fun H locs S => ?_)
  refine lv_pop hC.1 hC.2.1 dX7_tell_69 rfl ?_
  refine W.widen (k := 18) (n := 900) (by decide) (by decide) ?_
  have hn40 : 0 + dg w + 8 + dg d + 4 + dg t + 2 + w8 ≤ 36 := by omega
  generalize 0 + dg w + 8 + dg d + 4 + dg t + 2 + w8 = n at hn40 S
  have fin : ∀ (n' : Nat) (H : Heap) (locs : List Loc) (ls : Array Slot), n' ≤ 70 → sbW D cy L (agX cy lay σ1) (agA lay s.heap.size) s.heap H locs 90 91 n' → lv_has ls 4 [(3, .ref (L 90)), (2, .ref (L (73 + w))), (0, .ref (L 0)), (1, .int (nI w))] → W p l e (rmS 9 40 2400) s m args below meth c H locs 38 2300 (vx_MQ below (va_Qr (S := MS) post (fun τ _ t => agO D cy lay τ t) (agA lay s.heap.size)) (agXC D cy lay pex s.heap.size) args s 40 2400 (agA lay s.heap.size)) (F0 m 95 ls []) := by
    intro n' H locs ls hn' S hl
    refine lv_aload_n hC.1 hC.2.1 dX7_tell_95 rfl (lv_at hl 0 rfl) ?_
    refine sb_toS (ks := 93) (kr := 94) (rest := []) hC hB hA S (by decide) (by decide) (by decide) (by decide) (by decide) (by decide) (by decide) (by decide) (by decide) (by decide) hn93 hn94 (cwV 0 hC.2.2.2.2 gX7_tell_J4_toString_0e30d rfl rfl rfl hdV_J4_toString_0e30d ⟨Nat.le_of_ble_eq_true rfl, Nat.le_of_ble_eq_true rfl⟩) hl.1 (Nat.le_of_ble_eq_true rfl) dX7_tell_96 ⟨Nat.le_of_ble_eq_true rfl, Nat.le_of_ble_eq_true rfl⟩ (fun qs L' X' H locs hk G => ?_)
    refine W.widen (k := 40) (n := 2400) (by decide) (by decide) ?_
    have G := g_ag (σ := σ1) (lay := lay) (cy := cy) (fun k hk87 => ((hk k (by omega) (by omega) (by omega) (by omega)).2).trans (agX_at hk87)) (fun k hk87 => ((hk k (by omega) (by omega) (by omega) (by omega)).1).trans (eo k hk87)) G
    exact vx_ret (ag_tret hC hr ⟨_, rfl⟩ hlocks G h dX7_tell_99)
  have app : W p l e (rmS 9 40 2400) s m args below meth c H locs 18 900 (vx_MQ below (va_Qr (S := MS) post (fun τ _ t => agO D cy lay τ t) (agA lay s.heap.size)) (agXC D cy lay pex s.heap.size) args s 40 2400 (agA lay s.heap.size)) (F0 m 86 ls []) := by
    refine lv_aload_n hC.1 hC.2.1 dX7_tell_86 rfl (lv_at hl 2 rfl) ?_
    refine lv_aload_n hC.1 hC.2.1 dX7_tell_87 rfl (lv_at hl 0 rfl) ?_
    refine lv_aload_n hC.1 hC.2.1 dX7_tell_88 rfl (lv_at hl 1 rfl) ?_
    refine sb_get hC hB S (by omega) (by omega) (by omega) hXw k_X6 (fun _ h => List.mem_cons_of_mem _ (List.mem_append_left _ (List.mem_append_left _ (List.mem_append_right _ h)))) 8 (by decide) (wm 8 rfl) rfl dX7_tell_89 ?_
    refine sb_appP (kn := 92) (ad := ad) (P := P) (rest := []) hC hB hK hA S (by decide) (by decide) (by decide) (by decide) (by decide) (by decide) (by decide) (by decide) hn92 hX0 (by show some (Value.int (σ1 0 6)) = _; rw [eP]) hP hn40 (cwV 2 hC.2.2.2.2 gX7_tell_X7_appendPlayers rfl rfl rfl hdV_X7_appendPlayers ⟨Nat.le_of_ble_eq_true rfl, Nat.le_of_ble_eq_true rfl⟩) hl.1 (Nat.le_of_ble_eq_true rfl) dX7_tell_92 ⟨Nat.le_of_ble_eq_true rfl, Nat.le_of_ble_eq_true rfl⟩ (fun n' H locs hn' S => ?_)
    exact fin n' H locs ls (by omega) S hl
  refine lv_aload_n hC.1 hC.2.1 dX7_tell_70 rfl (lv_at hl 1 rfl) ?_
  refine sb_get hC hB S (by omega) (by omega) (by omega) hXw k_X6 (fun _ h => List.mem_cons_of_mem _ (List.mem_append_left _ (List.mem_append_left _ (List.mem_append_right _ h)))) 7 (by decide) (wm 7 rfl) rfl dX7_tell_71 ?_
  refine lv_iconst (v := 1) hC.1 hC.2.1 dX7_tell_74 (by decide) ?_
  refine lv_icmp_eq (tgt := 86) hC.1 hC.2.1 dX7_tell_75 (by decide) (fun _ => app) (fun _ => ?_)
  refine lv_aload_n hC.1 hC.2.1 dX7_tell_78 rfl (lv_at hl 1 rfl) ?_
  refine sb_get hC hB S (by omega) (by omega) (by omega) hXw k_X6 (fun _ h => List.mem_cons_of_mem _ (List.mem_append_left _ (List.mem_append_left _ (List.mem_append_right _ h)))) 7 (by decide) (wm 7 rfl) rfl dX7_tell_79 ?_
  refine lv_iconst (v := 2) hC.1 hC.2.1 dX7_tell_82 (by decide) ?_
  refine lv_icmp_ne (tgt := 95) hC.1 hC.2.1 dX7_tell_83 (by decide) (fun _ => ?_) (fun _ => app)
  refine W.widen (k := 38) (n := 2300) (by decide) (by decide) ?_
  exact fin n H locs ls (by omega) S hl
