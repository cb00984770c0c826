/-! THE REFERENCE: walking over a list -/
def hI (D : va_G) (cy : Nat → ClassId) (lay : Nat → Nat) (X : Nat → Option va_E) (sz : Nat) (U : State) : Prop := U.heap.size = sz ∧ (va_K D vwCl (fdT cy) U ∧ rN U) ∧ gP D lay X U.heap ∧ gI (fun _ => True) lay X
theorem hI_blind {D : va_G} {cy : Nat → ClassId} {lay : Nat → Nat} {X : Nat → Option va_E} {sz : Nat} {As : List Value} : FrameBlind (va_Pc As (hI D cy lay X sz)) := by
  intro a U g mk h
  obtain ⟨h0, h1, ⟨k1, k2⟩, h2, h3⟩ := h
  exact ⟨h0, h1, ⟨va_K.moved (u := U) (U := U.calling g mk a) (Vm.Alike.refl U.vm) k1, rN_same (u := U) (U := U.calling g mk a) rfl k2⟩, h2, h3⟩
section HROWS
variable {p : Program} {l : Launch} {e : Env} {R : Room} {s : State} {m : MethodId} {args : Array Value} {below : List Frame} {meth : Method} {c : Code} {H : Heap} {locs : List Loc} {cells slots : Nat} {Q : State → Prop}
variable {cc bytes : ByteArray} {pc nL maxL mc ms n index count : Nat} {ls : Array Slot} {ST rest As : List Value} {D : va_G} {cy : Nat → ClassId} {lay : Nat → Nat} {X : Nat → Option va_E} {A : Nat → Prop} {H0 : Heap} {Ts ws : List Cond} {own Cn host : String} {y : MethodName} {ret : Option FieldType} {rm : Room} {b : Addr} {tys : List (ClassId × FieldType)}
variable {Qc : Array Value → State → Outcome → State → Prop} {free : Addr → Prop}
theorem h_ofW {ws' : List Cond} {maxL : Nat} {sz : Nat} {Qc : Nat → Array Value → State → Outcome → State → Prop} (hy : plainName y.cls = true) (hw : ws = Cond.code y cc maxL ret :: ws') (hnl : (lg_sl As).length ≤ maxL) (hoo : y.cls = own)
    (body : ∀ (p : Program) (e : Env) (s : State) (m : MethodId) (args : Array Value) (below : List Frame) (meth : Method) (c : Code) (ls : Array Slot), CallFix p m c cc maxL s args ws own → meth.sig.returnType = ret → meth.locks = false → meth.name = y.name → va_K D vwCl (fdT cy) s ∧ rN s → gG D lay X (gA lay X s.heap.size) s.heap s.heap [] → lv_has ls maxL (lv_args 0 As) →
      W p l e rm s m args below meth c s.heap [] 0 0 (MQ below (Qc s.heap.size) args s mc ms (gA lay X s.heap.size)) (F0 m 0 ls [])) : Met l y ws rm (va_Pc As (hI D cy lay X sz)) (Qc sz) mc ms (gA lay X sz) := by
  refine Met.ofW (cc := cc) (maxL := maxL) (ret := ret) hy hw ?_
  intro p e s m args below meth c s₁ B hml hv
  obtain ⟨rfl, hsz, hT, hP, hI⟩ := hv
  subst hsz
  have hl := lv_entry As (n := maxL) hnl
  rw [lg_entry_eq]
  have hown : s.vm.findClass y.cls = some m.cls := findClass_of_methodNamed B.named
  rw [hoo] at hown
  exact body p e s m As.toArray below meth c _ ⟨B.exec, B.bytes, hml, hown, atoms_spec (ws := ws) B.pre⟩ B.returns B.notSynchronized (name_of_methodNamed B.named B.method).1 hT ⟨hP, gI_self hI, va_S.rf⟩ hl
/-- a field that the class has from above -/
theorem g_getS {C ref : String} {T : u_T} {N ci : Nat} {ty : Nat → FieldType} (hC : CallFix p m c cc nL s args Ts own) (hK : va_K D vwCl tys s) (G : gG D lay X A H0 H locs) {k : Nat} (hk : k < 128) {fs : List Value} (he : X k = some (.inr (ci, fs))) (hcl : agCl C T N ci ty) (hin : ∀ w ∈ u_ws C T N, w ∈ Ts) (j : Nat) (hj : j < N) (hl : Cond.fieldLink own index ref (T j).2.1 (T j).2.2.1 ∈ Ts) (hs : Cond.sameField ref (T j).1 (T j).2.1 (T j).2.2.1 ∈ Ts) {v : Value} (hv : fs[j]? = some v) (hdg : decode cc pc = .ok (.getfield index, 3))
    (kk : W p l e R s m args below meth c H locs cells slots Q (F0 m (pc + 3) ls (v :: rest))) : W p l e R s m args below meth c H locs cells slots Q (F0 m pc ls (.ref (lay k) :: rest)) := by
  obtain ⟨q0, hq⟩ := gW_pos (lay := lay) hk he
  exact va_get hC.1 hC.2.1 hC.2.2.2.2 hin hC.2.2.2.1 hK (gP_list G.1) q0 hq hcl.1 j hj (hC.2.2.2.2 _ hl) (fun x h => u_same (hC.2.2.2.2 _ hs) x h) hv hdg kk
theorem hI_next {s U : State} {H : Heap} {locs : List Loc} (hT : va_K D vwCl (fdT cy) s ∧ rN s) (G : gG D lay X A H0 H locs) (hU : U.heap = H) (hW : s.WarmedH U.vm) : hI D cy lay X H.size U :=
  ⟨by rw [hU], ⟨va_K.moved hW.alike hT.1, rN_warm hW hT.2⟩, by rw [hU]; exact G.1, gI_weak G.2.1 (fun _ _ => trivial)⟩
theorem h_runV (hC : CallFix p m c cc nL s args Ts own) (hT : va_K D vwCl (fdT cy) s ∧ rN s) (G : gG D lay X A H0 H locs) (hM : Met l y ws rm (va_Pc (.ref b :: As) (hI D cy lay X H.size)) Qc mc ms free) (cw : CallW R s args own Cn index y bytes maxL ret ws rm mc ms n) (hrv : ∃ cell : Cell, H[b]? = some cell ∧ cell.vm.isStatics = false ∧ s.vm.findClass Cn = some cell.cls)
    (hn : As.length = n) (hls : ls.size = nL) (hst : ST = As.reverse ++ .ref b :: rest) (hW : (rest.map fun v => v.category).sum ≤ 8) (hdg : decode cc pc = .ok (.invokevirtual index, 3)) (hf : cells + mc ≤ R.cells ∧ slots + ms ≤ R.slots) :
    va_Run p l e R s m args below meth c H locs cells slots mc ms (F0 m pc ls ST) rest (Qc (.ref b :: As).toArray) free :=
  va_runV hC hM cw ⟨hI_blind, hrv, fun U hU hW => ⟨rfl, hI_next hT G hU hW⟩⟩ rfl hn hls hst (lv_room hW) hdg hf
theorem h_runI (hC : CallFix p m c cc nL s args Ts own) (hT : va_K D vwCl (fdT cy) s ∧ rN s) (G : gG D lay X A H0 H locs) (hM : Met l y ws rm (va_Pc (.ref b :: As) (hI D cy lay X H.size)) Qc mc ms free) (cw : CallB R s args own index y bytes maxL none ws rm mc ms n ∧ y.name = "<init>" ∧ (Cond.instanceMethod y).before args s = true)
    (hn : As.length = n) (hls : ls.size = nL) (hst : ST = As.reverse ++ .ref b :: rest) (hW : (rest.map fun v => v.category).sum ≤ 8) (hdg : decode cc pc = .ok (.invokespecial index, 3)) (hf : cells + mc ≤ R.cells ∧ slots + ms ≤ R.slots) :
    va_Run p l e R s m args below meth c H locs cells slots mc ms (F0 m pc ls ST) rest (Qc (.ref b :: As).toArray) free :=
  va_runI hC hM cw ⟨hI_blind, fun U hU hW => ⟨rfl, hI_next hT G hU hW⟩⟩ rfl hn hls hst (lv_room hW) hdg hf
theorem h_runF {x : MethodName} {cC : ClassId} (hat : ClassAt s Cn cC) (hC : CallFix p m c cc nL s args Ts own) (hT : va_K D vwCl (fdT cy) s ∧ rN s) (G : gG D lay X A H0 H locs) (hM : Met l y ws rm (va_Pc (.ref b :: As) (hI D cy lay X H.size)) Qc mc ms free) (cw : va_CI R s args own Cn index x y bytes maxL ret ws rm mc ms n) (hrv : ∃ cell : Cell, H[b]? = some cell ∧ cell.vm.isStatics = false ∧ s.vm.findClass Cn = some cell.cls)
    (hn : As.length = n) (hls : ls.size = nL) (hst : ST = As.reverse ++ .ref b :: rest) (hW : (rest.map fun v => v.category).sum ≤ 8) (hdg : decode cc pc = .ok (.invokeinterface index count, 5)) (hf : cells + mc ≤ R.cells ∧ slots + ms ≤ R.slots) :
    va_Run5 p l e R s m args below meth c H locs cells slots mc ms (F0 m pc ls ST) rest (Qc (.ref b :: As).toArray) free :=
  va_runF hat hC hM cw ⟨hI_blind, hrv, fun U hU hW => ⟨rfl, hI_next hT G hU hW⟩⟩ rfl hn hls hst (lv_room hW) hdg hf
theorem h_recv {ci : Nat} {C : String} {T : u_T} {N : Nat} {ty : Nat → FieldType} {fs : List Value} (hT : va_K D vwCl (fdT cy) s ∧ rN s) (G : gG D lay X A H0 H locs) {k : Nat} (hk : k < 128) (he : X k = some (.inr (ci, fs))) (hcl : agCl C T N ci ty) : ∃ cell : Cell, H[lay k]? = some cell ∧ cell.vm.isStatics = false ∧ s.vm.findClass C = some cell.cls := by
  obtain ⟨q0, hq⟩ := gW_pos (lay := lay) hk he
  exact va_recv hT.1 (gP_list G.1) hcl.1 hq
end HROWS
theorem k_IT : agCl RJx35411 TJx35411 4 3 tyJx35411 := ⟨rfl, tyJx35411_ok, nmJx35411⟩
abbrev itE (lay : Nat → Nat) (kl : Nat) (c r x : Int32) : va_E := .inr (3, [.int c, .int r, .int x, .ref (lay kl)])
theorem i_itc_I : ∀ w ∈ wsJx354110, w ∈ wsJx35411_checkForComodification_da8c8 := fun _ h => List.mem_cons_of_mem _ (List.mem_append_left _ (List.mem_append_right _ h))
theorem i_itc_L : ∀ w ∈ wsJx4a65c0, w ∈ wsJx35411_checkForComodification_da8c8 := fun _ h => List.mem_cons_of_mem _ (List.mem_append_right _ h)
theorem i_ith_I : ∀ w ∈ wsJx354110, w ∈ wsJx35411_hasNext_aae02 := fun _ h => List.mem_cons_of_mem _ (List.mem_append_left _ (List.mem_append_right _ h))
theorem i_ith_L : ∀ w ∈ wsJx4a65c0, w ∈ wsJx35411_hasNext_aae02 := fun _ h => List.mem_cons_of_mem _ (List.mem_append_right _ h)
theorem i_itn_I : ∀ w ∈ wsJx354110, w ∈ wsJx35411_next_0502b := fun _ h => List.mem_cons_of_mem _ (List.mem_append_left _ (List.mem_append_right _ h))
theorem i_itn_L : ∀ w ∈ wsJx4a65c0, w ∈ wsJx35411_next_0502b := fun _ h => List.mem_cons_of_mem _ (List.mem_append_right _ h)
theorem i_iti_I : ∀ w ∈ wsJx354110, w ∈ wsJx35411_init_45d68 := fun _ h => List.mem_cons_of_mem _ (List.mem_append_left _ (List.mem_append_right _ h))
theorem i_iti_L : ∀ w ∈ wsJx4a65c0, w ∈ wsJx35411_init_45d68 := fun _ h => List.mem_cons_of_mem _ (List.mem_append_right _ h)
theorem i_itr_I : ∀ w ∈ wsJx354110, w ∈ wsJx4a65c_iterator_32c93 := fun _ h => List.mem_cons_of_mem _ (List.mem_append_left _ (List.mem_append_right _ h))
abbrev rm_it0 : Room := { frames := 0, cells := 0, slots := 0, locals := 0 }
abbrev rm_itn : Room := { frames := 1, cells := 0, slots := 0, locals := 40 }
abbrev rm_iti : Room := { frames := 1, cells := 0, slots := 0, locals := 16 }
abbrev rm_itr : Room := { frames := 2, cells := 1, slots := 4, locals := 48 }
set_option maxHeartbeats 4000000 in
set_option maxRecDepth 100000 in
theorem c_it_check (l : Launch) (D : va_G) (cy : Nat → ClassId) (lay : Nat → Nat) (X : Nat → Option va_E) {ki kl : Nat} (hki : ki < 128) (hkl : kl < 128) {cu la mo n : Int32} {e : Value} (h1 : X ki = some (itE lay kl cu la mo)) (h2 : X kl = some (.inr (4, [.int mo, e, .int n]))) (sz : Nat) : Met l yJx35411_checkForComodification_da8c8 wsJx35411_checkForComodification_da8c8 rm_it0 (va_Pc [.ref (lay ki)] (hI D cy lay X sz)) (va_Qv (fun Y : GY => Y = (lay, X)) (gO D (gA lay X sz)) (gA lay X sz)) 0 0 (gA lay X sz) := by
  refine h_ofW (cc := cJx35411_checkForComodification_da8c8) (maxL := 1) (ret := none) (own := RJx35411) (Qc := fun sz => va_Qv (fun Y : GY => Y = (lay, X)) (gO D (gA lay X sz)) (gA lay X sz)) (by decide) rfl (Nat.le_of_ble_eq_true rfl) rfl ?_
  intro p e0 s m args below meth c ls hC hr hlocks hname hT G hl
  have hl : lv_has ls 1 [(0, .ref (lay ki))] := hl
  refine lv_aload_n hC.1 hC.2.1 dJx35411_checkForComodification_da8c8_0 rfl (lv_at hl 0 rfl) ?_
  refine g_get hC hT.1 G hki h1 k_IT i_itc_I 3 (by decide) (wm 1 rfl) rfl dJx35411_checkForComodification_da8c8_1 ?_
  refine g_getS hC hT.1 G hkl h2 k_AL i_itc_L 0 (by decide) (wm 2 rfl) (wm 3 rfl) rfl dJx35411_checkForComodification_da8c8_4 ?_
  refine lv_aload_n hC.1 hC.2.1 dJx35411_checkForComodification_da8c8_7 rfl (lv_at hl 0 rfl) ?_
  refine g_get hC hT.1 G hki h1 k_IT i_itc_I 2 (by decide) (wm 4 rfl) rfl dJx35411_checkForComodification_da8c8_8 ?_
  refine lv_icmp_eq (tgt := 22) hC.1 hC.2.1 dJx35411_checkForComodification_da8c8_11 (by decide) (fun c1 => ?_) (fun c1 => absurd rfl c1)
  exact g_vret (Y := (lay, X)) hC hr hlocks G rfl dJx35411_checkForComodification_da8c8_22
theorem hdV_it_check : yJx35411_checkForComodification_da8c8.cls = RJx35411 ∧ yJx35411_checkForComodification_da8c8.cls ≠ "java/lang/invoke/MethodHandle" ∧ yJx35411_checkForComodification_da8c8.cls ≠ "java/lang/invoke/VarHandle" ∧ (parseMethodDescriptor yJx35411_checkForComodification_da8c8.desc).map (fun d => d.parameters.length) = some 0 := by decide +kernel
set_option maxHeartbeats 4000000 in
set_option maxRecDepth 100000 in
theorem c_it_hasNext (l : Launch) (D : va_G) (cy : Nat → ClassId) (lay : Nat → Nat) (X : Nat → Option va_E) {ki kl : Nat} (hki : ki < 128) (hkl : kl < 128) {cu la mo n mo2 : Int32} {e : Value} (h1 : X ki = some (itE lay kl cu la mo)) (h2 : X kl = some (.inr (4, [.int mo2, e, .int n]))) (sz : Nat) : Met l yJx35411_hasNext_aae02 wsJx35411_hasNext_aae02 rm_it0 (va_Pc [.ref (lay ki)] (hI D cy lay X sz)) (va_Qi (fun r (Y : GY) => r = b01 (!decide (cu = n)) ∧ Y = (lay, X)) (gO D (gA lay X sz)) (gA lay X sz)) 0 0 (gA lay X sz) := by
  refine h_ofW (cc := cJx35411_hasNext_aae02) (maxL := 1) (ret := some .boolean) (own := RJx35411) (Qc := fun sz => va_Qi (fun r (Y : GY) => r = b01 (!decide (cu = n)) ∧ Y = (lay, X)) (gO D (gA lay X sz)) (gA lay X sz)) (by decide) rfl (Nat.le_of_ble_eq_true rfl) rfl ?_
  intro p e0 s m args below meth c ls hC hr hlocks hname hT G hl
  have hl : lv_has ls 1 [(0, .ref (lay ki))] := hl
  refine lv_aload_n hC.1 hC.2.1 dJx35411_hasNext_aae02_0 rfl (lv_at hl 0 rfl) ?_
  refine g_get hC hT.1 G hki h1 k_IT i_ith_I 0 (by decide) (wm 1 rfl) rfl dJx35411_hasNext_aae02_1 ?_
  refine lv_aload_n hC.1 hC.2.1 dJx35411_hasNext_aae02_4 rfl (lv_at hl 0 rfl) ?_
  refine g_get hC hT.1 G hki h1 k_IT i_ith_I 3 (by decide) (wm 2 rfl) rfl dJx35411_hasNext_aae02_5 ?_
  refine g_getN hC hT.1 G hkl h2 k_AL i_ith_L 2 (by decide) (nest_use _ (nestR_ok _ (wm 0 rfl)) (hT.2.1 _ (wm 0 rfl))) rfl dJx35411_hasNext_aae02_8 ?_
  refine lv_icmp_eq (tgt := 18) hC.1 hC.2.1 dJx35411_hasNext_aae02_11 (by decide) (fun c1 => ?_) (fun c1 => ?_)
  · refine lv_iconst (v := 0) hC.1 hC.2.1 dJx35411_hasNext_aae02_18 (by decide) ?_
    exact W.zret (v := 0) hC.1 hC.2.1 hr rfl (fun t ht hW => ⟨⟨0, (lay, X), rfl, ⟨by rw [decide_eq_true c1]; rfl, rfl⟩, by rw [ht]; exact G.1, G.2.1⟩, G.2.2.F ht⟩) G.2.2.2.2 dJx35411_hasNext_aae02_19 hlocks
  · refine lv_iconst (v := 1) hC.1 hC.2.1 dJx35411_hasNext_aae02_14 (by decide) ?_
    refine lv_goto (tgt := 19) hC.1 hC.2.1 dJx35411_hasNext_aae02_15 (by decide) ?_
    exact W.zret (v := 1) hC.1 hC.2.1 hr rfl (fun t ht hW => ⟨⟨1, (lay, X), rfl, ⟨by rw [decide_eq_false c1]; rfl, rfl⟩, by rw [ht]; exact G.1, G.2.1⟩, G.2.2.F ht⟩) G.2.2.2.2 dJx35411_hasNext_aae02_19 hlocks
set_option maxHeartbeats 4000000 in
set_option maxRecDepth 100000 in
theorem c_it_next (l : Launch) (D : va_G) (cy : Nat → ClassId) (lay : Nat → Nat) (X : Nat → Option va_E) {ki kl ke cap ci n q : Nat} {f : Nat → Option Nat} (hki : ki < 128) (hkl : kl < 128) (hke : ke < 128) (hne : ki ≠ kl) (hne2 : ki ≠ ke) {la mo : Int32} (h1 : X ki = some (itE lay kl (nI ci) la mo)) (h2 : X kl = some (.inr (4, [.int mo, .ref (lay ke), .int (nI n)]))) (h3 : X ke = some (.inl (cy 7, cap, rfS f))) (hc : ci < n) (hn : n ≤ cap) (hcap : cap < 100) (hf : f ci = some q) (sz : Nat) : Met l yJx35411_next_0502b wsJx35411_next_0502b rm_itn (va_Pc [.ref (lay ki)] (hI D cy lay X sz)) (va_Qr (S := GY) (fun Y => Y = (lay, gU X ki (some (itE lay kl (nI (ci + 1)) (nI ci) mo)))) (fun Y a t => a = q ∧ gO D (gA lay X sz) Y t) (gA lay X sz)) 0 0 (gA lay X sz) := by
  refine h_ofW (cc := cJx35411_next_0502b) (maxL := 3) (ret := some (.object "java/lang/Object")) (own := RJx35411) (Qc := fun sz => va_Qr (S := GY) (fun Y => Y = (lay, gU X ki (some (itE lay kl (nI (ci + 1)) (nI ci) mo)))) (fun Y a t => a = q ∧ gO D (gA lay X sz) Y t) (gA lay X sz)) (by decide) rfl (Nat.le_of_ble_eq_true rfl) rfl ?_
  intro p e0 s m args below meth c ls hC hr hlocks hname hT G hl
  have hl : lv_has ls 3 [(0, .ref (lay ki))] := hl
  have hA : ∀ q, s.heap.size ≤ q → gA lay X s.heap.size q := fun _ h => Or.inr h
  refine lv_aload_n hC.1 hC.2.1 dJx35411_next_0502b_0 rfl (lv_at hl 0 rfl) ?_
  refine g_v G hA (h_runV (As := []) (rest := []) hC hT G (c_it_check l D cy lay X hki hkl h1 h2 _) (cwV 0 hC.2.2.2.2 gJx35411_next_0502b_Jx35411_checkForComodification_da8c8 rfl rfl rfl hdV_it_check ⟨Nat.le_of_ble_eq_true rfl, Nat.le_of_ble_eq_true rfl⟩) (h_recv hT G hki h1 k_IT) rfl hl.1 rfl (Nat.le_of_ble_eq_true rfl) dJx35411_next_0502b_1 ⟨Nat.le_of_ble_eq_true rfl, Nat.le_of_ble_eq_true rfl⟩) (fun Y H locs hY G => ?_)
  subst hY
  refine lv_aload_n hC.1 hC.2.1 dJx35411_next_0502b_4 rfl (lv_at hl 0 rfl) ?_
  refine g_get hC hT.1 G hki h1 k_IT i_itn_I 0 (by decide) (wm 1 rfl) rfl dJx35411_next_0502b_5 ?_
  refine lv_istore_n (lv' := [(1, .int (nI ci)), (0, .ref (lay ki))]) hC.1 hC.2.1 dJx35411_next_0502b_8 rfl hl (by decide) rfl (fun ls hl => ?_)
  refine lv_iload_n hC.1 hC.2.1 dJx35411_next_0502b_9 rfl (lv_at hl 0 rfl) ?_
  refine lv_aload_n hC.1 hC.2.1 dJx35411_next_0502b_10 rfl (lv_at hl 1 rfl) ?_
  refine g_get hC hT.1 G hki h1 k_IT i_itn_I 3 (by decide) (wm 2 rfl) rfl dJx35411_next_0502b_11 ?_
  refine g_getN hC hT.1 G hkl h2 k_AL i_itn_L 2 (by decide) (nest_use _ (nestR_ok _ (wm 0 rfl)) (hT.2.1 _ (wm 0 rfl))) rfl dJx35411_next_0502b_14 ?_
  refine lv_icmp_lt (tgt := 28) hC.1 hC.2.1 dJx35411_next_0502b_17 (by decide) (fun c1 => ?_) (fun c1 => absurd (nI_lt hc (by omega)) c1)
  refine lv_aload_n hC.1 hC.2.1 dJx35411_next_0502b_28 rfl (lv_at hl 1 rfl) ?_
  refine g_get hC hT.1 G hki h1 k_IT i_itn_I 3 (by decide) (wm 2 rfl) rfl dJx35411_next_0502b_29 ?_
  refine g_get hC hT.1 G hkl h2 k_AL i_itn_L 1 (by decide) (wm 3 rfl) rfl dJx35411_next_0502b_32 ?_
  refine lv_astore_n (lv' := [(2, .ref (lay ke)), (1, .int (nI ci)), (0, .ref (lay ki))]) hC.1 hC.2.1 dJx35411_next_0502b_35 rfl hl (by decide) rfl (fun ls hl => ?_)
  refine lv_iload_n hC.1 hC.2.1 dJx35411_next_0502b_36 rfl (lv_at hl 1 rfl) ?_
  refine lv_aload_n hC.1 hC.2.1 dJx35411_next_0502b_37 rfl (lv_at hl 0 rfl) ?_
  obtain ⟨q0, hq0⟩ := gW_pos (lay := lay) hke h3
  refine va_alen hC.1 hC.2.1 hT.1 (gP_list G.1) q0 7 hq0 rfl rfl dJx35411_next_0502b_38 ?_
  refine lv_icmp_lt (tgt := 50) hC.1 hC.2.1 dJx35411_next_0502b_39 (by decide) (fun c2 => ?_) (fun c2 => absurd (nI_lt (show ci < cap by omega) (by omega)) c2)
  refine lv_aload_n hC.1 hC.2.1 dJx35411_next_0502b_50 rfl (lv_at hl 2 rfl) ?_
  refine lv_iload_n hC.1 hC.2.1 dJx35411_next_0502b_51 rfl (lv_at hl 1 rfl) ?_
  refine lv_iconst (v := 1) hC.1 hC.2.1 dJx35411_next_0502b_52 (by decide) ?_
  refine lv_iadd hC.1 hC.2.1 dJx35411_next_0502b_53 ?_
  rw [nI_1]
  refine g_put hC hT.1 G hki h1 k_IT i_itn_I 0 (by decide) (wm 1 rfl) rfl rfl rfl (by simp) dJx35411_next_0502b_54 (fun H locs G => ?_)
  have G : gG D lay (gU X ki (some (itE lay kl (nI (ci + 1)) la mo))) _ s.heap H locs := G
  refine lv_aload_n hC.1 hC.2.1 dJx35411_next_0502b_57 rfl (lv_at hl 0 rfl) ?_
  refine lv_aload_n hC.1 hC.2.1 dJx35411_next_0502b_58 rfl (lv_at hl 2 rfl) ?_
  refine lv_iload_n hC.1 hC.2.1 dJx35411_next_0502b_59 rfl (lv_at hl 1 rfl) ?_
  refine lv_dup_x1 hC.1 hC.2.1 dJx35411_next_0502b_60 rfl rfl ?_
  refine g_put hC hT.1 G hki gU_eq k_IT i_itn_I 1 (by decide) (wm 4 rfl) rfl rfl rfl (by simp) dJx35411_next_0502b_61 (fun H locs G => ?_)
  have G : gG D lay (gU X ki (some (itE lay kl (nI (ci + 1)) (nI ci) mo))) _ s.heap H locs := gG_up2 G
  have h3' : gU X ki (some (itE lay kl (nI (ci + 1)) (nI ci) mo)) ke = some (.inl (cy 7, cap, rfS f)) := by rw [gU_ne (Ne.symm hne2)]; exact h3
  obtain ⟨q1, hq1⟩ := gW_pos (lay := lay) hke h3'
  refine va_aldq hC.1 hC.2.1 hT.1 (gP_list G.1) q1 7 hq1 rfl (vp_in_nI (by omega) (by omega)) dJx35411_next_0502b_64 ?_
  rw [nI_clamp (show ci < 2 ^ 31 by omega), hf]
  exact W.aret (v := .ref q) hC.1 hC.2.1 hr (Or.inl ⟨_, rfl⟩) (Or.inr ⟨_, rfl⟩) (fun t ht hW => ⟨⟨_, q, rfl, rfl, rfl, by rw [ht]; exact G.1, G.2.1⟩, G.2.2.F ht⟩) G.2.2.2.2 dJx35411_next_0502b_65 hlocks
