/-! TEXTS: StringBuilder and String, of Latin-1; what they hold doesn't matter here, only that there is room -/
/-- what the tables and statics say -/
def tB (D : va_G) (cy : Nat → ClassId) (A : Nat → Prop) (U : State) (H : Heap) : Prop :=
  va_K D vwCl (fdT cy) U ∧ va_Nw (.castable "[B" "java/lang/Cloneable") U ∧ va_Z "java/lang/String" "COMPACT_STRINGS" "Z" (.int 1) A U H ∧
  ∃ (q1 q2 : Nat) (f1 f2 : Nat → Int32), va_Z "java/lang/Integer" "DigitOnes" "[B" (.ref q1) A U H ∧ va_T .byte q1 100 (fun j => .int (f1 j)) A U H ∧ va_Z "java/lang/Integer" "DigitTens" "[B" (.ref q2) A U H ∧ va_T .byte q2 100 (fun j => .int (f2 j)) A U H
/-- a String that was there before, of w letters -/
def tX (sa w : Nat) (A : Nat → Prop) (U : State) (H : Heap) : Prop :=
  va_O "java/lang/String" sa A U H ∧ va_OF "java/lang/String" "coder" "B" (.int 0) sa A U H ∧ ∃ (ra : Nat) (g : Nat → Int32), va_OF "java/lang/String" "value" "[B" (.ref ra) sa A U H ∧ va_T .byte ra w (fun j => .int (g j)) A U H ∧ ∀ j, j < w → fits .byte (.int (g j)) = true
theorem tB.moved {D : va_G} {cy : Nat → ClassId} {A : Nat → Prop} {u U : State} {H : Heap} (hvm : u.vm.Alike U.vm) (hn : va_Nw (.castable "[B" "java/lang/Cloneable") U) (h : tB D cy A u H) : tB D cy A U H := by
  obtain ⟨h1, -, h3, q1, q2, f1, f2, k1, k2, k3, k4⟩ := h
  exact ⟨va_K.moved hvm h1, hn, h3.moved hvm, q1, q2, f1, f2, k1.moved hvm, k2.moved hvm, k3.moved hvm, k4.moved hvm⟩
theorem tB.kept {D : va_G} {cy : Nat → ClassId} {A : Nat → Prop} {U : State} {H H1 : Heap} (h : tB D cy A U H) (hq : ∀ a : Nat, a < H.size → ¬ A a → H1[a]? = H[a]?) : tB D cy A U H1 := by
  obtain ⟨h1, h2, h3, q1, q2, f1, f2, k1, k2, k3, k4⟩ := h
  exact ⟨h1, h2, h3.kept hq, q1, q2, f1, f2, k1.kept hq, k2.kept hq, k3.kept hq, k4.kept hq⟩
theorem tB.narrow {D : va_G} {cy : Nat → ClassId} {A B : Nat → Prop} {U : State} {H : Heap} (h : tB D cy A U H) (hB : ∀ q, B q → A q) : tB D cy B U H := by
  obtain ⟨h1, h2, h3, q1, q2, f1, f2, k1, k2, k3, k4⟩ := h
  exact ⟨h1, h2, h3.narrow hB, q1, q2, f1, f2, k1.narrow hB, k2.narrow hB, k3.narrow hB, k4.narrow hB⟩
theorem tX.moved {sa w : Nat} {A : Nat → Prop} {u U : State} {H : Heap} (hvm : u.vm.Alike U.vm) (h : tX sa w A u H) : tX sa w A U H := by
  obtain ⟨h1, h2, ra, g, h3, h4, h5⟩ := h
  exact ⟨h1.moved hvm, h2.moved hvm, ra, g, h3.moved hvm, h4.moved hvm, h5⟩
theorem tX.kept {sa w : Nat} {A : Nat → Prop} {U : State} {H H1 : Heap} (h : tX sa w A U H) (hq : ∀ a : Nat, a < H.size → ¬ A a → H1[a]? = H[a]?) : tX sa w A U H1 := by
  obtain ⟨h1, h2, ra, g, h3, h4, h5⟩ := h
  exact ⟨h1.kept hq, h2.kept hq, ra, g, h3.kept hq, h4.kept hq, h5⟩
theorem tX.narrow {sa w : Nat} {A B : Nat → Prop} {U : State} {H : Heap} (h : tX sa w A U H) (hB : ∀ q, B q → A q) : tX sa w B U H := by
  obtain ⟨h1, h2, ra, g, h3, h4, h5⟩ := h
  exact ⟨h1.narrow hB, h2.narrow hB, ra, g, h3.narrow hB, h4.narrow hB, h5⟩
/-- a method's start: the world X, and a text or none -/
def sI (D : va_G) (cy : Nat → ClassId) (tx : Option (Nat × Nat)) (lay : Nat → Nat) (X : Nat → Option va_E) (sz : Nat) (U : State) : Prop :=
  U.heap.size = sz ∧ tB D cy (gA lay X sz) U U.heap ∧ (∀ q, tx = some q → tX q.1 q.2 (gA lay X sz) U U.heap) ∧ gP D lay X U.heap ∧ gI (fun _ => True) lay X
theorem sI_blind {D : va_G} {cy : Nat → ClassId} {tx : Option (Nat × Nat)} {lay : Nat → Nat} {X : Nat → Option va_E} {sz : Nat} {As : List Value} : FrameBlind (va_Pc As (sI D cy tx lay X sz)) := by
  intro a U g mk h
  obtain ⟨h0, h1, h2, h3, h4, h5⟩ := h
  exact ⟨h0, h1, tB.moved (u := U) (U := U.calling g mk a) (Vm.Alike.refl U.vm) (nest_same (u := U) (U := U.calling g mk a) rfl _ rfl h2.2.1) h2, fun q hq => tX.moved (u := U) (U := U.calling g mk a) (Vm.Alike.refl U.vm) (h3 q hq), h4, h5⟩
section SROWS
variable {p : Program} {l : Launch} {e : Env} {R : Room} {s : State} {m : MethodId} {args : Array Value} {below : List Frame} {meth : Method} {c : Code} {H : Heap} {locs : List Loc} {cells slots : Nat} {Q : State → Prop}
variable {cc bytes : ByteArray} {pc nL maxL mc ms n index count : Nat} {ls : Array Slot} {ST rest As : List Value} {D : va_G} {cy : Nat → ClassId} {lay : Nat → Nat} {X : Nat → Option va_E} {A : Nat → Prop} {H0 : Heap} {Ts ws : List Cond} {own Cn owner host : String} {x y : MethodName} {ret : Option FieldType} {rm : Room} {b : Addr} {tys : List (ClassId × FieldType)} {tx : Option (Nat × Nat)}
variable {Qc : Array Value → State → Outcome → State → Prop} {free : Addr → Prop}
theorem s_ofW {ws' : List Cond} {maxL : Nat} {sz : Nat} {Qc : Nat → Array Value → State → Outcome → State → Prop} (hy : plainName y.cls = true) (hw : ws = Cond.code y cc maxL ret :: ws') (hnl : (lg_sl As).length ≤ maxL) (hoo : y.cls = own)
    (body : ∀ (p : Program) (e : Env) (s : State) (m : MethodId) (args : Array Value) (below : List Frame) (meth : Method) (c : Code) (ls : Array Slot), CallFix p m c cc maxL s args ws own → meth.sig.returnType = ret → meth.locks = false → meth.name = y.name → tB D cy (gA lay X s.heap.size) s s.heap → (∀ q, tx = some q → tX q.1 q.2 (gA lay X s.heap.size) s s.heap) → gG D lay X (gA lay X s.heap.size) s.heap s.heap [] → lv_has ls maxL (lv_args 0 As) →
      W p l e rm s m args below meth c s.heap [] 0 0 (MQ below (Qc s.heap.size) args s mc ms (gA lay X s.heap.size)) (F0 m 0 ls [])) : Met l y ws rm (va_Pc As (sI D cy tx lay X sz)) (Qc sz) mc ms (gA lay X sz) := by
  refine Met.ofW (cc := cc) (maxL := maxL) (ret := ret) hy hw ?_
  intro p e s m args below meth c s₁ B hml hv
  obtain ⟨rfl, hsz, hT, hX, hP, hI⟩ := hv
  subst hsz
  have hl := lv_entry As (n := maxL) hnl
  rw [lg_entry_eq]
  have hown : s.vm.findClass y.cls = some m.cls := findClass_of_methodNamed B.named
  rw [hoo] at hown
  exact body p e s m As.toArray below meth c _ ⟨B.exec, B.bytes, hml, hown, atoms_spec (ws := ws) B.pre⟩ B.returns B.notSynchronized (name_of_methodNamed B.named B.method).1 hT hX ⟨hP, gI_self hI, va_S.rf⟩ hl
theorem sI_next {U : State} (hT : tB D cy A s s.heap) (htx : ∀ q, tx = some q → tX q.1 q.2 A s s.heap) (G : gG D lay X A s.heap H locs) (hA : ∀ q, s.heap.size ≤ q → A q) (hU : U.heap = H) (hW : s.WarmedH U.vm) : sI D cy tx lay X H.size U := by
  refine ⟨by rw [hU], ?_, fun q hq => ?_, by rw [hU]; exact G.1, gI_weak G.2.1 (fun _ _ => trivial)⟩
  · rw [hU]
    exact ((hT.moved hW.alike (nest_warm hW _ rfl hT.2.1)).kept G.2.2.2.1).narrow (gA_in G hA)
  · rw [hU]
    exact (((htx q hq).moved hW.alike).kept G.2.2.2.1).narrow (gA_in G hA)
theorem s_runV (hC : CallFix p m c cc nL s args Ts own) (hT : tB D cy A s s.heap) (hA : ∀ q, s.heap.size ≤ q → A q) (G : gG D lay X A s.heap H locs) (htx : ∀ q, tx = some q → tX q.1 q.2 A s s.heap) (hM : Met l y ws rm (va_Pc (.ref b :: As) (sI D cy tx lay X H.size)) Qc mc ms free) (cw : CallW R s args own Cn index y bytes maxL ret ws rm mc ms n) (hrv : ∃ cell : Cell, H[b]? = some cell ∧ cell.vm.isStatics = false ∧ s.vm.findClass Cn = some cell.cls)
    (hn : As.length = n) (hls : ls.size = nL) (hst : ST = As.reverse ++ .ref b :: rest) (hW : (rest.map fun v => v.category).sum ≤ 8) (hdg : decode cc pc = .ok (.invokevirtual index, 3)) (hf : cells + mc ≤ R.cells ∧ slots + ms ≤ R.slots) :
    va_Run p l e R s m args below meth c H locs cells slots mc ms (F0 m pc ls ST) rest (Qc (.ref b :: As).toArray) free :=
  va_runV hC hM cw ⟨sI_blind, hrv, fun U hU hW => ⟨rfl, sI_next hT htx G hA hU hW⟩⟩ rfl hn hls hst (lv_room hW) hdg hf
theorem s_runU (hC : CallFix p m c cc nL s args Ts own) (hT : tB D cy A s s.heap) (hA : ∀ q, s.heap.size ≤ q → A q) (G : gG D lay X A s.heap H locs) (htx : ∀ q, tx = some q → tX q.1 q.2 A s s.heap) (hM : Met l y ws rm (va_Pc (.ref b :: As) (sI D cy tx lay X H.size)) Qc mc ms free) (cw : va_CU R s args own Cn owner index x y bytes maxL ret ws rm mc ms n) (hrv : ∃ cell : Cell, H[b]? = some cell ∧ cell.vm.isStatics = false ∧ s.vm.findClass Cn = some cell.cls)
    (hn : As.length = n) (hls : ls.size = nL) (hst : ST = As.reverse ++ .ref b :: rest) (hW : (rest.map fun v => v.category).sum ≤ 8) (hdg : decode cc pc = .ok (.invokevirtual index, 3)) (hf : cells + mc ≤ R.cells ∧ slots + ms ≤ R.slots) :
    va_Run p l e R s m args below meth c H locs cells slots mc ms (F0 m pc ls ST) rest (Qc (.ref b :: As).toArray) free :=
  va_runU hC hM cw ⟨sI_blind, hrv, fun U hU hW => ⟨rfl, sI_next hT htx G hA hU hW⟩⟩ rfl hn hls hst (lv_room hW) hdg hf
theorem s_runSU (hC : CallFix p m c cc nL s args Ts own) (hT : tB D cy A s s.heap) (hA : ∀ q, s.heap.size ≤ q → A q) (G : gG D lay X A s.heap H locs) (htx : ∀ q, tx = some q → tX q.1 q.2 A s s.heap) (hM : Met l y ws rm (va_Pc (.ref b :: As) (sI D cy tx lay X H.size)) Qc mc ms free) (cw : va_CS R s args own index y bytes maxL ret ws rm mc ms n) (hrv : ∃ cell : Cell, H[b]? = some cell ∧ cell.vm.isStatics = false ∧ s.vm.findClass RJ4 = some cell.cls)
    (hn : As.length = n) (hls : ls.size = nL) (hst : ST = As.reverse ++ .ref b :: rest) (hW : (rest.map fun v => v.category).sum ≤ 8) (hdg : decode cc pc = .ok (.invokespecial index, 3)) (hf : cells + mc ≤ R.cells ∧ slots + ms ≤ R.slots) :
    va_Run p l e R s m args below meth c H locs cells slots mc ms (F0 m pc ls ST) rest (Qc (.ref b :: As).toArray) free :=
  va_runSU (C := RJ4) (hT.1.1 1 _ rfl).2 hC hM cw ⟨sI_blind, hrv, fun U hU hW => ⟨rfl, sI_next hT htx G hA hU hW⟩⟩ rfl hn hls hst (lv_room hW) hdg hf
theorem s_runS (hC : CallFix p m c cc nL s args Ts own) (hT : tB D cy A s s.heap) (hA : ∀ q, s.heap.size ≤ q → A q) (G : gG D lay X A s.heap H locs) (htx : ∀ q, tx = some q → tX q.1 q.2 A s s.heap) (hM : Met l y ws rm (va_Pc As (sI D cy tx lay X H.size)) Qc mc ms free) (cw : CallB R s args own index y bytes maxL ret ws rm mc ms n ∧ (Cond.static y).before args s = true)
    (hn : As.length = n) (hls : ls.size = nL) (hst : ST = As.reverse ++ rest) (hW : (rest.map fun v => v.category).sum ≤ 8) (hdg : decode cc pc = .ok (.invokestatic index, 3)) (hf : cells + mc ≤ R.cells ∧ slots + ms ≤ R.slots) :
    va_Run p l e R s m args below meth c H locs cells slots mc ms (F0 m pc ls ST) rest (Qc As.toArray) free :=
  va_runS hC hM cw ⟨sI_blind, fun U hU hW => ⟨rfl, sI_next hT htx G hA hU hW⟩⟩ rfl hn hls hst (lv_room hW) hdg hf
theorem s_runI (hC : CallFix p m c cc nL s args Ts own) (hT : tB D cy A s s.heap) (hA : ∀ q, s.heap.size ≤ q → A q) (G : gG D lay X A s.heap H locs) (htx : ∀ q, tx = some q → tX q.1 q.2 A s s.heap) (hM : Met l y ws rm (va_Pc (.ref b :: As) (sI D cy tx lay X H.size)) Qc mc ms free) (cw : CallB R s args own index y bytes maxL none ws rm mc ms n ∧ y.name = "<init>" ∧ (Cond.instanceMethod y).before args s = true)
    (hn : As.length = n) (hls : ls.size = nL) (hst : ST = As.reverse ++ .ref b :: rest) (hW : (rest.map fun v => v.category).sum ≤ 8) (hdg : decode cc pc = .ok (.invokespecial index, 3)) (hf : cells + mc ≤ R.cells ∧ slots + ms ≤ R.slots) :
    va_Run p l e R s m args below meth c H locs cells slots mc ms (F0 m pc ls ST) rest (Qc (.ref b :: As).toArray) free :=
  va_runI hC hM cw ⟨sI_blind, fun U hU hW => ⟨rfl, sI_next hT htx G hA hU hW⟩⟩ rfl hn hls hst (lv_room hW) hdg hf
theorem s_recv {ci : Nat} {C : String} {T : u_T} {N : Nat} {ty : Nat → FieldType} {fs : List Value} (hT : tB D cy A s s.heap) (G : gG D lay X A H0 H locs) {k : Nat} (hk : k < 128) (he : X k = some (.inr (ci, fs))) (hcl : agCl C T N ci ty) : ∃ cell : Cell, H[lay k]? = some cell ∧ cell.vm.isStatics = false ∧ s.vm.findClass C = some cell.cls := by
  obtain ⟨q0, hq⟩ := gW_pos (lay := lay) hk he
  exact va_recv hT.1 (gP_list G.1) hcl.1 hq
theorem t_recv {sa w : Nat} (hX : tX sa w A s s.heap) (hS : va_S A s.heap H locs) : ∃ cell : Cell, H[sa]? = some cell ∧ cell.vm.isStatics = false ∧ s.vm.findClass RJ0 = some cell.cls := by
  obtain ⟨cell, h1, h2, h3, -⟩ := hX.1.kept hS.2.1
  exact ⟨cell, h1, h2, h3⟩
/-- a new row of bytes -/
theorem g_newa_b (hC : CallFix p m c cc nL s args Ts own) (hK : va_K D vwCl (fdT cy) s) (G : gG D lay X A H0 H locs) (hA : ∀ q, H0.size ≤ q → A q) {k : Nat} (hX : X k = none) (harr : Cond.arrayClass .byte ∈ Ts) {v : Int32} {N : Nat} (hn : ¬ v < 0) (hN : v.toNatClampNeg = N) (hb : N * componentBytes .byte ≤ 536870912) (hcells : cells + 1 ≤ R.cells) (hslots : slots + N ≤ R.slots) (hdg : decode cc pc = .ok (.newarray .byte, 2))
    (kk : ∀ (q : Nat) (H1 : Heap), gG D (gU lay k q) (gU X k (some (.inl (cy 8, N, .inl (fun _ => 0))))) A H0 H1 locs → W p l e R s m args below meth c H1 locs (cells + 1) (slots + N) Q (F0 m (pc + 2) ls (.ref q :: rest))) : W p l e R s m args below meth c H locs cells slots Q (F0 m pc ls (.int v :: rest)) :=
  va_newa (atype := .byte) (ty := .byte) hC.1 hC.2.1 (hC.2.2.2.2 _ harr) rfl hK (gP_list G.1) (gI_list G.2.1) G.2.2 hA (a0 := (N, .inl (fun _ => 0))) (fun _ => rfl) hn hN hb hcells hslots hdg (fun q cA H1 hK' hP hD hS => by
    have h1 := (hK'.2 (fdT cy).length (cA, .byte) (by rw [List.getElem?_append_right (Nat.le_refl _), Nat.sub_self]; rfl)).2
    have h2 := (hK.2 8 (cy 8, .byte) rfl).2
    have hc : cA = cy 8 := Option.some.inj (Eq.trans (Eq.symm h1) h2)
    subst hc
    exact kk q H1 ⟨gP_new hX hP, gI_new G.2.1 hX hD, hS⟩)
/-- a byte put into a row -/
theorem g_bast (hC : CallFix p m c cc nL s args Ts own) (hK : va_K D vwCl (fdT cy) s) (G : gG D lay X A H0 H locs) {k : Nat} (hk : k < 128) {N a : Nat} (ha : lay k = a) {f : Nat → Int32} (he : X k = some (.inl (cy 8, N, .inl f))) {i : Int32} {v : Int32} (hin : vp_in i N) (hdg : decode cc pc = .ok (.bastore, 1))
    (kk : ∀ (H1 : Heap) (locs1 : List Loc), gG D lay (gU X k (some (.inl (cy 8, N, .inl (upd f i.toNatClampNeg (vp_nar .byte v)))))) A H0 H1 locs1 → W p l e R s m args below meth c H1 locs1 cells slots Q (F0 m (pc + 1) ls rest)) : W p l e R s m args below meth c H locs cells slots Q (F0 m pc ls (.int v :: .int i :: .ref a :: rest)) := by
  subst ha
  obtain ⟨q0, hq⟩ := gW_pos (lay := lay) hk he
  exact va_bast hC.1 hC.2.1 hK (gP_list G.1) (gI_list G.2.1) G.2.2 q0 8 hq rfl hin hdg (fun H1 locs1 hP hD hS => kk H1 locs1 ⟨gP_set G.2.1 hk he hq hP, gI_set G.2.1 he, hS⟩)
/-- a part of a row of bytes copied into another -/
theorem g_bcopy (hC : CallFix p m c cc nL s args Ts own) (hls : ls.size = nL) (hK : va_K D vwCl (fdT cy) s) (G : gG D lay X A H0 H locs) (w1 : Cond.methodLink own index arraycopyName ∈ Ts) (w2 : Cond.native arraycopyName ∈ Ts) (w3 : Cond.static arraycopyName ∈ Ts) (w4 : Cond.initialized "java/lang/System" ∈ Ts) {k0 k1 n0 n1 a0 a1 : Nat} (e0 : lay k0 = a0) (e1 : lay k1 = a1) (hk0 : k0 < 128) (hk1 : k1 < 128) {f g : Nat → Int32} (h0 : X k0 = some (.inl (cy 8, n0, .inl f))) (h1 : X k1 = some (.inl (cy 8, n1, .inl g))) (hf : sb_Fit f) {n : Nat} (hn : n < 2 ^ 31) (ha : n ≤ n0) (hb : n ≤ n1) (hframes : 1 ≤ R.frames) (hlocals : (rest.map fun v => v.category).sum + (nativeFrameWords "java/lang/System" "arraycopy" 5 + 11) ≤ R.locals) (hdg : decode cc pc = .ok (.invokestatic index, 3))
    (kk : ∀ (H1 : Heap) (locs1 : List Loc), gG D lay (gU X k1 (some (.inl (cy 8, n1, .inl (va_cpy f g 0 0 n))))) A H0 H1 locs1 → W p l e R s m args below meth c H1 locs1 cells slots Q (F0 m (pc + 3) ls rest)) : W p l e R s m args below meth c H locs cells slots Q (F0 m pc ls (.int (nI n) :: .int 0 :: .ref a1 :: .int 0 :: .ref a0 :: rest)) := by
  subst e0
  subst e1
  obtain ⟨q0, hq0⟩ := gW_pos (lay := lay) hk0 h0
  obtain ⟨q1, hq1⟩ := gW_pos (lay := lay) hk1 h1
  have e : (nI n).toNatClampNeg = n := nI_clamp hn
  refine va_copyi hC.1 hC.2.1 (hC.2.2.1.trans hls.symm) hC.2.2.2.1 (hC.2.2.2.2 _ w1) (hC.2.2.2.2 _ w2) (hC.2.2.2.2 _ w3) (hC.2.2.2.2 _ w4) hK (gP_list G.1) (gI_list G.2.1) G.2.2 q0 q1 8 8 hq0 hq1 rfl rfl rfl (by decide) (by decide) (nI_pos hn) (by rw [e]; show 0 + _ ≤ _; omega) (by rw [e]; show 0 + _ ≤ _; omega) (fun i _ => hf _) hframes hlocals hdg (fun H1 locs1 hP hD hS => kk H1 locs1 ?_)
  rw [e] at hP hD
  exact ⟨gP_set G.2.1 hk1 h1 hq1 hP, gI_set G.2.1 h1, hS⟩
/-- a text's bytes copied into a row -/
theorem g_tcopy (hC : CallFix p m c cc nL s args Ts own) (hls : ls.size = nL) (hK : va_K D vwCl (fdT cy) s) (G : gG D lay X A s.heap H locs) (w1 : Cond.methodLink own index arraycopyName ∈ Ts) (w2 : Cond.native arraycopyName ∈ Ts) (w3 : Cond.static arraycopyName ∈ Ts) (w4 : Cond.initialized "java/lang/System" ∈ Ts) {k1 n1 a1 ra w : Nat} {f g : Nat → Int32} (hX : va_T .byte ra w (fun j => .int (f j)) A s s.heap) (hf : ∀ j, j < w → fits .byte (.int (f j)) = true) (e1 : lay k1 = a1) (hk1 : k1 < 128) (h1 : X k1 = some (.inl (cy 8, n1, .inl g))) {d : Nat} (hw : w < 2 ^ 31) (hd : d < 2 ^ 31) (hb : d + w ≤ n1) (hframes : 1 ≤ R.frames) (hlocals : (rest.map fun v => v.category).sum + (nativeFrameWords "java/lang/System" "arraycopy" 5 + 11) ≤ R.locals) (hdg : decode cc pc = .ok (.invokestatic index, 3))
    (kk : ∀ (H1 : Heap) (locs1 : List Loc), gG D lay (gU X k1 (some (.inl (cy 8, n1, .inl (va_cpy f g 0 d w))))) A s.heap H1 locs1 → W p l e R s m args below meth c H1 locs1 cells slots Q (F0 m (pc + 3) ls rest)) : W p l e R s m args below meth c H locs cells slots Q (F0 m pc ls (.int (nI w) :: .int (nI d) :: .ref a1 :: .int 0 :: .ref ra :: rest)) := by
  subst e1
  obtain ⟨q1, hq1⟩ := gW_pos (lay := lay) hk1 h1
  have e : (nI w).toNatClampNeg = w := nI_clamp hw
  have e2 : (nI d).toNatClampNeg = d := nI_clamp hd
  refine vk_copyt hC.1 hC.2.1 (hC.2.2.1.trans hls.symm) hC.2.2.2.1 (hC.2.2.2.2 _ w1) (hC.2.2.2.2 _ w2) (hC.2.2.2.2 _ w3) (hC.2.2.2.2 _ w4) hK (gP_list G.1) (gI_list G.2.1) G.2.2 hX q1 8 hq1 rfl (by decide) (nI_pos hd) (nI_pos hw) (by rw [e]; show 0 + _ ≤ _; omega) (by rw [e, e2]; exact hb) (fun i hi => by rw [e] at hi; show fits .byte (.int (f (0 + i))) = true; rw [Nat.zero_add]; exact hf i hi) hframes hlocals hdg (fun H1 locs1 hP hD hS => kk H1 locs1 ?_)
  rw [e, e2] at hP hD
  exact ⟨gP_set G.2.1 hk1 h1 hq1 hP, gI_set G.2.1 h1, hS⟩
end SROWS
theorem k_SB : agCl RJ4 TJ4 4 1 tyJ4 := ⟨rfl, tyJ4_ok, nmJ4⟩
theorem k_S0 : agCl RJ0 TJ0 4 0 tyJ0 := ⟨rfl, tyJ0_ok, nmJ0⟩
abbrev rmS (n c s : Nat) : Room := { frames := n, cells := c, slots := s, locals := 40 * n }
/-- a StringBuilder, a row of bytes -/
abbrev sbE (o : Nat) (n ml : Int32) : va_E := .inr (1, [.ref o, .int 0, .int ml, .int n])
abbrev bsE (cy : Nat → ClassId) (m : Nat) (a : Nat → Int32) : va_E := .inl (cy 8, m, .inl a)
/-- the world with another row in kb, and the StringBuilder in k over it -/
def sbX (cy : Nat → ClassId) (X : Nat → Option va_E) (k kb o m : Nat) (a : Nat → Int32) (n ml : Int32) : Nat → Option va_E := gU (gU X kb (some (bsE cy m a))) k (some (sbE o n ml))
theorem sbX_k {cy : Nat → ClassId} {X : Nat → Option va_E} {k kb o m : Nat} {a : Nat → Int32} {n ml : Int32} : sbX cy X k kb o m a n ml k = some (sbE o n ml) := gU_eq
theorem sbX_b {cy : Nat → ClassId} {X : Nat → Option va_E} {k kb o m : Nat} {a : Nat → Int32} {n ml : Int32} (h : kb ≠ k) : sbX cy X k kb o m a n ml kb = some (bsE cy m a) := (gU_ne h).trans gU_eq
theorem sbX_o {cy : Nat → ClassId} {X : Nat → Option va_E} {k kb o m i : Nat} {a : Nat → Int32} {n ml : Int32} (h : i ≠ k) (h2 : i ≠ kb) : sbX cy X k kb o m a n ml i = X i := (gU_ne h).trans (gU_ne h2)
theorem sbX_id {cy : Nat → ClassId} {X : Nat → Option va_E} {k kb o m : Nat} {a : Nat → Int32} {n ml : Int32} (h1 : X k = some (sbE o n ml)) (h2 : X kb = some (bsE cy m a)) : sbX cy X k kb o m a n ml = X := by
  unfold sbX
  rw [gU_self h2, gU_self h1]
theorem sbX_sbX {cy : Nat → ClassId} {X : Nat → Option va_E} {k kb o m o' m' : Nat} {a a' : Nat → Int32} {n ml n' ml' : Int32} : sbX cy (sbX cy X k kb o m a n ml) k kb o' m' a' n' ml' = sbX cy X k kb o' m' a' n' ml' := by
  funext i
  by_cases h1 : i = k
  · subst h1; rw [sbX_k, sbX_k]
  · by_cases h2 : i = kb
    · subst h2; rw [sbX_b h1, sbX_b h1]
    · rw [sbX_o h1 h2, sbX_o h1 h2, sbX_o h1 h2]
/-- a row put, or a StringBuilder -/
theorem sbX_pb {cy : Nat → ClassId} {X : Nat → Option va_E} {k kb o m m' : Nat} {a a' : Nat → Int32} {n ml : Int32} (h : kb ≠ k) : gU (sbX cy X k kb o m a n ml) kb (some (bsE cy m' a')) = sbX cy X k kb o m' a' n ml := by
  funext i
  by_cases h1 : i = kb
  · subst h1; rw [gU_eq, sbX_b h]
  · rw [gU_ne h1]
    by_cases h2 : i = k
    · subst h2; rw [sbX_k, sbX_k]
    · rw [sbX_o h2 h1, sbX_o h2 h1]
theorem sbX_pk {cy : Nat → ClassId} {X : Nat → Option va_E} {k kb o m o' : Nat} {a : Nat → Int32} {n ml n' ml' : Int32} : gU (sbX cy X k kb o m a n ml) k (some (sbE o' n' ml')) = sbX cy X k kb o' m a n' ml' := by
  funext i
  by_cases h1 : i = k
  · subst h1; rw [gU_eq, sbX_k]
  · rw [gU_ne h1]
    by_cases h2 : i = kb
    · subst h2; rw [sbX_b h1, sbX_b h1]
    · rw [sbX_o h1 h2, sbX_o h1 h2]
def capOk (m : Nat) : Prop := m = 16 ∨ m = 34 ∨ m = 70
/-- what a call that writes leaves -/
def sbN (cy : Nat → ClassId) (lay : Nat → Nat) (X : Nat → Option va_E) (k kb n : Nat) (Y : GY) : Prop := ∃ o m a ml, sb_Fit a ∧ capOk m ∧ n ≤ m ∧ Y = (gU lay kb o, sbX cy X k kb o m a (nI n) ml)
/-- how many digits -/
def dg (v : Nat) : Nat := if v < 10 then 1 else if v < 100 then 2 else 3
theorem ng_toInt {a : Nat} (ha : a < 2 ^ 30) : (-(nI a)).toInt = -(a : Int) := by
  rw [show -(nI a) = nI 0 - nI a from by rw [nI_0]; grind, pk_sub_toInt (by decide) ha]
  omega
theorem ng_le {a b : Nat} (ha : a < 2 ^ 30) (hb : b < 2 ^ 30) : -(nI a) ≤ -(nI b) ↔ b ≤ a := by
  rw [Int32.le_iff_toInt_le, ng_toInt ha, ng_toInt hb]
  omega
theorem ng_lt {a b : Nat} (ha : a < 2 ^ 30) (hb : b < 2 ^ 30) : -(nI a) < -(nI b) ↔ b < a := by
  rw [Int32.lt_iff_toInt_lt, ng_toInt ha, ng_toInt hb]
  omega
theorem ng_d : ∀ v, v < 1000 → -(nI v) / 100 = -(nI (v / 100)) := by decide +kernel
theorem ng_r : ∀ v, v < 1000 → -(nI (v / 100)) * 100 - -(nI v) = nI (v % 100) := by decide +kernel
theorem ng_ng (v : Nat) : -(-(nI v)) = nI v := by grind
theorem iinc_m1 {p : Nat} (h : 0 < p) : nI p + Int32.ofInt (-1) = nI (p - 1) := by
  rw [show Int32.ofInt (-1) = -1 by decide]
  exact sb_m1 h
theorem t_fitC {f g : Nat → Int32} {d w : Nat} (hg : sb_Fit g) (hf : ∀ j, j < w → fits .byte (.int (f j)) = true) : sb_Fit (va_cpy f g 0 d w) := by
  intro i
  unfold va_cpy
  split
  · exact hf _ (by omega)
  · exact hg i
theorem t_cellF {c : ClassId} {n : Nat} {a : Nat → Int32} (hf : sb_Fit a) {i : Nat} {v : Value} (h : (vp_cell c (n, .inl a)).slots[i]? = some v) : fits .byte v = true := by
  have h : (arrV c n (fun j => .int (a j))).slots[i]? = some v := h
  have hi : i < n := by
    have := (Array.getElem?_eq_some_iff.mp h).1
    rw [arrV_size] at this
    exact this
  rw [arrV_read _ _ hi] at h
  cases h
  exact hf i
theorem df_S0 : ∀ j, j < 4 → defaultValue (tyJ0 j) = vp_V [.null, .int 0, .int 0, .int 0] j := by decide
theorem df_SB : ∀ j, j < 4 → defaultValue (tyJ4 j) = vp_V [.null, .int 0, .int 0, .int 0] j := by decide
theorem gU3e {X : Nat → Option va_E} {ke kl : Nat} {b c d e : Option va_E} : gU (gU (gU X kl b) ke c) kl d = gU (gU (gU X kl e) ke c) kl d := gU3.trans gU3.symm
theorem hdU_J5_isLatin1_aae02 : ("java/lang/AbstractStringBuilder" : String) ≠ "java/lang/invoke/MethodHandle" ∧ ("java/lang/AbstractStringBuilder" : String) ≠ "java/lang/invoke/VarHandle" ∧ (parseMethodDescriptor yJ5_isLatin1_aae02.desc).map (fun d => d.parameters.length) = some 0 := by decide +kernel
theorem hdV_J0_coder_7d493 : yJ0_coder_7d493.cls = RJ0 ∧ yJ0_coder_7d493.cls ≠ "java/lang/invoke/MethodHandle" ∧ yJ0_coder_7d493.cls ≠ "java/lang/invoke/VarHandle" ∧ (parseMethodDescriptor yJ0_coder_7d493.desc).map (fun d => d.parameters.length) = some 0 := by decide +kernel
theorem hdV_J0_length_8abf5 : yJ0_length_8abf5.cls = RJ0 ∧ yJ0_length_8abf5.cls ≠ "java/lang/invoke/MethodHandle" ∧ yJ0_length_8abf5.cls ≠ "java/lang/invoke/VarHandle" ∧ (parseMethodDescriptor yJ0_length_8abf5.desc).map (fun d => d.parameters.length) = some 0 := by decide +kernel
theorem hdS_J8_newLength_cabcc : yJ8_newLength_cabcc.cls ≠ "java/lang/invoke/MethodHandle" ∧ yJ8_newLength_cabcc.cls ≠ "java/lang/invoke/VarHandle" ∧ (parseMethodDescriptor yJ8_newLength_cabcc.desc).map (fun d => d.parameters.length) = some 3 := by decide +kernel
theorem hdU_J5_newCapacity_0f7a4 : ("java/lang/AbstractStringBuilder" : String) ≠ "java/lang/invoke/MethodHandle" ∧ ("java/lang/AbstractStringBuilder" : String) ≠ "java/lang/invoke/VarHandle" ∧ (parseMethodDescriptor yJ5_newCapacity_0f7a4.desc).map (fun d => d.parameters.length) = some 1 := by decide +kernel
theorem hdS_J7_copyOf_9075b : yJ7_copyOf_9075b.cls ≠ "java/lang/invoke/MethodHandle" ∧ yJ7_copyOf_9075b.cls ≠ "java/lang/invoke/VarHandle" ∧ (parseMethodDescriptor yJ7_copyOf_9075b.desc).map (fun d => d.parameters.length) = some 2 := by decide +kernel
theorem hdU_J5_ensureCapacityInternal_d00df : ("java/lang/AbstractStringBuilder" : String) ≠ "java/lang/invoke/MethodHandle" ∧ ("java/lang/AbstractStringBuilder" : String) ≠ "java/lang/invoke/VarHandle" ∧ (parseMethodDescriptor yJ5_ensureCapacityInternal_d00df.desc).map (fun d => d.parameters.length) = some 1 := by decide +kernel
theorem hdS_J6_stringSize_0f7a4 : yJ6_stringSize_0f7a4.cls ≠ "java/lang/invoke/MethodHandle" ∧ yJ6_stringSize_0f7a4.cls ≠ "java/lang/invoke/VarHandle" ∧ (parseMethodDescriptor yJ6_stringSize_0f7a4.desc).map (fun d => d.parameters.length) = some 1 := by decide +kernel
theorem hdS_J6_getChars_ba4f3 : yJ6_getChars_ba4f3.cls ≠ "java/lang/invoke/MethodHandle" ∧ yJ6_getChars_ba4f3.cls ≠ "java/lang/invoke/VarHandle" ∧ (parseMethodDescriptor yJ6_getChars_ba4f3.desc).map (fun d => d.parameters.length) = some 3 := by decide +kernel
theorem hdX_J5_append_c97b9 : yJ5_append_c97b9.name ≠ "<init>" ∧ (parseMethodDescriptor yJ5_append_c97b9.desc).map (fun d => d.parameters.length) = some 1 := by decide +kernel
theorem hdV_J4_append_bf812 : yJ4_append_bf812.cls = RJ4 ∧ yJ4_append_bf812.cls ≠ "java/lang/invoke/MethodHandle" ∧ yJ4_append_bf812.cls ≠ "java/lang/invoke/VarHandle" ∧ (parseMethodDescriptor yJ4_append_bf812.desc).map (fun d => d.parameters.length) = some 1 := by decide +kernel
theorem hdS_J1_canEncode_fc78d : yJ1_canEncode_fc78d.cls ≠ "java/lang/invoke/MethodHandle" ∧ yJ1_canEncode_fc78d.cls ≠ "java/lang/invoke/VarHandle" ∧ (parseMethodDescriptor yJ1_canEncode_fc78d.desc).map (fun d => d.parameters.length) = some 1 := by decide +kernel
theorem hdX_J5_append_3fe6f : yJ5_append_3fe6f.name ≠ "<init>" ∧ (parseMethodDescriptor yJ5_append_3fe6f.desc).map (fun d => d.parameters.length) = some 1 := by decide +kernel
theorem hdV_J4_append_cf468 : yJ4_append_cf468.cls = RJ4 ∧ yJ4_append_cf468.cls ≠ "java/lang/invoke/MethodHandle" ∧ yJ4_append_cf468.cls ≠ "java/lang/invoke/VarHandle" ∧ (parseMethodDescriptor yJ4_append_cf468.desc).map (fun d => d.parameters.length) = some 1 := by decide +kernel
theorem hdU_J5_inflateIfNeededFor_a7421 : ("java/lang/AbstractStringBuilder" : String) ≠ "java/lang/invoke/MethodHandle" ∧ ("java/lang/AbstractStringBuilder" : String) ≠ "java/lang/invoke/VarHandle" ∧ (parseMethodDescriptor yJ5_inflateIfNeededFor_a7421.desc).map (fun d => d.parameters.length) = some 1 := by decide +kernel
theorem hdV_J0_getBytes_840e7 : yJ0_getBytes_840e7.cls = RJ0 ∧ yJ0_getBytes_840e7.cls ≠ "java/lang/invoke/MethodHandle" ∧ yJ0_getBytes_840e7.cls ≠ "java/lang/invoke/VarHandle" ∧ (parseMethodDescriptor yJ0_getBytes_840e7.desc).map (fun d => d.parameters.length) = some 3 := by decide +kernel
theorem hdU_J5_putStringAt_47b60 : ("java/lang/AbstractStringBuilder" : String) ≠ "java/lang/invoke/MethodHandle" ∧ ("java/lang/AbstractStringBuilder" : String) ≠ "java/lang/invoke/VarHandle" ∧ (parseMethodDescriptor yJ5_putStringAt_47b60.desc).map (fun d => d.parameters.length) = some 2 := by decide +kernel
theorem hdX_J5_append_cf1ce : yJ5_append_cf1ce.name ≠ "<init>" ∧ (parseMethodDescriptor yJ5_append_cf1ce.desc).map (fun d => d.parameters.length) = some 1 := by decide +kernel
theorem hdV_J4_append_15ec4 : yJ4_append_15ec4.cls = RJ4 ∧ yJ4_append_15ec4.cls ≠ "java/lang/invoke/MethodHandle" ∧ yJ4_append_15ec4.cls ≠ "java/lang/invoke/VarHandle" ∧ (parseMethodDescriptor yJ4_append_15ec4.desc).map (fun d => d.parameters.length) = some 1 := by decide +kernel
theorem hdU_J5_getValue_6d5f1 : ("java/lang/AbstractStringBuilder" : String) ≠ "java/lang/invoke/MethodHandle" ∧ ("java/lang/AbstractStringBuilder" : String) ≠ "java/lang/invoke/VarHandle" ∧ (parseMethodDescriptor yJ5_getValue_6d5f1.desc).map (fun d => d.parameters.length) = some 0 := by decide +kernel
theorem hdX_J5_length_8abf5 : yJ5_length_8abf5.name ≠ "<init>" ∧ (parseMethodDescriptor yJ5_length_8abf5.desc).map (fun d => d.parameters.length) = some 0 := by decide +kernel
theorem hdV_J4_length_8abf5 : yJ4_length_8abf5.cls = RJ4 ∧ yJ4_length_8abf5.cls ≠ "java/lang/invoke/MethodHandle" ∧ yJ4_length_8abf5.cls ≠ "java/lang/invoke/VarHandle" ∧ (parseMethodDescriptor yJ4_length_8abf5.desc).map (fun d => d.parameters.length) = some 0 := by decide +kernel
theorem hdU_J4_length_8abf5 : ("java/lang/AbstractStringBuilder" : String) ≠ "java/lang/invoke/MethodHandle" ∧ ("java/lang/AbstractStringBuilder" : String) ≠ "java/lang/invoke/VarHandle" ∧ (parseMethodDescriptor yJ4_length_8abf5.desc).map (fun d => d.parameters.length) = some 0 := by decide +kernel
theorem hdS_J7_checkLength_df160 : yJ7_checkLength_df160.cls ≠ "java/lang/invoke/MethodHandle" ∧ yJ7_checkLength_df160.cls ≠ "java/lang/invoke/VarHandle" ∧ (parseMethodDescriptor yJ7_checkLength_df160.desc).map (fun d => d.parameters.length) = some 2 := by decide +kernel
theorem hdS_J7_copyOfRangeByte_39247 : yJ7_copyOfRangeByte_39247.cls ≠ "java/lang/invoke/MethodHandle" ∧ yJ7_copyOfRangeByte_39247.cls ≠ "java/lang/invoke/VarHandle" ∧ (parseMethodDescriptor yJ7_copyOfRangeByte_39247.desc).map (fun d => d.parameters.length) = some 3 := by decide +kernel
theorem hdS_J7_copyOfRange_39247 : yJ7_copyOfRange_39247.cls ≠ "java/lang/invoke/MethodHandle" ∧ yJ7_copyOfRange_39247.cls ≠ "java/lang/invoke/VarHandle" ∧ (parseMethodDescriptor yJ7_copyOfRange_39247.desc).map (fun d => d.parameters.length) = some 3 := by decide +kernel
theorem hdI_J0_init_db425 : yJ0_init_db425.cls ≠ "java/lang/invoke/MethodHandle" ∧ yJ0_init_db425.cls ≠ "java/lang/invoke/VarHandle" ∧ (parseMethodDescriptor yJ0_init_db425.desc).map (fun d => d.parameters.length) = some 2 := by decide +kernel
theorem hdI_J0_init_81219 : yJ0_init_81219.cls ≠ "java/lang/invoke/MethodHandle" ∧ yJ0_init_81219.cls ≠ "java/lang/invoke/VarHandle" ∧ (parseMethodDescriptor yJ0_init_81219.desc).map (fun d => d.parameters.length) = some 1 := by decide +kernel
theorem hdV_J4_toString_0e30d : yJ4_toString_0e30d.cls = RJ4 ∧ yJ4_toString_0e30d.cls ≠ "java/lang/invoke/MethodHandle" ∧ yJ4_toString_0e30d.cls ≠ "java/lang/invoke/VarHandle" ∧ (parseMethodDescriptor yJ4_toString_0e30d.desc).map (fun d => d.parameters.length) = some 0 := by decide +kernel
theorem hdI_J5_init_d00df : yJ5_init_d00df.cls ≠ "java/lang/invoke/MethodHandle" ∧ yJ5_init_d00df.cls ≠ "java/lang/invoke/VarHandle" ∧ (parseMethodDescriptor yJ5_init_d00df.desc).map (fun d => d.parameters.length) = some 1 := by decide +kernel
theorem hdI_J4_init_da8c8 : yJ4_init_da8c8.cls ≠ "java/lang/invoke/MethodHandle" ∧ yJ4_init_da8c8.cls ≠ "java/lang/invoke/VarHandle" ∧ (parseMethodDescriptor yJ4_init_da8c8.desc).map (fun d => d.parameters.length) = some 0 := by decide +kernel
theorem hdS_X7_nameOfState : yX7_nameOfState.cls ≠ "java/lang/invoke/MethodHandle" ∧ yX7_nameOfState.cls ≠ "java/lang/invoke/VarHandle" ∧ (parseMethodDescriptor yX7_nameOfState.desc).map (fun d => d.parameters.length) = some 1 := by decide +kernel
theorem hdV_X7_appendPlayers : yX7_appendPlayers.cls = RX7 ∧ yX7_appendPlayers.cls ≠ "java/lang/invoke/MethodHandle" ∧ yX7_appendPlayers.cls ≠ "java/lang/invoke/VarHandle" ∧ (parseMethodDescriptor yX7_appendPlayers.desc).map (fun d => d.parameters.length) = some 2 := by decide +kernel
