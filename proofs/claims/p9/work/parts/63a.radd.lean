/-! THE REFERENCE: adding to a list -/
/-- what the tables say of the empty row, of rows of objects and of their class object -/
def hZs (D : va_G) (cy : Nat → ClassId) (ea mi : Nat) (A : Nat → Prop) (U : State) : Prop :=
  va_Z "java/util/ArrayList" "DEFAULTCAPACITY_EMPTY_ELEMENTDATA" "[Ljava/lang/Object;" (.ref ea) A U U.heap ∧ va_T (.object "java/lang/Object") ea 0 (fun _ => .null) A U U.heap ∧ ¬ A ea ∧ va_AO "java/lang/Object" U ∧ va_Mi "[Ljava/lang/Object;" mi U ∧ va_Dc U
def hK (D : va_G) (cy : Nat → ClassId) (lay : Nat → Nat) (X : Nat → Option va_E) (ea mi : Nat) (sz : Nat) (U : State) : Prop := hI D cy lay X sz U ∧ hZs D cy ea mi (gA lay X sz) U
theorem hK_blind {D : va_G} {cy : Nat → ClassId} {lay : Nat → Nat} {X : Nat → Option va_E} {ea mi : Nat} {sz : Nat} {As : List Value} : FrameBlind (va_Pc As (hK D cy lay X ea mi sz)) := by
  intro a U g mk h
  obtain ⟨h0, h1, k1, k2, k3, k4, k5, k6⟩ := h
  have := hI_blind (D := D) (cy := cy) (lay := lay) (X := X) (sz := sz) (As := As) a U g mk ⟨h0, h1⟩
  exact ⟨this.1, this.2, va_Z.moved (u := U) (U := U.calling g mk a) (Vm.Alike.refl U.vm) k1, va_T.moved (u := U) (U := U.calling g mk a) (Vm.Alike.refl U.vm) k2, k3, va_AO.moved (u := U) (U := U.calling g mk a) (Vm.Alike.refl U.vm) k4, va_Mi.moved (u := U) (U := U.calling g mk a) (Vm.Alike.refl U.vm) k5, va_Dc.moved (u := U) (U := U.calling g mk a) (Vm.Alike.refl U.vm) k6⟩
section KROWS
variable {p : Program} {l : Launch} {e : Env} {R : Room} {s : State} {m : MethodId} {args : Array Value} {below : List Frame} {meth : Method} {c : Code} {H : Heap} {locs : List Loc} {cells slots : Nat} {Q : State → Prop}
variable {cc bytes : ByteArray} {pc nL maxL mc ms n index ea mi : Nat} {ls : Array Slot} {ST rest As : List Value} {D : va_G} {cy : Nat → ClassId} {lay lay0 : Nat → Nat} {X X0 : Nat → Option va_E} {A : Nat → Prop} {H0 : Heap} {Ts ws : List Cond} {own Cn host : String} {y : MethodName} {ret : Option FieldType} {rm : Room} {b : Addr} {tys : List (ClassId × FieldType)}
variable {Qc : Array Value → State → Outcome → State → Prop} {free : Addr → Prop}
theorem k_ofW {ws' : List Cond} {maxL : Nat} {sz : Nat} {Qc : Nat → Array Value → State → Outcome → State → Prop} (hy : plainName y.cls = true) (hw : ws = Cond.code y cc maxL ret :: ws') (hnl : (lg_sl As).length ≤ maxL) (hoo : y.cls = own)
    (body : ∀ (p : Program) (e : Env) (s : State) (m : MethodId) (args : Array Value) (below : List Frame) (meth : Method) (c : Code) (ls : Array Slot), CallFix p m c cc maxL s args ws own → meth.sig.returnType = ret → meth.locks = false → meth.name = y.name → va_K D vwCl (fdT cy) s ∧ rN s → hZs D cy ea mi (gA lay X s.heap.size) s → gG D lay X (gA lay X s.heap.size) s.heap s.heap [] → lv_has ls maxL (lv_args 0 As) →
      W p l e rm s m args below meth c s.heap [] 0 0 (MQ below (Qc s.heap.size) args s mc ms (gA lay X s.heap.size)) (F0 m 0 ls [])) : Met l y ws rm (va_Pc As (hK D cy lay X ea mi sz)) (Qc sz) mc ms (gA lay X sz) := by
  refine Met.ofW (cc := cc) (maxL := maxL) (ret := ret) hy hw ?_
  intro p e s m args below meth c s₁ B hml hv
  obtain ⟨rfl, ⟨hsz, hT, hP, hI⟩, hZ⟩ := hv
  subst hsz
  have hl := lv_entry As (n := maxL) hnl
  rw [lg_entry_eq]
  have hown : s.vm.findClass y.cls = some m.cls := findClass_of_methodNamed B.named
  rw [hoo] at hown
  exact body p e s m As.toArray below meth c _ ⟨B.exec, B.bytes, hml, hown, atoms_spec (ws := ws) B.pre⟩ B.returns B.notSynchronized (name_of_methodNamed B.named B.method).1 hT hZ ⟨hP, gI_self hI, va_S.rf⟩ hl
theorem hZs_next {s U : State} {H : Heap} {locs : List Loc} {A B : Nat → Prop} (hZ : hZs D cy ea mi A s) (hS : va_S A s.heap H locs) (hB : ∀ q, B q → A q) (hU : U.heap = H) (hW : s.WarmedH U.vm) : hZs D cy ea mi B U := by
  obtain ⟨k1, k2, k3, k4, k5, k6⟩ := hZ
  refine ⟨?_, ?_, fun z => k3 (hB _ z), k4.moved hW.alike, k5.moved hW.alike, k6.moved hW.alike⟩
  · rw [hU]
    exact ((k1.moved hW.alike).kept hS.2.1).narrow hB
  · rw [hU]
    exact ((va_T.moved hW.alike k2).kept hS.2.1).narrow hB
theorem hK_next {s U : State} {H : Heap} {locs : List Loc} (hT : va_K D vwCl (fdT cy) s ∧ rN s) (hZ : hZs D cy ea mi A s) (G : gG D lay X A s.heap H locs) (hA : ∀ q, s.heap.size ≤ q → A q) (hU : U.heap = H) (hW : s.WarmedH U.vm) : hK D cy lay X ea mi H.size U :=
  ⟨hI_next hT G hU hW, hZs_next hZ G.2.2 (gA_in G hA) hU hW⟩
theorem k_runV (hC : CallFix p m c cc nL s args Ts own) (hT : va_K D vwCl (fdT cy) s ∧ rN s) (hZ : hZs D cy ea mi A s) (hA : ∀ q, s.heap.size ≤ q → A q) (G : gG D lay X A s.heap H locs) (hM : Met l y ws rm (va_Pc (.ref b :: As) (hK D cy lay X ea mi H.size)) Qc mc ms free) (cw : CallW R s args own Cn index y bytes maxL ret ws rm mc ms n) (hrv : ∃ cell : Cell, H[b]? = some cell ∧ cell.vm.isStatics = false ∧ s.vm.findClass Cn = some cell.cls)
    (hn : As.length = n) (hls : ls.size = nL) (hst : ST = As.reverse ++ .ref b :: rest) (hW : (rest.map fun v => v.category).sum ≤ 8) (hdg : decode cc pc = .ok (.invokevirtual index, 3)) (hf : cells + mc ≤ R.cells ∧ slots + ms ≤ R.slots) :
    va_Run p l e R s m args below meth c H locs cells slots mc ms (F0 m pc ls ST) rest (Qc (.ref b :: As).toArray) free :=
  va_runV hC hM cw ⟨hK_blind, hrv, fun U hU hW => ⟨rfl, hK_next hT hZ G hA hU hW⟩⟩ rfl hn hls hst (lv_room hW) hdg hf
theorem k_r {post : GY → Prop} {a : Array Value} (G : gG D lay X A H0 H locs) (hA : ∀ q, H0.size ≤ q → A q) {f : GY → Nat} (hr : va_Run p l e R s m args below meth c H locs cells slots mc ms (F0 m pc ls ST) rest (va_Qr (S := GY) post (fun Y a t => a = f Y ∧ gO D (gA lay X H.size) Y t) (gA lay X H.size) a) (gA lay X H.size))
    (kk : ∀ (Y : GY) (H1 : Heap) (locs1 : List Loc), post Y → gG D Y.1 Y.2 A H0 H1 locs1 → W p l e R s m args below meth c H1 locs1 (cells + mc) (slots + ms) Q (F0 m (pc + 3) ls (.ref (f Y) :: rest))) : W p l e R s m args below meth c H locs cells slots Q (F0 m pc ls ST) :=
  va_callr hr G.2.2 (fun q _ h => gA_in G hA q h) (gA_in G hA) (fun u ra t H1 locs1 ht hvm hw hB hz hk hS => by
    obtain ⟨e1, hO⟩ := hB
    subst e1
    exact kk u H1 locs1 hw ⟨by rw [← ht]; exact hO.1, gI_weak hO.2 (gA_in G hA), hS⟩)
theorem g_putS {C ref : String} {T : u_T} {N ci : Nat} {ty : Nat → FieldType} (hC : CallFix p m c cc nL s args Ts own) (hK : va_K D vwCl tys s) (G : gG D lay X A H0 H locs) {k : Nat} (hk : k < 128) {fs : List Value} (he : X k = some (.inr (ci, fs))) (hcl : agCl C T N ci ty) (hin : ∀ w ∈ u_ws C T N, w ∈ Ts) (j : Nat) (hj : j < N) (hl : Cond.fieldLink own index ref (T j).2.1 (T j).2.2.1 ∈ Ts) (hs : Cond.sameField ref (T j).1 (T j).2.1 (T j).2.2.1 ∈ Ts) (hfin : (T j).2.2.2 = false) {v : Value} (hn : narrow (ty j) v = v) (hfit : fits (ty j) v = true) (hjl : j < fs.length) (hdg : decode cc pc = .ok (.putfield index, 3))
    (kk : ∀ (H1 : Heap) (locs1 : List Loc), gG D lay (gU X k (some (.inr (ci, fs.set j v)))) A H0 H1 locs1 → W p l e R s m args below meth c H1 locs1 cells slots Q (F0 m (pc + 3) ls rest)) : W p l e R s m args below meth c H locs cells slots Q (F0 m pc ls (v :: .ref (lay k) :: rest)) := by
  obtain ⟨q0, hq⟩ := gW_pos (lay := lay) hk he
  exact va_put hC.1 hC.2.1 hC.2.2.2.2 hin ty hcl.2.1 hcl.2.2 hC.2.2.2.1 hK (gP_list G.1) (gI_list G.2.1) G.2.2 q0 hq hcl.1 j hj (hC.2.2.2.2 _ hl) (fun x h => u_same (hC.2.2.2.2 _ hs) x h) hfin (hcl.2.1 j hj) hn hfit hjl hdg (fun H1 locs1 hP hD hS => kk H1 locs1 ⟨gP_set G.2.1 hk he hq hP, gI_set G.2.1 he, hS⟩)
/-- an object put into a row of objects -/
theorem g_asto {k kv : Nat} (hC : CallFix p m c cc nL s args Ts own) (hT : va_K D vwCl (fdT cy) s) (G : gG D lay X A H0 H locs) (hk : k < 128) (hkv : kv < 128) (ci : Nat) {r : vw_C} {n : Nat} {vs : List Value} {f : Nat → Option Nat} (he : X k = some (.inl (cy 7, n, rfS f))) (hca : va_Nw (.castable r.1 "java/lang/Object") s) (hev : X kv = some (.inr (ci, vs))) (hc : vwCl[ci]? = some r) {i : Int32} (hin : vp_in i n) (hdg : decode cc pc = .ok (.aastore, 1))
    (kk : ∀ (H1 : Heap) (locs1 : List Loc), gG D lay (gU X k (some (.inl (cy 7, n, rfS (va_up f i.toNatClampNeg (some (lay kv))))))) A H0 H1 locs1 → W p l e R s m args below meth c H1 locs1 cells slots Q (F0 m (pc + 1) ls rest)) : W p l e R s m args below meth c H locs cells slots Q (F0 m pc ls (.ref (lay kv) :: .int i :: .ref (lay k) :: rest)) := by
  obtain ⟨q0, hq⟩ := gW_pos (lay := lay) hk he
  obtain ⟨qv, hqv⟩ := gW_pos (lay := lay) hkv hev
  exact va_astqO hC.1 hC.2.1 hT (gP_list G.1) (gI_list G.2.1) G.2.2 q0 7 qv ci hq rfl hca hqv hc hin hdg (fun H1 locs1 hP hD hS => kk H1 locs1 ⟨gP_set G.2.1 hk he hq hP, gI_set G.2.1 he, hS⟩)
end KROWS
abbrev lsE (cy : Nat → ClassId) (a mo n : Int32) (o : Nat) : va_E := .inr (4, [.int mo, .ref o, .int n])
abbrev rm_gr0 : Room := { frames := 1, cells := 1, slots := 10, locals := 40 }
abbrev rm_gr1 : Room := { frames := 2, cells := 1, slots := 10, locals := 80 }
abbrev rm_ad3 : Room := { frames := 3, cells := 1, slots := 10, locals := 120 }
abbrev rm_add : Room := { frames := 4, cells := 1, slots := 10, locals := 160 }
theorem i_gr0_L : ∀ w ∈ wsJx4a65c0, w ∈ wsJx4a65c_grow_92f84 := fun _ h => List.mem_cons_of_mem _ (List.mem_append_right _ h)
theorem i_gr1_L : ∀ w ∈ wsJx4a65c0, w ∈ wsJx4a65c_grow_d5877 := fun _ h => List.mem_cons_of_mem _ (List.mem_append_right _ h)
theorem i_ad3_L : ∀ w ∈ wsJx4a65c0, w ∈ wsJx4a65c_add_72be8 := fun _ h => List.mem_cons_of_mem _ (List.mem_append_right _ h)
theorem i_add_L : ∀ w ∈ wsJx4a65c0, w ∈ wsJx4a65c_add_9ea2d := fun _ h => List.mem_cons_of_mem _ (List.mem_append_right _ h)
/-- the first room: ten places -/
abbrev arr0 (cy : Nat → ClassId) : va_E := .inl (cy 7, 10, rfS fun _ => none)
set_option maxHeartbeats 4000000 in
set_option maxRecDepth 100000 in
theorem c_gr0 (l : Launch) (D : va_G) (cy : Nat → ClassId) (lay : Nat → Nat) (X : Nat → Option va_E) (ea mi : Nat) {kl ke : Nat} (hkl : kl < 128) (hke : ke < 128) (hne : kl ≠ ke) {mo n : Int32} (h1 : X kl = some (.inr (4, [.int mo, .ref ea, .int n]))) (h2 : X ke = none) (sz : Nat) : Met l yJx4a65c_grow_92f84 wsJx4a65c_grow_92f84 rm_gr0 (va_Pc [.ref (lay kl), .int 1] (hK D cy lay X ea mi sz)) (va_Qr (S := GY) (fun Y => ∃ q, Y = (gU lay ke q, gU (gU X ke (some (arr0 cy))) kl (some (.inr (4, [.int mo, .ref q, .int n]))))) (fun Y a t => a = Y.1 ke ∧ gO D (gA lay X sz) Y t) (gA lay X sz)) 1 10 (gA lay X sz) := by
  refine k_ofW (cc := cJx4a65c_grow_92f84) (maxL := 4) (ret := some (.array (.object "java/lang/Object"))) (own := RJx4a65c) (Qc := fun sz => va_Qr (S := GY) (fun Y => ∃ q, Y = (gU lay ke q, gU (gU X ke (some (arr0 cy))) kl (some (.inr (4, [.int mo, .ref q, .int n]))))) (fun Y a t => a = Y.1 ke ∧ gO D (gA lay X sz) Y t) (gA lay X sz)) (by decide) rfl (Nat.le_of_ble_eq_true rfl) rfl ?_
  intro p e0 s m args below meth c ls hC hr hlocks hname hT hZ G hl
  have hl : lv_has ls 4 [(0, .ref (lay kl)), (1, .int 1)] := hl
  have hA : ∀ q, s.heap.size ≤ q → gA lay X s.heap.size q := fun _ h => Or.inr h
  refine lv_aload_n hC.1 hC.2.1 dJx4a65c_grow_92f84_0 rfl (lv_at hl 0 rfl) ?_
  refine g_get hC hT.1 G hkl h1 k_AL i_gr0_L 1 (by decide) (wm 1 rfl) rfl dJx4a65c_grow_92f84_1 ?_
  refine va_tlen (ty := .object "java/lang/Object") (N := 0) (f := fun _ => .null) hC.1 hC.2.1 hZ.2.1 G.2.2 rfl dJx4a65c_grow_92f84_4 ?_
  refine lv_istore_n (lv' := [(2, .int 0), (0, .ref (lay kl)), (1, .int 1)]) hC.1 hC.2.1 dJx4a65c_grow_92f84_5 rfl hl (by decide) rfl (fun ls hl => ?_)
  refine lv_iload_n hC.1 hC.2.1 dJx4a65c_grow_92f84_6 rfl (lv_at hl 0 rfl) ?_
  refine lv_if_gt (tgt := 20) hC.1 hC.2.1 dJx4a65c_grow_92f84_7 (by decide) (fun c1 => absurd c1 (by decide)) (fun _ => ?_)
  refine lv_aload_n hC.1 hC.2.1 dJx4a65c_grow_92f84_10 rfl (lv_at hl 1 rfl) ?_
  refine g_get hC hT.1 G hkl h1 k_AL i_gr0_L 1 (by decide) (wm 1 rfl) rfl dJx4a65c_grow_92f84_11 ?_
  refine va_gets hC.1 hC.2.1 hZ.1 G.2.2 hC.2.2.2.1 (hC.2.2.2.2 _ (wm 2 rfl)) (fun _ h => h) dJx4a65c_grow_92f84_14 ?_
  refine lv_acmp_eq (rx := some ea) (ry := some ea) (tgt := 45) hC.1 hC.2.1 dJx4a65c_grow_92f84_17 (by decide) (fun _ => ?_) (fun c1 => absurd rfl c1)
  refine lv_aload_n hC.1 hC.2.1 dJx4a65c_grow_92f84_45 rfl (lv_at hl 1 rfl) ?_
  refine lv_bipush (v := 10) hC.1 hC.2.1 dJx4a65c_grow_92f84_46 (by decide) ?_
  refine lv_iload_n hC.1 hC.2.1 dJx4a65c_grow_92f84_48 rfl (lv_at hl 2 rfl) ?_
  refine va_mmax hC.1 hC.2.1 (hC.2.2.1.trans hl.1.symm) hC.2.2.2.1 (hC.2.2.2.2 _ (wm 3 rfl)) (hC.2.2.2.2 _ (wm 4 rfl)) (hC.2.2.2.2 _ (wm 5 rfl)) (hC.2.2.2.2 _ (wm 6 rfl)) (Nat.le_of_ble_eq_true rfl) (Nat.le_of_ble_eq_true rfl) (Nat.le_of_ble_eq_true rfl) (Nat.le_of_ble_eq_true rfl) dJx4a65c_grow_92f84_49 ?_
  refine va_newq (N' := 10) hC.1 hC.2.1 hC.2.2.2.1 (hC.2.2.2.2 _ (wm 7 rfl)) hZ.2.2.2.1 hT.1 (gP_list G.1) (gI_list G.2.1) G.2.2 hA (by decide) (by decide) (by decide) (Nat.le_of_ble_eq_true rfl) (Nat.le_of_ble_eq_true rfl) dJx4a65c_grow_92f84_52 (fun q cA H hK' hP hD hS => ?_)
  obtain ⟨-, -, -, -, -, hq1⟩ := (hK'.2 (fdT cy).length (cA, .object "java/lang/Object") (by rw [List.getElem?_append_right (Nat.le_refl _), Nat.sub_self]; rfl)).2
  obtain ⟨-, -, -, -, -, hq2⟩ := (hT.1.2 7 (cy 7, .object "java/lang/Object") rfl).2
  have hcA : cA = cy 7 := Option.some.inj (hq1.symm.trans hq2)
  subst hcA
  have G1 : gG D (gU lay ke q) (gU X ke (some (arr0 cy))) (gA lay X s.heap.size) s.heap H [] := ⟨gP_new h2 hP, gI_new G.2.1 h2 hD, hS⟩
  have e1 : gU lay ke q kl = lay kl := gU_ne hne
  refine lv_dup_x1 hC.1 hC.2.1 dJx4a65c_grow_92f84_55 rfl rfl ?_
  refine g_putA (a := lay kl) e1 hC hT.1 G1 hkl ((gU_ne hne).trans h1) k_AL i_gr0_L 1 (by decide) (wm 1 rfl) rfl rfl rfl (by simp) dJx4a65c_grow_92f84_56 (fun H locs G => ?_)
  have G : gG D (gU lay ke q) (gU (gU X ke (some (arr0 cy))) kl (some (.inr (4, [.int mo, .ref q, .int n])))) (gA lay X s.heap.size) s.heap H locs := G
  exact W.aret (v := .ref q) hC.1 hC.2.1 hr (Or.inr ⟨_, rfl⟩) (Or.inr ⟨_, rfl⟩) (fun t ht hW => ⟨⟨_, q, rfl, ⟨q, rfl⟩, gU_eq.symm, by rw [ht]; exact G.1, G.2.1⟩, G.2.2.F ht⟩) G.2.2.2.2 dJx4a65c_grow_92f84_59 hlocks
theorem hdV_gr0 : yJx4a65c_grow_92f84.cls = RJx4a65c ∧ yJx4a65c_grow_92f84.cls ≠ "java/lang/invoke/MethodHandle" ∧ yJx4a65c_grow_92f84.cls ≠ "java/lang/invoke/VarHandle" ∧ (parseMethodDescriptor yJx4a65c_grow_92f84.desc).map (fun d => d.parameters.length) = some 1 := by decide +kernel
theorem hdV_gr1 : yJx4a65c_grow_d5877.cls = RJx4a65c ∧ yJx4a65c_grow_d5877.cls ≠ "java/lang/invoke/MethodHandle" ∧ yJx4a65c_grow_d5877.cls ≠ "java/lang/invoke/VarHandle" ∧ (parseMethodDescriptor yJx4a65c_grow_d5877.desc).map (fun d => d.parameters.length) = some 0 := by decide +kernel
theorem hdV_ad3 : yJx4a65c_add_72be8.cls = RJx4a65c ∧ yJx4a65c_add_72be8.cls ≠ "java/lang/invoke/MethodHandle" ∧ yJx4a65c_add_72be8.cls ≠ "java/lang/invoke/VarHandle" ∧ (parseMethodDescriptor yJx4a65c_add_72be8.desc).map (fun d => d.parameters.length) = some 3 := by decide +kernel
theorem hdV_add : yJx4a65c_add_9ea2d.cls = RJx4a65c ∧ yJx4a65c_add_9ea2d.cls ≠ "java/lang/invoke/MethodHandle" ∧ yJx4a65c_add_9ea2d.cls ≠ "java/lang/invoke/VarHandle" ∧ (parseMethodDescriptor yJx4a65c_add_9ea2d.desc).map (fun d => d.parameters.length) = some 1 := by decide +kernel
set_option maxHeartbeats 4000000 in
set_option maxRecDepth 100000 in
theorem c_gr1 (l : Launch) (D : va_G) (cy : Nat → ClassId) (lay : Nat → Nat) (X : Nat → Option va_E) (ea mi : Nat) {kl ke : Nat} (hkl : kl < 128) (hke : ke < 128) (hne : kl ≠ ke) {mo : Int32} (h1 : X kl = some (.inr (4, [.int mo, .ref ea, .int 0]))) (h2 : X ke = none) (sz : Nat) : Met l yJx4a65c_grow_d5877 wsJx4a65c_grow_d5877 rm_gr1 (va_Pc [.ref (lay kl)] (hK D cy lay X ea mi sz)) (va_Qr (S := GY) (fun Y => ∃ q, Y = (gU lay ke q, gU (gU X ke (some (arr0 cy))) kl (some (.inr (4, [.int mo, .ref q, .int 0]))))) (fun Y a t => a = Y.1 ke ∧ gO D (gA lay X sz) Y t) (gA lay X sz)) 1 10 (gA lay X sz) := by
  refine k_ofW (cc := cJx4a65c_grow_d5877) (maxL := 1) (ret := some (.array (.object "java/lang/Object"))) (own := RJx4a65c) (Qc := fun sz => va_Qr (S := GY) (fun Y => ∃ q, Y = (gU lay ke q, gU (gU X ke (some (arr0 cy))) kl (some (.inr (4, [.int mo, .ref q, .int 0]))))) (fun Y a t => a = Y.1 ke ∧ gO D (gA lay X sz) Y t) (gA lay X sz)) (by decide) rfl (Nat.le_of_ble_eq_true rfl) rfl ?_
  intro p e0 s m args below meth c ls hC hr hlocks hname hT hZ G hl
  have hl : lv_has ls 1 [(0, .ref (lay kl))] := hl
  have hA : ∀ q, s.heap.size ≤ q → gA lay X s.heap.size q := fun _ h => Or.inr h
  refine lv_aload_n hC.1 hC.2.1 dJx4a65c_grow_d5877_0 rfl (lv_at hl 0 rfl) ?_
  refine lv_aload_n hC.1 hC.2.1 dJx4a65c_grow_d5877_1 rfl (lv_at hl 0 rfl) ?_
  refine g_get hC hT.1 G hkl h1 k_AL i_gr1_L 2 (by decide) (wm 1 rfl) rfl dJx4a65c_grow_d5877_2 ?_
  refine lv_iconst (v := 1) hC.1 hC.2.1 dJx4a65c_grow_d5877_5 (by decide) ?_
  refine lv_iadd hC.1 hC.2.1 dJx4a65c_grow_d5877_6 ?_
  rw [show (0 : Int32) + 1 = 1 from by decide]
  refine k_r (f := fun Y => Y.1 ke) G hA (k_runV (As := [.int 1]) (rest := []) hC hT hZ hA G (c_gr0 l D cy lay X ea mi hkl hke hne h1 h2 _) (cwV 1 hC.2.2.2.2 gJx4a65c_grow_d5877_Jx4a65c_grow_92f84 rfl rfl rfl hdV_gr0 ⟨Nat.le_of_ble_eq_true rfl, Nat.le_of_ble_eq_true rfl⟩) (h_recv hT G hkl h1 k_AL) rfl hl.1 rfl (Nat.le_of_ble_eq_true rfl) dJx4a65c_grow_d5877_7 ⟨Nat.le_of_ble_eq_true rfl, Nat.le_of_ble_eq_true rfl⟩) (fun Y H locs hY G => ?_)
  obtain ⟨q, rfl⟩ := hY
  exact W.aret (v := .ref (gU lay ke q ke)) hC.1 hC.2.1 hr (Or.inr ⟨_, rfl⟩) (Or.inr ⟨_, rfl⟩) (fun t ht hW => ⟨⟨_, gU lay ke q ke, rfl, ⟨q, rfl⟩, rfl, by rw [ht]; exact G.1, G.2.1⟩, G.2.2.F ht⟩) G.2.2.2.2 dJx4a65c_grow_d5877_10 hlocks
