/-! THE REFERENCE: new objects; methods that make the world grow -/
section K3
variable {p : Program} {l : Launch} {e : Env} {R : Room} {s : State} {m : MethodId} {args : Array Value} {below : List Frame} {meth : Method} {c : Code} {H : Heap} {locs : List Loc} {cells slots : Nat} {Q : State → Prop}
variable {cc bytes : ByteArray} {pc nL maxL mc ms n index ea mi : Nat} {ls : Array Slot} {ST rest As : List Value} {D : va_G} {cy : Nat → ClassId} {lay : Nat → Nat} {X : Nat → Option va_E} {A : Nat → Prop} {H0 : Heap} {Ts ws : List Cond} {own Cn host : String} {y : MethodName} {ret : Option FieldType} {rm : Room} {b : Addr} {tys : List (ClassId × FieldType)} {Γ : RG} {σ : MS}
variable {Qc : Array Value → State → Outcome → State → Prop} {free : Addr → Prop}
theorem k_newz (hC : CallFix p m c cc nL s args Ts own) (hK : va_K D vwCl (fdT cy) s) (G : gG D lay X A H0 H locs) (hA : ∀ q, H0.size ≤ q → A q) {k : Nat} (hX : X k = none) (harr : Cond.arrayClass .boolean ∈ Ts) {v : Int32} {N : Nat} (hn : ¬ v < 0) (hN : v.toNatClampNeg = N) (hb : N * componentBytes .boolean ≤ 536870912) (hcells : cells + 1 ≤ R.cells) (hslots : slots + N ≤ R.slots) (hdg : decode cc pc = .ok (.newarray .boolean, 2))
    (kk : ∀ (q : Nat) (H1 : Heap), gG D (gU lay k q) (gU X k (some (.inl (cy 1, N, .inl (fun _ => 0))))) A H0 H1 locs → W p l e R s m args below meth c H1 locs (cells + 1) (slots + N) Q (F0 m (pc + 2) ls (.ref q :: rest))) : W p l e R s m args below meth c H locs cells slots Q (F0 m pc ls (.int v :: rest)) :=
  va_newa (atype := .boolean) (ty := .boolean) hC.1 hC.2.1 (hC.2.2.2.2 _ harr) rfl hK (gP_list G.1) (gI_list G.2.1) G.2.2 hA (a0 := (N, .inl (fun _ => 0))) (fun _ => rfl) hn hN hb hcells hslots hdg (fun q cA H1 hK' hP hD hS => by
    have h1 := (hK'.2 (fdT cy).length (cA, .boolean) (by rw [List.getElem?_append_right (Nat.le_refl _), Nat.sub_self]; rfl)).2
    have h2 := (hK.2 1 (cy 1, .boolean) rfl).2
    have hc : cA = cy 1 := Option.some.inj (Eq.trans (Eq.symm h1) h2)
    subst hc
    exact kk q H1 ⟨gP_new hX hP, gI_new G.2.1 hX hD, hS⟩)
theorem h_runIN (hC : CallFix p m c cc nL s args Ts own) (hT : va_K D vwCl (fdT cy) s ∧ rN s) (G : gG D lay X A H0 H locs) (hM : Met l y ws rm (va_Pc (.ref b :: As) (hI D cy lay X H.size)) Qc mc ms free) (cw : va_CN R s args own index y host bytes maxL none ws rm mc ms n ∧ y.name = "<init>" ∧ (Cond.instanceMethod y).before args s = true)
    (hn : As.length = n) (hls : ls.size = nL) (hst : ST = As.reverse ++ .ref b :: rest) (hW : (rest.map fun v => v.category).sum ≤ 8) (hdg : decode cc pc = .ok (.invokespecial index, 3)) (hf : cells + mc ≤ R.cells ∧ slots + ms ≤ R.slots) :
    va_Run p l e R s m args below meth c H locs cells slots mc ms (F0 m pc ls ST) rest (Qc (.ref b :: As).toArray) free :=
  va_runIN hC hM cw ⟨hI_blind, fun U hU hW => ⟨rfl, hI_next hT G hU hW⟩⟩ rfl hn hls hst (lv_room hW) hdg hf
theorem g_putNA {C : String} {T : u_T} {N ci index a : Nat} {ty : Nat → FieldType} {k : Nat} (ha : lay k = a) (hC : CallFix p m c cc nL s args Ts own) (hK : va_K D vwCl tys s) (G : gG D lay X A H0 H locs) (hk : k < 128) {fs : List Value} (he : X k = some (.inr (ci, fs))) (hcl : agCl C T N ci ty) (hin : ∀ w ∈ u_ws C T N, w ∈ Ts) (j : Nat) (hj : j < N) (hl : (Cond.fieldLinkNest own index (T j).1 (T j).2.1 (T j).2.2.1 host).before args s = true) (hfin : (T j).2.2.2 = false) {v : Value} (hn : narrow (ty j) v = v) (hfit : fits (ty j) v = true) (hjl : j < fs.length) (hdg : decode cc pc = .ok (.putfield index, 3))
    (kk : ∀ (H1 : Heap) (locs1 : List Loc), gG D lay (gU X k (some (.inr (ci, fs.set j v)))) A H0 H1 locs1 → W p l e R s m args below meth c H1 locs1 cells slots Q (F0 m (pc + 3) ls rest)) : W p l e R s m args below meth c H locs cells slots Q (F0 m pc ls (v :: .ref a :: rest)) := by
  subst ha
  exact g_putN hC hK G hk he hcl hin j hj hl hfin hn hfit hjl hdg kk
/-- a world that grew: where its cells lie, how many there are, the numbers -/
abbrev RY : Type := (Nat → Nat) × RG × MS
def rOn (D : va_G) (cy : Nat → ClassId) (A : Nat → Prop) (Y : RY) (t : State) : Prop := gP D Y.1 (rX cy Y.1 Y.2.1 tn Y.2.2) t.heap ∧ gI A Y.1 (rX cy Y.1 Y.2.1 tn Y.2.2) ∧ rS D cy Y.2.1 (rA cy Y.1 Y.2.1 t.heap.size) t t.heap ∧ rB Y.2.1
def rIK (D : va_G) (cy : Nat → ClassId) (lay : Nat → Nat) (Γ : RG) (σ : MS) (mi sz : Nat) (U : State) : Prop := rI D cy lay Γ σ sz U ∧ hZs D cy Γ.2.2.2.1 mi (rA cy lay Γ sz) U
theorem rIK_blind {mi sz : Nat} : FrameBlind (va_Pc As (rIK D cy lay Γ σ mi sz)) := by
  intro a U g mk h
  obtain ⟨h0, h1, k1, k2, k3, k4, k5, k6⟩ := h
  have := rI_blind (D := D) (cy := cy) (lay := lay) (Γ := Γ) (σ := σ) (sz := sz) (As := As) a U g mk ⟨h0, h1⟩
  exact ⟨this.1, this.2, va_Z.moved (u := U) (U := U.calling g mk a) (Vm.Alike.refl U.vm) k1, va_T.moved (u := U) (U := U.calling g mk a) (Vm.Alike.refl U.vm) k2, k3, va_AO.moved (u := U) (U := U.calling g mk a) (Vm.Alike.refl U.vm) k4, va_Mi.moved (u := U) (U := U.calling g mk a) (Vm.Alike.refl U.vm) k5, va_Dc.moved (u := U) (U := U.calling g mk a) (Vm.Alike.refl U.vm) k6⟩
theorem rk_ofW {ws' : List Cond} {maxL mi : Nat} {sz : Nat} {Qc : Nat → Array Value → State → Outcome → State → Prop} (hy : plainName y.cls = true) (hw : ws = Cond.code y cc maxL ret :: ws') (hnl : (lg_sl As).length ≤ maxL) (hoo : y.cls = own)
    (body : ∀ (p : Program) (e : Env) (s : State) (m : MethodId) (args : Array Value) (below : List Frame) (meth : Method) (c : Code) (ls : Array Slot), CallFix p m c cc maxL s args ws own → meth.sig.returnType = ret → meth.locks = false → rT D cy lay Γ s → hZs D cy Γ.2.2.2.1 mi (rA cy lay Γ s.heap.size) s → rG D cy lay Γ tn σ (rA cy lay Γ s.heap.size) s.heap s.heap [] → lv_has ls maxL (lv_args 0 As) →
      W p l e rm s m args below meth c s.heap [] 0 0 (MQ below (Qc s.heap.size) args s mc ms (rA cy lay Γ s.heap.size)) (F0 m 0 ls [])) : Met l y ws rm (va_Pc As (rIK D cy lay Γ σ mi sz)) (Qc sz) mc ms (rA cy lay Γ sz) := by
  refine Met.ofW (cc := cc) (maxL := maxL) (ret := ret) hy hw ?_
  intro p e s m args below meth c s₁ B hml hv
  obtain ⟨rfl, ⟨hsz, hT, hP, hD⟩, hZ⟩ := hv
  subst hsz
  have hl := lv_entry As (n := maxL) hnl
  rw [lg_entry_eq]
  have hown : s.vm.findClass y.cls = some m.cls := findClass_of_methodNamed B.named
  rw [hoo] at hown
  exact body p e s m As.toArray below meth c _ ⟨B.exec, B.bytes, hml, hown, atoms_spec (ws := ws) B.pre⟩ B.returns B.notSynchronized hT hZ ⟨hP, rI_of hD, va_S.rf⟩ hl
/-- the empty row and the Integers stay apart -/
theorem rS_grow {lay' : Nat → Nat} {Γ' : RG} {σ' : MS} (h : rS D cy Γ (rA cy lay Γ s.heap.size) s s.heap) (G : gG D lay' (rX cy lay' Γ' tn σ') (rA cy lay Γ s.heap.size) s.heap H locs) (h1 : Γ'.2.1 = Γ.2.1) (h2 : Γ'.2.2.2 = Γ.2.2.2) : rS D cy Γ' (rA cy lay' Γ' H.size) s H := by
  have hk := rS_kept (B := rA cy lay' Γ' H.size) h G.2.2.2.1 (fun q hq hB => by
    rcases hB with ⟨k, hk, hX, rfl⟩ | hB
    · rw [r_some (lay' := lay') (tm' := tn) (σ' := σ') hk] at hX
      cases hx : rX cy lay' Γ' tn σ' k with
      | none => rw [hx] at hX; cases hX
      | some e => exact G.2.1.2 k e (by omega) hx
    · exact absurd (Nat.le_trans G.2.2.1 hB) (by omega))
  unfold rS at hk ⊢
  rw [h1, h2]
  exact hk
theorem rk_iret {post : Int32 → RY → Prop} {v : Int32} {Y : RY} {locs : List Loc} (hC : CallFix p m c cc nL s args Ts own) (hr : meth.sig.returnType = some .int) (hlocks : meth.locks = false) (G : gG D Y.1 (rX cy Y.1 Y.2.1 tn Y.2.2) (rA cy lay Γ s.heap.size) s.heap H locs) (hS : rS D cy Y.2.1 (rA cy Y.1 Y.2.1 H.size) s H) (hB : rB Y.2.1) (h : post v Y) (hdg : decode cc pc = .ok (.ireturn, 1)) :
    W p l e R s m args below meth c H locs cells slots (MQ below (va_Qi post (rOn D cy (rA cy lay Γ s.heap.size)) (rA cy lay Γ s.heap.size)) args s cells slots (rA cy lay Γ s.heap.size)) (F0 m pc ls [.int v]) :=
  W.iret hC.1 hC.2.1 hr (fun t ht hW => ⟨⟨v, Y, rfl, h, by rw [ht]; exact G.1, G.2.1, by rw [ht]; exact rS_moved hW.alike hS, hB⟩, G.2.2.F ht⟩) G.2.2.2.2 hdg hlocks
/-- .. and the model is where it was -/
def rOz (z0 : Nat) (D : va_G) (cy : Nat → ClassId) (A : Nat → Prop) (Y : RY) (t : State) : Prop := rOn D cy A Y t ∧ Y.1 0 = z0
theorem rk_iretz {post : Int32 → RY → Prop} {v : Int32} {Y : RY} {locs : List Loc} {z0 : Nat} (hz : Y.1 0 = z0) (hC : CallFix p m c cc nL s args Ts own) (hr : meth.sig.returnType = some .int) (hlocks : meth.locks = false) (G : gG D Y.1 (rX cy Y.1 Y.2.1 tn Y.2.2) (rA cy lay Γ s.heap.size) s.heap H locs) (hS : rS D cy Y.2.1 (rA cy Y.1 Y.2.1 H.size) s H) (hB : rB Y.2.1) (h : post v Y) (hdg : decode cc pc = .ok (.ireturn, 1)) :
    W p l e R s m args below meth c H locs cells slots (MQ below (va_Qi post (rOz z0 D cy (rA cy lay Γ s.heap.size)) (rA cy lay Γ s.heap.size)) args s cells slots (rA cy lay Γ s.heap.size)) (F0 m pc ls [.int v]) :=
  W.iret hC.1 hC.2.1 hr (fun t ht hW => ⟨⟨v, Y, rfl, h, ⟨by rw [ht]; exact G.1, G.2.1, by rw [ht]; exact rS_moved hW.alike hS, hB⟩, hz⟩, G.2.2.F ht⟩) G.2.2.2.2 hdg hlocks
end K3
abbrev rm_X9_init : Room := { frames := 1, cells := 1, slots := 366, locals := 16 }
abbrev rm_X10_init : Room := { frames := 1, cells := 0, slots := 0, locals := 16 }
abbrev rm_gsz : Room := { frames := 0, cells := 0, slots := 0, locals := 0 }
theorem i_X9_init_X9 : ∀ w ∈ wsX90, w ∈ wsX9_init := fun _ h => List.mem_cons_of_mem _ (List.mem_append_right _ h)
theorem hdI_X9 : yX9_init.cls ≠ "java/lang/invoke/MethodHandle" ∧ yX9_init.cls ≠ "java/lang/invoke/VarHandle" ∧ (parseMethodDescriptor yX9_init.desc).map (fun d => d.parameters.length) = some 0 := by decide +kernel
theorem hdI_X10 : yX10_init.cls ≠ "java/lang/invoke/MethodHandle" ∧ yX10_init.cls ≠ "java/lang/invoke/VarHandle" ∧ (parseMethodDescriptor yX10_init.desc).map (fun d => d.parameters.length) = some 0 := by decide +kernel
abbrev offE (cy : Nat → ClassId) : va_E := .inl (cy 1, 366, .inl fun _ => 0)
abbrev plE (a b c d : Int32) (v : Value) : va_E := .inr (14, [.int a, .int b, .int c, .int d, .int 0, .int 0, v])
set_option maxHeartbeats 4000000 in
set_option maxRecDepth 100000 in
theorem c_X9_init (l : Launch) (D : va_G) (cy : Nat → ClassId) (lay : Nat → Nat) (X : Nat → Option va_E) {k ko : Nat} (hk : k < 128) (hko : ko < 128) (hne : k ≠ ko) (hX : X k = some (plE 0 0 0 0 .null)) (hX2 : X ko = none) (sz : Nat) : Met l yX9_init wsX9_init rm_X9_init (va_Pc [.ref (lay k)] (hI D cy lay X sz)) (va_Qv (fun Y : GY => ∃ q, Y = (gU lay ko q, gU (gU X ko (some (offE cy))) k (some (plE 0 0 0 0 (.ref q))))) (gO D (gA lay X sz)) (gA lay X sz)) 1 366 (gA lay X sz) := by
  refine h_ofW (cc := cX9_init) (maxL := 1) (ret := none) (own := RX9) (Qc := fun sz => (va_Qv (fun Y : GY => ∃ q, Y = (gU lay ko q, gU (gU X ko (some (offE cy))) k (some (plE 0 0 0 0 (.ref q))))) (gO D (gA lay X sz)) (gA lay X sz))) (by decide) rfl (Nat.le_of_ble_eq_true rfl) rfl ?_
  intro p e0 s m args below meth c ls hC hr hlocks hname hT G hl
  have hl : lv_has ls 1 [(0, .ref (lay k))] := hl
  have hA : ∀ q, s.heap.size ≤ q → gA lay X s.heap.size q := fun _ h => Or.inr h
  refine lv_aload_n hC.1 hC.2.1 dX9_init_0 rfl (lv_at hl 0 rfl) ?_
  refine W.objInit hC.1 hC.2.1 hC.2.2.2.1 (hC.2.2.2.2 _ (wm 1 rfl)) (hC.2.2.2.2 _ (wm 2 rfl)) (hC.2.2.2.2 _ (wm 3 rfl)) rfl (by rw [hC.2.2.1]; exact hl.1) rfl dX9_init_1 (Nat.le_of_ble_eq_true rfl) (Nat.le_of_ble_eq_true rfl) ?_
  refine W.eq (g2 := F0 m 4 ls []) rfl ?_
  refine lv_aload_n hC.1 hC.2.1 dX9_init_4 rfl (lv_at hl 0 rfl) ?_
  refine lv_sipush (v := 366) hC.1 hC.2.1 dX9_init_5 (by decide) ?_
  refine k_newz (k := ko) (N := 366) hC hT.1 G hA hX2 (wm 4 rfl) (by decide) (by decide) (by decide) (Nat.le_of_ble_eq_true rfl) (Nat.le_of_ble_eq_true rfl) dX9_init_8 (fun q H G => ?_)
  have e1 : gU lay ko q k = lay k := gU_ne hne
  refine g_putFA (a := lay k) e1 hC hT.1 G hk ((gU_ne hne).trans hX) k_X9 i_X9_init_X9 6 (by decide) (wm 5 rfl) rfl hname rfl rfl rfl (by simp) dX9_init_10 (fun H locs G => ?_)
  have G : gG D (gU lay ko q) (gU (gU X ko (some (offE cy))) k (some (plE 0 0 0 0 (.ref q)))) (gA lay X s.heap.size) s.heap H locs := G
  exact g_vret (Y := (gU lay ko q, gU (gU X ko (some (offE cy))) k (some (plE 0 0 0 0 (.ref q))))) hC hr hlocks G ⟨q, rfl⟩ dX9_init_13
set_option maxHeartbeats 4000000 in
set_option maxRecDepth 100000 in
theorem c_X10_init (l : Launch) (D : va_G) (cy : Nat → ClassId) (lay : Nat → Nat) (X : Nat → Option va_E) {k : Nat} (sz : Nat) : Met l yX10_init wsX10_init rm_X10_init (va_Pc [.ref (lay k)] (hI D cy lay X sz)) (va_Qv (fun Y : GY => Y = (lay, X)) (gO D (gA lay X sz)) (gA lay X sz)) 0 0 (gA lay X sz) := by
  refine h_ofW (cc := cX10_init) (maxL := 1) (ret := none) (own := RX10) (Qc := fun sz => (va_Qv (fun Y : GY => Y = (lay, X)) (gO D (gA lay X sz)) (gA lay X sz))) (by decide) rfl (Nat.le_of_ble_eq_true rfl) rfl ?_
  intro p e0 s m args below meth c ls hC hr hlocks hname hT G hl
  have hl : lv_has ls 1 [(0, .ref (lay k))] := hl
  refine lv_aload_n hC.1 hC.2.1 dX10_init_0 rfl (lv_at hl 0 rfl) ?_
  refine W.objInit hC.1 hC.2.1 hC.2.2.2.1 (hC.2.2.2.2 _ (wm 1 rfl)) (hC.2.2.2.2 _ (wm 2 rfl)) (hC.2.2.2.2 _ (wm 3 rfl)) rfl (by rw [hC.2.2.1]; exact hl.1) rfl dX10_init_1 (Nat.le_of_ble_eq_true rfl) (Nat.le_of_ble_eq_true rfl) ?_
  refine W.eq (g2 := F0 m 4 ls []) rfl ?_
  exact g_vret (Y := (lay, X)) hC hr hlocks G rfl dX10_init_4
set_option maxHeartbeats 4000000 in
set_option maxRecDepth 100000 in
theorem c_gsz (l : Launch) (D : va_G) (cy : Nat → ClassId) (lay : Nat → Nat) (X : Nat → Option va_E) {k : Nat} (hk : k < 128) {mo n : Int32} {o : Value} (hX : X k = some (.inr (4, [.int mo, o, .int n]))) (sz : Nat) : Met l yJx4a65c_size_8abf5 wsJx4a65c_size_8abf5 rm_gsz (va_Pc [.ref (lay k)] (hI D cy lay X sz)) (va_Qi (fun x (Y : GY) => x = n ∧ Y = (lay, X)) (gO D (gA lay X sz)) (gA lay X sz)) 0 0 (gA lay X sz) := by
  refine h_ofW (cc := cJx4a65c_size_8abf5) (maxL := 1) (ret := some .int) (own := RJx4a65c) (Qc := fun sz => (va_Qi (fun x (Y : GY) => x = n ∧ Y = (lay, X)) (gO D (gA lay X sz)) (gA lay X sz))) (by decide) rfl (Nat.le_of_ble_eq_true rfl) rfl ?_
  intro p e0 s m args below meth c ls hC hr hlocks hname hT G hl
  have hl : lv_has ls 1 [(0, .ref (lay k))] := hl
  refine lv_aload_n hC.1 hC.2.1 dJx4a65c_size_8abf5_0 rfl (lv_at hl 0 rfl) ?_
  refine g_get hC hT.1 G hk hX k_AL (fun _ h => List.mem_cons_of_mem _ (List.mem_append_right _ h)) 2 (by decide) (wm 1 rfl) rfl dJx4a65c_size_8abf5_1 ?_
  exact W.iret (v := n) hC.1 hC.2.1 hr (fun t ht hW => ⟨⟨n, (lay, X), rfl, ⟨rfl, rfl⟩, by rw [ht]; exact G.1, G.2.1⟩, G.2.2.F ht⟩) G.2.2.2.2 dJx4a65c_size_8abf5_4 hlocks
