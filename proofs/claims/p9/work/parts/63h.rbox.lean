/-! THE REFERENCE: adding to a list what lies outside the world (a band's Integer) -/
def hKb (D : va_G) (cy : Nat → ClassId) (lay : Nat → Nat) (X : Nat → Option va_E) (ea mi v : Nat) (C : String) (sz : Nat) (U : State) : Prop := hK D cy lay X ea mi sz U ∧ va_O C v (gA lay X sz) U U.heap
theorem hKb_blind {D : va_G} {cy : Nat → ClassId} {lay : Nat → Nat} {X : Nat → Option va_E} {ea mi v : Nat} {C : String} {sz : Nat} {As : List Value} : FrameBlind (va_Pc As (hKb D cy lay X ea mi v C sz)) := by
  intro a U g mk h
  obtain ⟨h0, h1, h2⟩ := h
  have := hK_blind (D := D) (cy := cy) (lay := lay) (X := X) (ea := ea) (mi := mi) (sz := sz) (As := As) a U g mk ⟨h0, h1⟩
  exact ⟨this.1, this.2, va_O.moved (u := U) (U := U.calling g mk a) (Vm.Alike.refl U.vm) h2⟩
section KB
variable {p : Program} {l : Launch} {e : Env} {R : Room} {s : State} {m : MethodId} {args : Array Value} {below : List Frame} {meth : Method} {c : Code} {H : Heap} {locs : List Loc} {cells slots : Nat} {Q : State → Prop}
variable {cc bytes : ByteArray} {pc nL maxL mc ms n index ea mi v : Nat} {ls : Array Slot} {ST rest As : List Value} {D : va_G} {cy : Nat → ClassId} {lay : Nat → Nat} {X : Nat → Option va_E} {A : Nat → Prop} {H0 : Heap} {Ts ws : List Cond} {own Cn C host : String} {y : MethodName} {ret : Option FieldType} {rm : Room} {b : Addr} {tys : List (ClassId × FieldType)}
variable {Qc : Array Value → State → Outcome → State → Prop} {free : Addr → Prop}
theorem kb_ofW {ws' : List Cond} {maxL : Nat} {sz : Nat} {Qc : Nat → Array Value → State → Outcome → State → Prop} (hy : plainName y.cls = true) (hw : ws = Cond.code y cc maxL ret :: ws') (hnl : (lg_sl As).length ≤ maxL) (hoo : y.cls = own)
    (body : ∀ (p : Program) (e : Env) (s : State) (m : MethodId) (args : Array Value) (below : List Frame) (meth : Method) (c : Code) (ls : Array Slot), CallFix p m c cc maxL s args ws own → meth.sig.returnType = ret → meth.locks = false → meth.name = y.name → va_K D vwCl (fdT cy) s ∧ rN s → hZs D cy ea mi (gA lay X s.heap.size) s → va_O C v (gA lay X s.heap.size) s s.heap → gG D lay X (gA lay X s.heap.size) s.heap s.heap [] → lv_has ls maxL (lv_args 0 As) →
      W p l e rm s m args below meth c s.heap [] 0 0 (MQ below (Qc s.heap.size) args s mc ms (gA lay X s.heap.size)) (F0 m 0 ls [])) : Met l y ws rm (va_Pc As (hKb D cy lay X ea mi v C sz)) (Qc sz) mc ms (gA lay X sz) := by
  refine Met.ofW (cc := cc) (maxL := maxL) (ret := ret) hy hw ?_
  intro p e s m args below meth c s₁ B hml hv
  obtain ⟨rfl, ⟨⟨hsz, hT, hP, hI⟩, hZ⟩, hO⟩ := hv
  subst hsz
  have hl := lv_entry As (n := maxL) hnl
  rw [lg_entry_eq]
  have hown : s.vm.findClass y.cls = some m.cls := findClass_of_methodNamed B.named
  rw [hoo] at hown
  exact body p e s m As.toArray below meth c _ ⟨B.exec, B.bytes, hml, hown, atoms_spec (ws := ws) B.pre⟩ B.returns B.notSynchronized (name_of_methodNamed B.named B.method).1 hT hZ hO ⟨hP, gI_self hI, va_S.rf⟩ hl
theorem kb_runV (hC : CallFix p m c cc nL s args Ts own) (hT : va_K D vwCl (fdT cy) s ∧ rN s) (hZ : hZs D cy ea mi A s) (hA : ∀ q, s.heap.size ≤ q → A q) (G : gG D lay X A s.heap H locs) (hO : va_O C v (gA lay X H.size) s H) (hM : Met l y ws rm (va_Pc (.ref b :: As) (hKb D cy lay X ea mi v C H.size)) Qc mc ms free) (cw : CallW R s args own Cn index y bytes maxL ret ws rm mc ms n) (hrv : ∃ cell : Cell, H[b]? = some cell ∧ cell.vm.isStatics = false ∧ s.vm.findClass Cn = some cell.cls)
    (hn : As.length = n) (hls : ls.size = nL) (hst : ST = As.reverse ++ .ref b :: rest) (hW : (rest.map fun v => v.category).sum ≤ 8) (hdg : decode cc pc = .ok (.invokevirtual index, 3)) (hf : cells + mc ≤ R.cells ∧ slots + ms ≤ R.slots) :
    va_Run p l e R s m args below meth c H locs cells slots mc ms (F0 m pc ls ST) rest (Qc (.ref b :: As).toArray) free :=
  va_runV hC hM cw ⟨hKb_blind, hrv, fun U hU hW => ⟨rfl, hK_next hT hZ G hA hU hW, by rw [hU]; exact va_O.moved hW.alike hO⟩⟩ rfl hn hls hst (lv_room hW) hdg hf
/-- what lies outside the world put into a row of objects -/
theorem g_astb {k a : Nat} (ha : lay k = a) (hC : CallFix p m c cc nL s args Ts own) (hT : va_K D vwCl (fdT cy) s) (G : gG D lay X A H0 H locs) (hk : k < 128) {n : Nat} {f : Nat → Option Nat} (he : X k = some (.inl (cy 7, n, rfS f))) (hca : va_Nw (.castable C "java/lang/Object") s) (hr : ∃ cell : Cell, H[v]? = some cell ∧ cell.vm.isStatics = false ∧ s.vm.findClass C = some cell.cls) {i : Int32} (hin : vp_in i n) (hdg : decode cc pc = .ok (.aastore, 1))
    (kk : ∀ (H1 : Heap) (locs1 : List Loc), gG D lay (gU X k (some (.inl (cy 7, n, rfS (va_up f i.toNatClampNeg (some v)))))) A H0 H1 locs1 → W p l e R s m args below meth c H1 locs1 cells slots Q (F0 m (pc + 1) ls rest)) : W p l e R s m args below meth c H locs cells slots Q (F0 m pc ls (.ref v :: .int i :: .ref a :: rest)) := by
  subst ha
  obtain ⟨q0, hq⟩ := gW_pos (lay := lay) hk he
  exact vb_astq hC.1 hC.2.1 hT (gP_list G.1) (gI_list G.2.1) G.2.2 q0 7 hq rfl hr (vb_asgC hca) hin hdg (fun H1 locs1 hP hD hS => kk H1 locs1 ⟨gP_set G.2.1 hk he hq hP, gI_set G.2.1 he, hS⟩)
theorem o_cell {A : Nat → Prop} (hO : va_O C v A s s.heap) (hS : va_S A s.heap H locs) : ∃ cell : Cell, H[v]? = some cell ∧ cell.vm.isStatics = false ∧ s.vm.findClass C = some cell.cls := by
  obtain ⟨cell, h1, h2, h3, -⟩ := hO.kept hS.2.1
  exact ⟨cell, h1, h2, h3⟩
end KB
set_option maxHeartbeats 4000000 in
set_option maxRecDepth 100000 in
theorem c_bd3_0 (l : Launch) (D : va_G) (cy : Nat → ClassId) (lay : Nat → Nat) (X : Nat → Option va_E) (ea mi : Nat) {kl ke v qn : Nat} {C : String} (hkl : kl < 128) (hke : ke < 128) (hne : kl ≠ ke) {mo : Int32} (h1 : X kl = some (.inr (4, [.int mo, .ref ea, .int 0]))) (h2 : X ke = none) (hqn : nestR[qn]? = some (.castable C "java/lang/Object")) (sz : Nat) : Met l yJx4a65c_add_72be8 wsJx4a65c_add_72be8 rm_ad3 (va_Pc [.ref (lay kl), .ref v, .ref ea, .int 0] (hKb D cy lay X ea mi v C sz)) (va_Qv (fun Y : GY => ∃ q, Y = (gU lay ke q, adX cy X kl ke mo q 10 0 (fun _ => none) v)) (gO D (gA lay X sz)) (gA lay X sz)) 1 10 (gA lay X sz) := by
  refine kb_ofW (cc := cJx4a65c_add_72be8) (maxL := 4) (ret := none) (own := RJx4a65c) (Qc := fun sz => va_Qv (fun Y : GY => ∃ q, Y = (gU lay ke q, adX cy X kl ke mo q 10 0 (fun _ => none) v)) (gO D (gA lay X sz)) (gA lay X sz)) (by decide) rfl (Nat.le_of_ble_eq_true rfl) rfl ?_
  intro p e0 s m args below meth c ls hC hr hlocks hname hT hZ hO G hl
  have hl : lv_has ls 4 [(0, .ref (lay kl)), (1, .ref v), (2, .ref ea), (3, .int 0)] := hl
  have hA : ∀ q, s.heap.size ≤ q → gA lay X s.heap.size q := fun _ h => Or.inr h
  refine lv_iload_n hC.1 hC.2.1 dJx4a65c_add_72be8_0 rfl (lv_at hl 3 rfl) ?_
  refine lv_aload_n hC.1 hC.2.1 dJx4a65c_add_72be8_1 rfl (lv_at hl 2 rfl) ?_
  refine va_tlen (ty := .object "java/lang/Object") (N := 0) (f := fun _ => .null) hC.1 hC.2.1 hZ.2.1 G.2.2 rfl dJx4a65c_add_72be8_2 ?_
  refine lv_icmp_ne (tgt := 11) hC.1 hC.2.1 dJx4a65c_add_72be8_3 (by decide) (fun c1 => absurd rfl c1) (fun _ => ?_)
  refine lv_aload_n hC.1 hC.2.1 dJx4a65c_add_72be8_6 rfl (lv_at hl 0 rfl) ?_
  refine k_r (f := fun Y => Y.1 ke) G hA (k_runV (As := []) (rest := []) hC hT hZ hA G (c_gr1 l D cy lay X ea mi hkl hke hne h1 h2 _) (cwV 0 hC.2.2.2.2 gJx4a65c_add_72be8_Jx4a65c_grow_d5877 rfl rfl rfl hdV_gr1 ⟨Nat.le_of_ble_eq_true rfl, Nat.le_of_ble_eq_true rfl⟩) (h_recv hT G hkl h1 k_AL) rfl hl.1 rfl (Nat.le_of_ble_eq_true rfl) dJx4a65c_add_72be8_7 ⟨Nat.le_of_ble_eq_true rfl, Nat.le_of_ble_eq_true rfl⟩) (fun Y H locs hY G => ?_)
  obtain ⟨q, rfl⟩ := hY
  have G : gG D (gU lay ke q) (gU (gU X ke (some (arr0 cy))) kl (some (.inr (4, [.int mo, .ref q, .int 0])))) (gA lay X s.heap.size) s.heap H locs := G
  have e1 : gU lay ke q kl = lay kl := gU_ne hne
  have e3 : gU lay ke q ke = q := gU_eq
  refine lv_astore_n (lv' := [(2, .ref q), (0, .ref (lay kl)), (1, .ref v), (3, .int 0)]) hC.1 hC.2.1 dJx4a65c_add_72be8_10 rfl hl (by decide) (by show (2, Value.ref (gU lay ke q ke)) :: _ = _; rw [e3]; rfl) (fun ls hl => ?_)
  refine lv_aload_n hC.1 hC.2.1 dJx4a65c_add_72be8_11 rfl (lv_at hl 0 rfl) ?_
  refine lv_iload_n hC.1 hC.2.1 dJx4a65c_add_72be8_12 rfl (lv_at hl 3 rfl) ?_
  refine lv_aload_n hC.1 hC.2.1 dJx4a65c_add_72be8_13 rfl (lv_at hl 2 rfl) ?_
  refine g_astb e3 hC hT.1 G hke ((gU_ne (Ne.symm hne)).trans gU_eq) (hT.2.1 _ (wm qn hqn)) (o_cell hO G.2.2) (show vp_in (nI 0) 10 from vp_in_nI (by decide) (by decide)) dJx4a65c_add_72be8_14 (fun H locs G => ?_)
  refine lv_aload_n hC.1 hC.2.1 dJx4a65c_add_72be8_15 rfl (lv_at hl 1 rfl) ?_
  refine lv_iload_n hC.1 hC.2.1 dJx4a65c_add_72be8_16 rfl (lv_at hl 3 rfl) ?_
  refine lv_iconst (v := 1) hC.1 hC.2.1 dJx4a65c_add_72be8_17 (by decide) ?_
  refine lv_iadd hC.1 hC.2.1 dJx4a65c_add_72be8_18 ?_
  refine g_putA (a := lay kl) e1 hC hT.1 G hkl ((gU_ne hne).trans gU_eq) k_AL i_ad3_L 2 (by decide) (wm 1 rfl) rfl rfl rfl (by simp) dJx4a65c_add_72be8_19 (fun H locs G => ?_)
  have G : gG D (gU lay ke q) (adX cy X kl ke mo q 10 0 (fun _ => none) v) (gA lay X s.heap.size) s.heap H locs := by
    unfold adX
    rw [← gU4 (a := some (arr0 cy)) (b := some (.inr (4, [.int mo, .ref q, .int 0])))]
    exact G
  exact g_vret (Y := (gU lay ke q, adX cy X kl ke mo q 10 0 (fun _ => none) v)) hC hr hlocks G ⟨q, rfl⟩ dJx4a65c_add_72be8_22
set_option maxHeartbeats 4000000 in
set_option maxRecDepth 100000 in
theorem c_bd3_A (l : Launch) (D : va_G) (cy : Nat → ClassId) (lay : Nat → Nat) (X : Nat → Option va_E) (ea mi : Nat) {kl ke v qn n cap : Nat} {C : String} {f : Nat → Option Nat} (hkl : kl < 128) (hke : ke < 128) (hne : kl ≠ ke) (hn : n < cap) (hcap : cap < 100) {mo : Int32} (h1 : X kl = some (.inr (4, [.int mo, .ref (lay ke), .int (nI n)]))) (h2 : X ke = some (.inl (cy 7, cap, rfS f))) (hqn : nestR[qn]? = some (.castable C "java/lang/Object")) (sz : Nat) : Met l yJx4a65c_add_72be8 wsJx4a65c_add_72be8 rm_ad3 (va_Pc [.ref (lay kl), .ref v, .ref (lay ke), .int (nI n)] (hKb D cy lay X ea mi v C sz)) (va_Qv (fun Y : GY => Y = (lay, adX cy X kl ke mo (lay ke) cap n f v)) (gO D (gA lay X sz)) (gA lay X sz)) 1 10 (gA lay X sz) := by
  refine kb_ofW (cc := cJx4a65c_add_72be8) (maxL := 4) (ret := none) (own := RJx4a65c) (Qc := fun sz => va_Qv (fun Y : GY => Y = (lay, adX cy X kl ke mo (lay ke) cap n f v)) (gO D (gA lay X sz)) (gA lay X sz)) (by decide) rfl (Nat.le_of_ble_eq_true rfl) rfl ?_
  intro p e0 s m args below meth c ls hC hr hlocks hname hT hZ hO G hl
  have hl : lv_has ls 4 [(0, .ref (lay kl)), (1, .ref v), (2, .ref (lay ke)), (3, .int (nI n))] := hl
  refine lv_iload_n hC.1 hC.2.1 dJx4a65c_add_72be8_0 rfl (lv_at hl 3 rfl) ?_
  refine lv_aload_n hC.1 hC.2.1 dJx4a65c_add_72be8_1 rfl (lv_at hl 2 rfl) ?_
  obtain ⟨q0, hq0⟩ := gW_pos (lay := lay) hke h2
  refine va_alen hC.1 hC.2.1 hT.1 (gP_list G.1) q0 7 hq0 rfl rfl dJx4a65c_add_72be8_2 ?_
  refine lv_icmp_ne (tgt := 11) hC.1 hC.2.1 dJx4a65c_add_72be8_3 (by decide) (fun _ => ?_) (fun c1 => absurd (by rw [c1]; exact Int32.le_refl _) (nI_ge hn (by omega)))
  refine lv_aload_n hC.1 hC.2.1 dJx4a65c_add_72be8_11 rfl (lv_at hl 2 rfl) ?_
  refine lv_iload_n hC.1 hC.2.1 dJx4a65c_add_72be8_12 rfl (lv_at hl 3 rfl) ?_
  refine lv_aload_n hC.1 hC.2.1 dJx4a65c_add_72be8_13 rfl (lv_at hl 1 rfl) ?_
  refine g_astb rfl hC hT.1 G hke h2 (hT.2.1 _ (wm qn hqn)) (o_cell hO G.2.2) (vp_in_nI hn (by omega)) dJx4a65c_add_72be8_14 (fun H locs G => ?_)
  refine lv_aload_n hC.1 hC.2.1 dJx4a65c_add_72be8_15 rfl (lv_at hl 0 rfl) ?_
  refine lv_iload_n hC.1 hC.2.1 dJx4a65c_add_72be8_16 rfl (lv_at hl 3 rfl) ?_
  refine lv_iconst (v := 1) hC.1 hC.2.1 dJx4a65c_add_72be8_17 (by decide) ?_
  refine lv_iadd hC.1 hC.2.1 dJx4a65c_add_72be8_18 ?_
  rw [nI_1, nI_clamp (show n < 2 ^ 31 by omega)] at *
  refine g_put hC hT.1 G hkl ((gU_ne hne).trans h1) k_AL i_ad3_L 2 (by decide) (wm 1 rfl) rfl rfl rfl (by simp) dJx4a65c_add_72be8_19 (fun H locs G => ?_)
  have G : gG D lay (adX cy X kl ke mo (lay ke) cap n f v) (gA lay X s.heap.size) s.heap H locs := G
  refine W.widen (k := 1) (n := 10) (by decide) (by decide) ?_
  exact g_vret (Y := (lay, adX cy X kl ke mo (lay ke) cap n f v)) hC hr hlocks G rfl dJx4a65c_add_72be8_22
/-! add(E): on the empty list -/
set_option maxHeartbeats 4000000 in
set_option maxRecDepth 100000 in
theorem c_bdd_0 (l : Launch) (D : va_G) (cy : Nat → ClassId) (lay : Nat → Nat) (X : Nat → Option va_E) (ea mi : Nat) {kl ke v qn : Nat} {C : String} (hkl : kl < 128) (hke : ke < 128) (hne : kl ≠ ke) {mo : Int32} (h1 : X kl = some (.inr (4, [.int mo, .ref ea, .int 0]))) (h2 : X ke = none) (hqn : nestR[qn]? = some (.castable C "java/lang/Object")) (sz : Nat) : Met l yJx4a65c_add_9ea2d wsJx4a65c_add_9ea2d rm_add (va_Pc [.ref (lay kl), .ref v] (hKb D cy lay X ea mi v C sz)) (va_Qi (fun x (Y : GY) => x = 1 ∧ ∃ q, Y = (gU lay ke q, adX cy X kl ke (mo + 1) q 10 0 (fun _ => none) v)) (gO D (gA lay X sz)) (gA lay X sz)) 1 10 (gA lay X sz) := by
  refine kb_ofW (cc := cJx4a65c_add_9ea2d) (maxL := 2) (ret := some .boolean) (own := RJx4a65c) (Qc := fun sz => va_Qi (fun x (Y : GY) => x = 1 ∧ ∃ q, Y = (gU lay ke q, adX cy X kl ke (mo + 1) q 10 0 (fun _ => none) v)) (gO D (gA lay X sz)) (gA lay X sz)) (by decide) rfl (Nat.le_of_ble_eq_true rfl) rfl ?_
  intro p e0 s m args below meth c ls hC hr hlocks hname hT hZ hO G hl
  have hl : lv_has ls 2 [(0, .ref (lay kl)), (1, .ref v)] := hl
  have hA : ∀ q, s.heap.size ≤ q → gA lay X s.heap.size q := fun _ h => Or.inr h
  refine lv_aload_n hC.1 hC.2.1 dJx4a65c_add_9ea2d_0 rfl (lv_at hl 0 rfl) ?_
  refine lv_dup hC.1 hC.2.1 dJx4a65c_add_9ea2d_1 rfl ?_
  refine g_getS hC hT.1 G hkl h1 k_AL i_add_L 0 (by decide) (wm 1 rfl) (wm 2 rfl) rfl dJx4a65c_add_9ea2d_2 ?_
  refine lv_iconst (v := 1) hC.1 hC.2.1 dJx4a65c_add_9ea2d_5 (by decide) ?_
  refine lv_iadd hC.1 hC.2.1 dJx4a65c_add_9ea2d_6 ?_
  refine g_putS hC hT.1 G hkl h1 k_AL i_add_L 0 (by decide) (wm 1 rfl) (wm 2 rfl) rfl rfl rfl (by simp) dJx4a65c_add_9ea2d_7 (fun H locs G => ?_)
  have G : gG D lay (gU X kl (some (.inr (4, [.int (mo + 1), .ref ea, .int 0])))) (gA lay X s.heap.size) s.heap H locs := G
  refine lv_aload_n hC.1 hC.2.1 dJx4a65c_add_9ea2d_10 rfl (lv_at hl 0 rfl) ?_
  refine lv_aload_n hC.1 hC.2.1 dJx4a65c_add_9ea2d_11 rfl (lv_at hl 1 rfl) ?_
  refine lv_aload_n hC.1 hC.2.1 dJx4a65c_add_9ea2d_12 rfl (lv_at hl 0 rfl) ?_
  refine g_get hC hT.1 G hkl gU_eq k_AL i_add_L 1 (by decide) (wm 3 rfl) rfl dJx4a65c_add_9ea2d_13 ?_
  refine lv_aload_n hC.1 hC.2.1 dJx4a65c_add_9ea2d_16 rfl (lv_at hl 0 rfl) ?_
  refine g_get hC hT.1 G hkl gU_eq k_AL i_add_L 2 (by decide) (wm 4 rfl) rfl dJx4a65c_add_9ea2d_17 ?_
  refine g_v G hA (kb_runV (As := [.ref v, .ref ea, .int 0]) (rest := []) hC hT hZ hA G (bxO_kept hO G.2.2.2.1 (fun q _ h => gA_in G hA q h)) (c_bd3_0 l D cy lay (gU X kl (some (.inr (4, [.int (mo + 1), .ref ea, .int 0])))) ea mi hkl hke hne gU_eq ((gU_ne (Ne.symm hne)).trans h2) hqn _) (cwV 3 hC.2.2.2.2 gJx4a65c_add_9ea2d_Jx4a65c_add_72be8 rfl rfl rfl hdV_ad3 ⟨Nat.le_of_ble_eq_true rfl, Nat.le_of_ble_eq_true rfl⟩) (h_recv hT G hkl gU_eq k_AL) rfl hl.1 rfl (Nat.le_of_ble_eq_true rfl) dJx4a65c_add_9ea2d_20 ⟨Nat.le_of_ble_eq_true rfl, Nat.le_of_ble_eq_true rfl⟩) (fun Y H locs hY G => ?_)
  obtain ⟨q, rfl⟩ := hY
  have G : gG D (gU lay ke q) (adX cy X kl ke (mo + 1) q 10 0 (fun _ => none) v) (gA lay X s.heap.size) s.heap H locs := by
    have e : adX cy (gU X kl (some (.inr (4, [.int (mo + 1), .ref ea, .int 0])))) kl ke (mo + 1) q 10 0 (fun _ => none) v = adX cy X kl ke (mo + 1) q 10 0 (fun _ => none) v := by
      unfold adX
      exact gU3
    rw [← e]
    exact G
  refine lv_iconst (v := 1) hC.1 hC.2.1 dJx4a65c_add_9ea2d_23 (by decide) ?_
  exact W.zret (v := 1) hC.1 hC.2.1 hr rfl (fun t ht hW => ⟨⟨1, (gU lay ke q, adX cy X kl ke (mo + 1) q 10 0 (fun _ => none) v), rfl, ⟨rfl, q, rfl⟩, by rw [ht]; exact G.1, G.2.1⟩, G.2.2.F ht⟩) G.2.2.2.2 dJx4a65c_add_9ea2d_24 hlocks
/-! add(E): where there is room -/
set_option maxHeartbeats 4000000 in
set_option maxRecDepth 100000 in
theorem c_bdd_A (l : Launch) (D : va_G) (cy : Nat → ClassId) (lay : Nat → Nat) (X : Nat → Option va_E) (ea mi : Nat) {kl ke v qn n cap : Nat} {C : String} {f : Nat → Option Nat} (hkl : kl < 128) (hke : ke < 128) (hne : kl ≠ ke) (hn : n < cap) (hcap : cap < 100) {mo : Int32} (h1 : X kl = some (.inr (4, [.int mo, .ref (lay ke), .int (nI n)]))) (h2 : X ke = some (.inl (cy 7, cap, rfS f))) (hqn : nestR[qn]? = some (.castable C "java/lang/Object")) (sz : Nat) : Met l yJx4a65c_add_9ea2d wsJx4a65c_add_9ea2d rm_add (va_Pc [.ref (lay kl), .ref v] (hKb D cy lay X ea mi v C sz)) (va_Qi (fun x (Y : GY) => x = 1 ∧ Y = (lay, adX cy X kl ke (mo + 1) (lay ke) cap n f v)) (gO D (gA lay X sz)) (gA lay X sz)) 1 10 (gA lay X sz) := by
  refine kb_ofW (cc := cJx4a65c_add_9ea2d) (maxL := 2) (ret := some .boolean) (own := RJx4a65c) (Qc := fun sz => va_Qi (fun x (Y : GY) => x = 1 ∧ Y = (lay, adX cy X kl ke (mo + 1) (lay ke) cap n f v)) (gO D (gA lay X sz)) (gA lay X sz)) (by decide) rfl (Nat.le_of_ble_eq_true rfl) rfl ?_
  intro p e0 s m args below meth c ls hC hr hlocks hname hT hZ hO G hl
  have hl : lv_has ls 2 [(0, .ref (lay kl)), (1, .ref v)] := hl
  have hA : ∀ q, s.heap.size ≤ q → gA lay X s.heap.size q := fun _ h => Or.inr h
  refine lv_aload_n hC.1 hC.2.1 dJx4a65c_add_9ea2d_0 rfl (lv_at hl 0 rfl) ?_
  refine lv_dup hC.1 hC.2.1 dJx4a65c_add_9ea2d_1 rfl ?_
  refine g_getS hC hT.1 G hkl h1 k_AL i_add_L 0 (by decide) (wm 1 rfl) (wm 2 rfl) rfl dJx4a65c_add_9ea2d_2 ?_
  refine lv_iconst (v := 1) hC.1 hC.2.1 dJx4a65c_add_9ea2d_5 (by decide) ?_
  refine lv_iadd hC.1 hC.2.1 dJx4a65c_add_9ea2d_6 ?_
  refine g_putS hC hT.1 G hkl h1 k_AL i_add_L 0 (by decide) (wm 1 rfl) (wm 2 rfl) rfl rfl rfl (by simp) dJx4a65c_add_9ea2d_7 (fun H locs G => ?_)
  have G : gG D lay (gU X kl (some (.inr (4, [.int (mo + 1), .ref (lay ke), .int (nI n)])))) (gA lay X s.heap.size) s.heap H locs := G
  refine lv_aload_n hC.1 hC.2.1 dJx4a65c_add_9ea2d_10 rfl (lv_at hl 0 rfl) ?_
  refine lv_aload_n hC.1 hC.2.1 dJx4a65c_add_9ea2d_11 rfl (lv_at hl 1 rfl) ?_
  refine lv_aload_n hC.1 hC.2.1 dJx4a65c_add_9ea2d_12 rfl (lv_at hl 0 rfl) ?_
  refine g_get hC hT.1 G hkl gU_eq k_AL i_add_L 1 (by decide) (wm 3 rfl) rfl dJx4a65c_add_9ea2d_13 ?_
  refine lv_aload_n hC.1 hC.2.1 dJx4a65c_add_9ea2d_16 rfl (lv_at hl 0 rfl) ?_
  refine g_get hC hT.1 G hkl gU_eq k_AL i_add_L 2 (by decide) (wm 4 rfl) rfl dJx4a65c_add_9ea2d_17 ?_
  refine g_v G hA (kb_runV (As := [.ref v, .ref (lay ke), .int (nI n)]) (rest := []) hC hT hZ hA G (bxO_kept hO G.2.2.2.1 (fun q _ h => gA_in G hA q h)) (c_bd3_A l D cy lay (gU X kl (some (.inr (4, [.int (mo + 1), .ref (lay ke), .int (nI n)])))) ea mi hkl hke hne hn hcap gU_eq ((gU_ne (Ne.symm hne)).trans h2) hqn _) (cwV 3 hC.2.2.2.2 gJx4a65c_add_9ea2d_Jx4a65c_add_72be8 rfl rfl rfl hdV_ad3 ⟨Nat.le_of_ble_eq_true rfl, Nat.le_of_ble_eq_true rfl⟩) (h_recv hT G hkl gU_eq k_AL) rfl hl.1 rfl (Nat.le_of_ble_eq_true rfl) dJx4a65c_add_9ea2d_20 ⟨Nat.le_of_ble_eq_true rfl, Nat.le_of_ble_eq_true rfl⟩) (fun Y H locs hY G => ?_)
  subst hY
  have G : gG D lay (adX cy X kl ke (mo + 1) (lay ke) cap n f v) (gA lay X s.heap.size) s.heap H locs := by
    have e : adX cy (gU X kl (some (.inr (4, [.int (mo + 1), .ref (lay ke), .int (nI n)])))) kl ke (mo + 1) (lay ke) cap n f v = adX cy X kl ke (mo + 1) (lay ke) cap n f v := by
      unfold adX
      exact gU3
    rw [← e]
    exact G
  refine lv_iconst (v := 1) hC.1 hC.2.1 dJx4a65c_add_9ea2d_23 (by decide) ?_
  exact W.zret (v := 1) hC.1 hC.2.1 hr rfl (fun t ht hW => ⟨⟨1, (lay, adX cy X kl ke (mo + 1) (lay ke) cap n f v), rfl, ⟨rfl, rfl⟩, by rw [ht]; exact G.1, G.2.1⟩, G.2.2.F ht⟩) G.2.2.2.2 dJx4a65c_add_9ea2d_24 hlocks
