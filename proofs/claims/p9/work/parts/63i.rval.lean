/-! THE REFERENCE: Integer.valueOf -/
def hVs (ta : Nat) (ad : Nat → Nat) (A : Nat → Prop) (U : State) : Prop :=
  va_Z "java/lang/Integer$IntegerCache" "high" "I" (.int 127) A U U.heap ∧ va_Z "java/lang/Integer$IntegerCache" "cache" "[Ljava/lang/Integer;" (.ref ta) A U U.heap ∧ va_T (.object "java/lang/Integer") ta 256 (fun k => .ref (ad k)) A U U.heap ∧ vb_C ad A U U.heap
def hKv (D : va_G) (cy : Nat → ClassId) (lay : Nat → Nat) (X : Nat → Option va_E) (ta : Nat) (ad : Nat → Nat) (sz : Nat) (U : State) : Prop := hI D cy lay X sz U ∧ hVs ta ad (gA lay X sz) U
theorem hKv_blind {D : va_G} {cy : Nat → ClassId} {lay : Nat → Nat} {X : Nat → Option va_E} {ta : Nat} {ad : Nat → Nat} {sz : Nat} {As : List Value} : FrameBlind (va_Pc As (hKv D cy lay X ta ad sz)) := by
  intro a U g mk h
  obtain ⟨h0, h1, k1, k2, k3, k4⟩ := h
  have := hI_blind (D := D) (cy := cy) (lay := lay) (X := X) (sz := sz) (As := As) a U g mk ⟨h0, h1⟩
  exact ⟨this.1, this.2, va_Z.moved (u := U) (U := U.calling g mk a) (Vm.Alike.refl U.vm) k1, va_Z.moved (u := U) (U := U.calling g mk a) (Vm.Alike.refl U.vm) k2, va_T.moved (u := U) (U := U.calling g mk a) (Vm.Alike.refl U.vm) k3, vb_C.moved (u := U) (U := U.calling g mk a) (Vm.Alike.refl U.vm) k4⟩
section KV
variable {p : Program} {l : Launch} {e : Env} {R : Room} {s : State} {m : MethodId} {args : Array Value} {below : List Frame} {meth : Method} {c : Code} {H : Heap} {locs : List Loc} {cells slots : Nat} {Q : State → Prop}
variable {cc bytes : ByteArray} {pc nL maxL mc ms n index ta : Nat} {ad : Nat → Nat} {ls : Array Slot} {ST rest As : List Value} {D : va_G} {cy : Nat → ClassId} {lay : Nat → Nat} {X : Nat → Option va_E} {A : Nat → Prop} {H0 : Heap} {Ts ws : List Cond} {own Cn C host : String} {y : MethodName} {ret : Option FieldType} {rm : Room} {b : Addr} {tys : List (ClassId × FieldType)}
variable {Qc : Array Value → State → Outcome → State → Prop} {free : Addr → Prop}
theorem kv_ofW {ws' : List Cond} {maxL : Nat} {sz : Nat} {Qc : Nat → Array Value → State → Outcome → State → Prop} (hy : plainName y.cls = true) (hw : ws = Cond.code y cc maxL ret :: ws') (hnl : (lg_sl As).length ≤ maxL) (hoo : y.cls = own)
    (body : ∀ (p : Program) (e : Env) (s : State) (m : MethodId) (args : Array Value) (below : List Frame) (meth : Method) (c : Code) (ls : Array Slot), CallFix p m c cc maxL s args ws own → meth.sig.returnType = ret → meth.locks = false → va_K D vwCl (fdT cy) s ∧ rN s → hVs ta ad (gA lay X s.heap.size) s → gG D lay X (gA lay X s.heap.size) s.heap s.heap [] → lv_has ls maxL (lv_args 0 As) →
      W p l e rm s m args below meth c s.heap [] 0 0 (MQ below (Qc s.heap.size) args s mc ms (gA lay X s.heap.size)) (F0 m 0 ls [])) : Met l y ws rm (va_Pc As (hKv D cy lay X ta ad sz)) (Qc sz) mc ms (gA lay X sz) := by
  refine Met.ofW (cc := cc) (maxL := maxL) (ret := ret) hy hw ?_
  intro p e s m args below meth c s₁ B hml hv
  obtain ⟨rfl, ⟨hsz, hT, hP, hI⟩, hV⟩ := hv
  subst hsz
  have hl := lv_entry As (n := maxL) hnl
  rw [lg_entry_eq]
  have hown : s.vm.findClass y.cls = some m.cls := findClass_of_methodNamed B.named
  rw [hoo] at hown
  exact body p e s m As.toArray below meth c _ ⟨B.exec, B.bytes, hml, hown, atoms_spec (ws := ws) B.pre⟩ B.returns B.notSynchronized hT hV ⟨hP, gI_self hI, va_S.rf⟩ hl
theorem hVs_next {s U : State} {H : Heap} {locs : List Loc} {A B : Nat → Prop} (hV : hVs ta ad A s) (hS : va_S A s.heap H locs) (hB : ∀ q, B q → A q) (hU : U.heap = H) (hW : s.WarmedH U.vm) : hVs ta ad B U := by
  obtain ⟨k1, k2, k3, k4⟩ := hV
  unfold hVs
  rw [hU]
  exact ⟨((k1.moved hW.alike).kept hS.2.1).narrow hB, ((k2.moved hW.alike).kept hS.2.1).narrow hB, ((k3.moved hW.alike).kept hS.2.1).narrow hB, ((k4.moved hW.alike).kept hS.2.1).narrow hB⟩
theorem kv_runS (hC : CallFix p m c cc nL s args Ts own) (hT : va_K D vwCl (fdT cy) s ∧ rN s) (hV : hVs ta ad A s) (hA : ∀ q, s.heap.size ≤ q → A q) (G : gG D lay X A s.heap H locs) (hM : Met l y ws rm (va_Pc As (hKv D cy lay X ta ad H.size)) Qc mc ms free) (cw : CallB R s args own index y bytes maxL ret ws rm mc ms n ∧ (Cond.static y).before args s = true)
    (hn : As.length = n) (hls : ls.size = nL) (hst : ST = As.reverse ++ rest) (hW : (rest.map fun v => v.category).sum ≤ 8) (hdg : decode cc pc = .ok (.invokestatic index, 3)) (hf : cells + mc ≤ R.cells ∧ slots + ms ≤ R.slots) :
    va_Run p l e R s m args below meth c H locs cells slots mc ms (F0 m pc ls ST) rest (Qc As.toArray) free :=
  va_runS hC hM cw ⟨hKv_blind, fun U hU hW => ⟨rfl, hI_next hT G hU hW, hVs_next hV G.2.2 (gA_in G hA) hU hW⟩⟩ rfl hn hls hst (lv_room hW) hdg hf
/-- a made Integer, by what the tables say -/
theorem bx_of {q : Nat} {v : Int32} {B : Nat → Prop} (hC : CallFix p m c cc nL s args Ts own) (hK : va_K D vwCl (fdT cy) s) (hin : ∀ w ∈ u_ws RJ6 TJ6 1, w ∈ Ts) (hat : va_at D vwCl (q, .inr (2, [.int v])) H) (hB : ¬ B q) : va_O RJ6 q B s H ∧ va_OF RJ6 "value" "I" (.int v) q B s H := by
  obtain ⟨r, h1, cell, q1, q2, q3, q4⟩ := hat
  have hr : r = (RJ6, TJ6, 1) := Option.some.inj (h1.symm.trans k_IN.1)
  subst hr
  obtain ⟨hS, hfc, kC, hkC, hkind⟩ := hK.1 2 _ k_IN.1
  obtain ⟨cf, kf, fi, f, hi, hsl⟩ := hS 0 (by decide)
  have hst := (u_facts hfc hkC (u_lays hC.2.2.2.2 hin (show 0 < 1 by decide)) hi).1
  refine ⟨⟨cell, q1, by rw [q3]; rfl, by rw [q2]; exact hfc, hB⟩, ⟨cf, kf, fi, f, cell, hi, hst, q1, (by rw [q3]; exact fun h => (by cases h)), ?_, hB⟩⟩
  rw [hsl, q4 0 (by decide)]
  rfl
theorem gG_drop {k q : Nat} {e1 : Option va_E} (hX : X k = none) (G : gG D (gU lay k q) (gU X k e1) A H0 H locs) : gG D lay X A H0 H locs := by
  have hk : ∀ i f, X i = some f → i ≠ k := fun i f hf z => by rw [z, hX] at hf; cases hf
  refine ⟨fun i f hi hf => ?_, ⟨fun i j a b hi hj ha hb hab => ?_, fun i a hi ha => ?_⟩, G.2.2⟩
  · have := G.1 i f hi ((gU_ne (hk i f hf)).trans hf)
    rw [gU_ne (hk i f hf)] at this
    exact this
  · exact G.2.1.1 i j a b hi hj ((gU_ne (hk i a ha)).trans ha) ((gU_ne (hk j b hb)).trans hb) (by rw [gU_ne (hk i a ha), gU_ne (hk j b hb)]; exact hab)
  · have := G.2.1.2 i a hi ((gU_ne (hk i a ha)).trans ha)
    rw [gU_ne (hk i a ha)] at this
    exact this
/-- .. and lies outside it -/
theorem gG_out {k q : Nat} {e1 : va_E} (hk : k < 128) (hX : X k = none) (G : gG D (gU lay k q) (gU X k (some e1)) A H0 H locs) : ¬ gA lay X H.size q := by
  have hat := G.1 k e1 hk gU_eq
  rw [gU_eq] at hat
  have hlt := hat.lt
  rintro (⟨i, f, hi, hf, z⟩ | h)
  · have hik : i ≠ k := fun z => by rw [z, hX] at hf; cases hf
    exact hik (G.2.1.1 i k f e1 hi hk ((gU_ne hik).trans hf) gU_eq (by rw [gU_ne hik, gU_eq]; exact z.symm))
  · have hlt : q < H.size := hlt
    omega
end KV
abbrev rm_NU : Room := { frames := 1, cells := 0, slots := 0, locals := 16 }
abbrev rm_J6i : Room := { frames := 2, cells := 0, slots := 0, locals := 40 }
abbrev rm_vOf : Room := { frames := 3, cells := 1, slots := 1, locals := 70 }
theorem hdI_NU : yJxd2413_init_da8c8.cls ≠ "java/lang/invoke/MethodHandle" ∧ yJxd2413_init_da8c8.cls ≠ "java/lang/invoke/VarHandle" ∧ (parseMethodDescriptor yJxd2413_init_da8c8.desc).map (fun d => d.parameters.length) = some 0 := by decide +kernel
theorem hdI_J6 : yJ6_init_d00df.cls ≠ "java/lang/invoke/MethodHandle" ∧ yJ6_init_d00df.cls ≠ "java/lang/invoke/VarHandle" ∧ (parseMethodDescriptor yJ6_init_d00df.desc).map (fun d => d.parameters.length) = some 1 := by decide +kernel
theorem hdS_vOf : yJ6_valueOf_2dffe.cls ≠ "java/lang/invoke/MethodHandle" ∧ yJ6_valueOf_2dffe.cls ≠ "java/lang/invoke/VarHandle" ∧ (parseMethodDescriptor yJ6_valueOf_2dffe.desc).map (fun d => d.parameters.length) = some 1 := by decide +kernel
theorem i_J6i : ∀ w ∈ wsJ60, w ∈ wsJ6_init_d00df := fun _ h => List.mem_cons_of_mem _ (List.mem_append_right _ h)
theorem i_vOf : ∀ w ∈ wsJ60, w ∈ wsJ6_valueOf_2dffe := fun _ h => List.mem_cons_of_mem _ (List.mem_append_right _ h)
theorem df_J6 : ∀ j, j < 1 → defaultValue (tyJ6 j) = vp_V [.int 0] j := by decide
set_option maxHeartbeats 4000000 in
set_option maxRecDepth 100000 in
theorem c_NU (l : Launch) (D : va_G) (cy : Nat → ClassId) (lay : Nat → Nat) (X : Nat → Option va_E) {b : Nat} (sz : Nat) : Met l yJxd2413_init_da8c8 wsJxd2413_init_da8c8 rm_NU (va_Pc [.ref b] (hI D cy lay X sz)) (va_Qv (fun Y : GY => Y = (lay, X)) (gO D (gA lay X sz)) (gA lay X sz)) 0 0 (gA lay X sz) := by
  refine h_ofW (cc := cJxd2413_init_da8c8) (maxL := 1) (ret := none) (own := RJxd2413) (Qc := fun sz => (va_Qv (fun Y : GY => Y = (lay, X)) (gO D (gA lay X sz)) (gA lay X sz))) (by decide) rfl (Nat.le_of_ble_eq_true rfl) rfl ?_
  intro p e0 s m args below meth c ls hC hr hlocks hname hT G hl
  have hl : lv_has ls 1 [(0, .ref b)] := hl
  refine lv_aload_n hC.1 hC.2.1 dJxd2413_init_da8c8_0 rfl (lv_at hl 0 rfl) ?_
  refine W.objInit hC.1 hC.2.1 hC.2.2.2.1 (hC.2.2.2.2 _ (wm 1 rfl)) (hC.2.2.2.2 _ (wm 2 rfl)) (hC.2.2.2.2 _ (wm 3 rfl)) rfl (by rw [hC.2.2.1]; exact hl.1) rfl dJxd2413_init_da8c8_1 (Nat.le_of_ble_eq_true rfl) (Nat.le_of_ble_eq_true rfl) ?_
  refine W.eq (g2 := F0 m 4 ls []) rfl ?_
  exact g_vret (Y := (lay, X)) hC hr hlocks G rfl dJxd2413_init_da8c8_4
set_option maxHeartbeats 4000000 in
set_option maxRecDepth 100000 in
theorem c_J6i (l : Launch) (D : va_G) (cy : Nat → ClassId) (lay : Nat → Nat) (X : Nat → Option va_E) {k : Nat} (hk : k < 128) {v v0 : Int32} (hX : X k = some (.inr (2, [.int v0]))) (sz : Nat) : Met l yJ6_init_d00df wsJ6_init_d00df rm_J6i (va_Pc [.ref (lay k), .int v] (hI D cy lay X sz)) (va_Qv (fun Y : GY => Y = (lay, gU X k (some (.inr (2, [.int v]))))) (gO D (gA lay X sz)) (gA lay X sz)) 0 0 (gA lay X sz) := by
  refine h_ofW (cc := cJ6_init_d00df) (maxL := 2) (ret := none) (own := RJ6) (Qc := fun sz => (va_Qv (fun Y : GY => Y = (lay, gU X k (some (.inr (2, [.int v]))))) (gO D (gA lay X sz)) (gA lay X sz))) (by decide) rfl (Nat.le_of_ble_eq_true rfl) rfl ?_
  intro p e0 s m args below meth c ls hC hr hlocks hname hT G hl
  have hl : lv_has ls 2 [(0, .ref (lay k)), (1, .int v)] := hl
  have hA : ∀ q, s.heap.size ≤ q → gA lay X s.heap.size q := fun _ h => Or.inr h
  refine lv_aload_n hC.1 hC.2.1 dJ6_init_d00df_0 rfl (lv_at hl 0 rfl) ?_
  refine g_v G hA (h_runI (b := lay k) (As := []) (rest := []) hC hT G (c_NU l D cy lay X _) ⟨callB_of 0 hC.2.2.2.2 ggJ6_init_d00df_Jxd2413_init_da8c8 rfl rfl rfl (hC.2.2.2.2 (.initialized RJxd2413) (wm 4 rfl)) (hC.2.2.2.2 (.methodLink RJ6 202 yJxd2413_init_da8c8) (wm 2 rfl)) hdI_NU ⟨Nat.le_of_ble_eq_true rfl, Nat.le_of_ble_eq_true rfl⟩, rfl, hC.2.2.2.2 (.instanceMethod yJxd2413_init_da8c8) (wm 3 rfl)⟩ rfl hl.1 rfl (Nat.le_of_ble_eq_true rfl) dJ6_init_d00df_1 ⟨Nat.le_of_ble_eq_true rfl, Nat.le_of_ble_eq_true rfl⟩) (fun Y H locs hY G => ?_)
  subst hY
  have G : gG D lay X (gA lay X s.heap.size) s.heap H locs := G
  refine lv_aload_n hC.1 hC.2.1 dJ6_init_d00df_4 rfl (lv_at hl 0 rfl) ?_
  refine lv_iload_n hC.1 hC.2.1 dJ6_init_d00df_5 rfl (lv_at hl 1 rfl) ?_
  refine g_putFA (a := lay k) rfl hC hT.1 G hk hX k_IN i_J6i 0 (by decide) (wm 1 rfl) rfl hname rfl rfl rfl (by simp) dJ6_init_d00df_6 (fun H locs G => ?_)
  have G : gG D lay (gU X k (some (.inr (2, [.int v])))) (gA lay X s.heap.size) s.heap H locs := G
  exact g_vret (Y := (lay, gU X k (some (.inr (2, [.int v]))))) hC hr hlocks G rfl dJ6_init_d00df_9
/-- an Integer that is made here, or one of the cache -/
def vNew (ad : Nat → Nat) (sz y : Nat) : Prop := sz ≤ y ∨ ∃ k, k < 256 ∧ y = ad k
set_option maxHeartbeats 4000000 in
set_option maxRecDepth 100000 in
theorem c_vOf (l : Launch) (D : va_G) (cy : Nat → ClassId) (lay : Nat → Nat) (X : Nat → Option va_E) (ta : Nat) (ad : Nat → Nat) (hX : X 64 = none) {v : Int32} (sz : Nat) : Met l yJ6_valueOf_2dffe wsJ6_valueOf_2dffe rm_vOf (va_Pc [.int v] (hKv D cy lay X ta ad sz)) (va_Qr (S := Nat) (fun _ => True) (fun y a t => a = y ∧ gO D (gA lay X sz) (lay, X) t ∧ va_O RJ6 y (gA lay X t.heap.size) t t.heap ∧ va_OF RJ6 "value" "I" (.int v) y (gA lay X t.heap.size) t t.heap ∧ vNew ad sz y) (gA lay X sz)) 1 1 (gA lay X sz) := by
  refine kv_ofW (cc := cJ6_valueOf_2dffe) (maxL := 1) (ret := some (.object "java/lang/Integer")) (own := RJ6) (Qc := fun sz => (va_Qr (S := Nat) (fun _ => True) (fun y a t => a = y ∧ gO D (gA lay X sz) (lay, X) t ∧ va_O RJ6 y (gA lay X t.heap.size) t t.heap ∧ va_OF RJ6 "value" "I" (.int v) y (gA lay X t.heap.size) t t.heap ∧ vNew ad sz y) (gA lay X sz))) (by decide) rfl (Nat.le_of_ble_eq_true rfl) rfl ?_
  intro p e0 s m args below meth c ls hC hr hlocks hT hV G hl
  have hl : lv_has ls 1 [(0, .int v)] := hl
  have hA : ∀ q, s.heap.size ≤ q → gA lay X s.heap.size q := fun _ h => Or.inr h
  have made : W p l e0 rm_vOf s m args below meth c s.heap [] 0 0 (MQ below (va_Qr (S := Nat) (fun _ => True) (fun y a t => a = y ∧ gO D (gA lay X s.heap.size) (lay, X) t ∧ va_O RJ6 y (gA lay X t.heap.size) t t.heap ∧ va_OF RJ6 "value" "I" (.int v) y (gA lay X t.heap.size) t t.heap ∧ vNew ad s.heap.size y) (gA lay X s.heap.size)) args s 1 1 (gA lay X s.heap.size)) (F0 m 23 ls []) := by
    refine g_new (k := 64) (fs := [.int 0]) hC hT.1 G hA hX k_IN i_vOf (wm 3 rfl) (wm 4 rfl) (wm 5 rfl) df_J6 (Nat.le_of_ble_eq_true rfl) (Nat.le_of_ble_eq_true rfl) dJ6_valueOf_2dffe_23 (fun q H G => ?_)
    refine lv_dup hC.1 hC.2.1 dJ6_valueOf_2dffe_26 rfl ?_
    refine lv_iload_n hC.1 hC.2.1 dJ6_valueOf_2dffe_27 rfl (lv_at hl 0 rfl) ?_
    refine g_v G hA (h_runI (b := gU lay 64 q 64) (As := [.int v]) (rest := [.ref (gU lay 64 q 64)]) hC hT G (c_J6i l D cy _ _ (k := 64) (by decide) gU_eq _) ⟨callB_of 1 hC.2.2.2.2 ggJ6_valueOf_2dffe_J6_init_d00df rfl rfl rfl (hC.2.2.2.2 (.initialized RJ6) (wm 5 rfl)) (hC.2.2.2.2 (.methodLink RJ6 199 yJ6_init_d00df) (wm 6 rfl)) hdI_J6 ⟨Nat.le_of_ble_eq_true rfl, Nat.le_of_ble_eq_true rfl⟩, rfl, hC.2.2.2.2 (.instanceMethod yJ6_init_d00df) (wm 7 rfl)⟩ rfl hl.1 rfl (Nat.le_of_ble_eq_true rfl) dJ6_valueOf_2dffe_28 ⟨Nat.le_of_ble_eq_true rfl, Nat.le_of_ble_eq_true rfl⟩) (fun Y H locs hY G => ?_)
    subst hY
    have G : gG D (gU lay 64 q) (gU X 64 (some (.inr (2, [.int v])))) (gA lay X s.heap.size) s.heap H locs := gG_up2 G
    have hat := G.1 64 _ (by decide) gU_eq
    rw [show gU lay 64 q 64 = q from gU_eq] at hat ⊢
    have hb := bx_of hC hT.1 i_vOf hat (gG_out (by decide) hX G)
    have hnew : s.heap.size ≤ q := by
      have h1 := G.2.1.2 64 _ (by decide) gU_eq
      rw [show gU lay 64 q 64 = q from gU_eq] at h1
      rcases h1 with h1 | h1
      · exact absurd (Or.inl h1) (gG_out (by decide) hX G)
      · exact h1
    have G2 := gG_drop hX G
    exact W.aret (v := .ref q) hC.1 hC.2.1 hr (Or.inl ⟨_, rfl⟩) (Or.inr ⟨_, rfl⟩) (fun t ht hW => ⟨⟨q, q, rfl, trivial, rfl, ⟨by rw [ht]; exact G2.1, G2.2.1⟩, by rw [ht]; exact va_O.moved hW.alike hb.1, by rw [ht]; exact va_OF.moved hW.alike hb.2, Or.inl hnew⟩, G2.2.2.F ht⟩) G2.2.2.2.2 dJ6_valueOf_2dffe_31 hlocks
  refine lv_iload_n hC.1 hC.2.1 dJ6_valueOf_2dffe_0 rfl (lv_at hl 0 rfl) ?_
  refine lv_bipush (v := -128) hC.1 hC.2.1 dJ6_valueOf_2dffe_1 (by decide) ?_
  refine lv_icmp_lt (tgt := 23) hC.1 hC.2.1 dJ6_valueOf_2dffe_3 (by decide) (fun _ => made) (fun c1 => ?_)
  refine lv_iload_n hC.1 hC.2.1 dJ6_valueOf_2dffe_6 rfl (lv_at hl 0 rfl) ?_
  refine va_gets hC.1 hC.2.1 hV.1 G.2.2 hC.2.2.2.1 (hC.2.2.2.2 _ (wm 1 rfl)) (fun _ h => h) dJ6_valueOf_2dffe_7 ?_
  refine lv_icmp_gt (tgt := 23) hC.1 hC.2.1 dJ6_valueOf_2dffe_10 (by decide) (fun _ => made) (fun c2 => ?_)
  obtain ⟨j, hj, hj1, hj2⟩ := bx_small c1 c2
  refine va_gets hC.1 hC.2.1 hV.2.1 G.2.2 hC.2.2.2.1 (hC.2.2.2.2 _ (wm 2 rfl)) (fun _ h => h) dJ6_valueOf_2dffe_13 ?_
  refine lv_iload_n hC.1 hC.2.1 dJ6_valueOf_2dffe_16 rfl (lv_at hl 0 rfl) ?_
  refine lv_sipush (v := 128) hC.1 hC.2.1 dJ6_valueOf_2dffe_17 (by decide) ?_
  refine lv_iadd hC.1 hC.2.1 dJ6_valueOf_2dffe_20 ?_
  rw [hj1]
  refine vb_tq (v := .ref (ad j)) hC.1 hC.2.1 hV.2.2.1 G.2.2 (vp_in_nI hj (by decide)) (by rw [nI_clamp (by omega)]) dJ6_valueOf_2dffe_21 ?_
  refine W.widen (k := 1) (n := 1) (by decide) (by decide) ?_
  have b1 := hV.2.2.2.1 j hj
  have b2 : va_OF RJ6 "value" "I" (.int v) (ad j) (gA lay X s.heap.size) s s.heap := by
    rw [hj2]
    exact hV.2.2.2.2 j hj
  exact W.aret (v := .ref (ad j)) hC.1 hC.2.1 hr (Or.inl ⟨_, rfl⟩) (Or.inr ⟨_, rfl⟩) (fun t ht hW => ⟨⟨ad j, ad j, rfl, trivial, rfl, ⟨by rw [ht]; exact G.1, G.2.1⟩, by rw [ht]; exact va_O.moved hW.alike b1, by rw [ht]; exact va_OF.moved hW.alike b2, Or.inr ⟨j, hj, rfl⟩⟩, G.2.2.F ht⟩) G.2.2.2.2 dJ6_valueOf_2dffe_22 hlocks
