section
/-! THE REFERENCE: Integer.valueOf -/
def hVs (ta : Nat) (ad : Nat → Nat) (A : Nat → Prop) (U : State) : Prop :=
  va_Z "java/lang/Integer$IntegerCache" "high" "I" (.int 127) A U U.heap ∧ va_Z "java/lang/Integer$IntegerCache" "cache" "[Ljava/lang/Integer;" (.ref ta) A U U.heap ∧ va_T (.object "java/lang/Integer") ta 256 (fun k => .ref (ad k)) A U U.heap ∧ vb_C ad A U U.heap
def hKv (D : va_G) (cy : Nat → ClassId) (lay : Nat → Nat) (X : Nat → Option va_E) (ta : Nat) (ad : Nat → Nat) (sz : Nat) (U : State) : Prop := hI D cy lay X sz U ∧ hVs ta ad (gA lay X sz) U
theorem hKv_blind {D : va_G} {cy : Nat → ClassId} {lay : Nat → Nat} {X : Nat → Option va_E} {ta : Nat} {ad : Nat → Nat} {sz : Nat} {As : List Value} : FrameBlind (va_Pc As (hKv D cy lay X ta ad sz)) := by
  intro a U g mk h
  obtain ⟨h0, h1, k1, k2, k3, k4⟩ := h
  have := hI_blind (D := D) (cy := cy) (lay := lay) (X := X) (sz := sz) (As := As) a U g mk ⟨h0, h1⟩
  exact ⟨this.1, this.2, va_Z.moved (u := U) (U := U.calling g mk a) (Vm.Alike.refl U.vm) k1, va_Z.moved (u := U) (U := U.calling g mk a) (Vm.Alike.refl U.vm) k2, va_T.moved (u := U) (U := U.calling g mk a) (Vm.Alike.refl U.vm) k3, vb_C.moved (u := U) (U := U.calling g mk a) (Vm.Alike.refl U.vm) k4⟩
section KV
variable {p : Program} {l : Launch} {e : Env} {R : Room} {s : State} {m : MethodId} {args : Array Value} {below : List Frame} {meth : Method} {c : Code} {H : Heap} {locs : List Loc} {cells slots : Nat} {Q : State → Prop}
variable {cc bytes : ByteArray} {pc nL maxL mc ms n index ta : Nat} {ad : Nat → Nat} {ls : Array Slot} {ST rest As : List Value} {D : va_G} {cy : Nat → ClassId} {lay : Nat → Nat} {X : Nat → Option va_E} {A : Nat → Prop} {H0 : Heap} {Ts ws : List Cond} {own Cn C host : String} {y : MethodName} {ret : Option FieldType} {rm : Room} {b : Addr} {tys : List (ClassId × FieldType)}
variable {Qc : Array Value → State → Outcome → State → Prop} {free : Addr → Prop}
theorem kv_ofW {ws' : List Cond} {maxL : Nat} {sz : Nat} {Qc : Nat → Array Value → State → Outcome → State → Prop} (hy : plainName y.cls = true) (hw : ws = Cond.code y cc maxL ret :: ws') (hnl : (lg_sl As).length ≤ maxL) (hoo : y.cls = own)
    (body : ∀ (p : Program) (e : Env) (s : State) (m : MethodId) (args : Array Value) (below : List Frame) (meth : Method) (c : Code) (ls : Array Slot), CallFix p m c cc maxL s args ws own → meth.sig.returnType = ret → meth.locks = false → va_K D vwCl (fdT cy) s ∧ rN s → hVs ta ad (gA lay X s.heap.size) s → gG D lay X (gA lay X s.heap.size) s.heap s.heap [] → lv_has ls maxL (lv_args 0 As) →
      W p l e rm s m args below meth c s.heap [] 0 0 (MQ below (Qc s.heap.size) args s mc ms (gA lay X s.heap.size)) (F0 m 0 ls [])) : Met l y ws rm (va_Pc As (hKv D cy lay X ta ad sz)) (Qc sz) mc ms (gA lay X sz) := by
  refine Met.ofW (cc := cc) (maxL := maxL) (ret := ret) hy hw ?_
  intro p e s m args below meth c s₁ B hml hv
  obtain ⟨rfl, ⟨hsz, hT, hP, hI⟩, hV⟩ := hv
  subst hsz
  have hl := lv_entry As (n := maxL) hnl
  rw [lg_entry_eq]
  have hown : s.vm.findClass y.cls = some m.cls := findClass_of_methodNamed B.named
  rw [hoo] at hown
  exact body p e s m As.toArray below meth c _ ⟨B.exec, B.bytes, hml, hown, atoms_spec (ws := ws) B.pre⟩ B.returns B.notSynchronized hT hV ⟨hP, gI_self hI, va_S.rf⟩ hl
theorem hVs_next {s U : State} {H : Heap} {locs : List Loc} {A B : Nat → Prop} (hV : hVs ta ad A s) (hS : va_S A s.heap H locs) (hB : ∀ q, B q → A q) (hU : U.heap = H) (hW : s.WarmedH U.vm) : hVs ta ad B U := by
  obtain ⟨k1, k2, k3, k4⟩ := hV
  unfold hVs
  rw [hU]
  exact ⟨((k1.moved hW.alike).kept hS.2.1).narrow hB, ((k2.moved hW.alike).kept hS.2.1).narrow hB, ((k3.moved hW.alike).kept hS.2.1).narrow hB, ((k4.moved hW.alike).kept hS.2.1).narrow hB⟩
theorem kv_runS (hC : CallFix p m c cc nL s args Ts own) (hT : va_K D vwCl (fdT cy) s ∧ rN s) (hV : hVs ta ad A s) (hA : ∀ q, s.heap.size ≤ q → A q) (G : gG D lay X A s.heap H locs) (hM : Met l y ws rm (va_Pc As (hKv D cy lay X ta ad H.size)) Qc mc ms free) (cw : CallB R s args own index y bytes maxL ret ws rm mc ms n ∧ (Cond.static y).before args s = true)
    (hn : As.length = n) (hls : ls.size = nL) (hst : ST = As.reverse ++ rest) (hW : (rest.map fun v => v.category).sum ≤ 8) (hdg : decode cc pc = .ok (.invokestatic index, 3)) (hf : cells + mc ≤ R.cells ∧ slots + ms ≤ R.slots) :
    va_Run p l e R s m args below meth c H locs cells slots mc ms (F0 m pc ls ST) rest (Qc As.toArray) free :=
  va_runS hC hM cw ⟨hKv_blind, fun U hU hW => ⟨rfl, hI_next hT G hU hW, hVs_next hV G.2.2 (gA_in G hA) hU hW⟩⟩ rfl hn hls hst (lv_room hW) hdg hf
/-- a made Integer, by what the tables say -/
theorem bx_of {q : Nat} {v : Int32} {B : Nat → Prop} (hC : CallFix p m c cc nL s args Ts own) (hK : va_K D vwCl (fdT cy) s) (hin : ∀ w ∈ u_ws RJ6 TJ6 1, w ∈ Ts) (hat : va_at D vwCl (q, .inr (2, [.int v])) H) (hB : ¬ B q) : va_O RJ6 q B s H ∧ va_OF RJ6 "value" "I" (.int v) q B s H := by
  obtain ⟨r, h1, cell, q1, q2, q3, q4⟩ := hat
  have hr : r = (RJ6, TJ6, 1) := Option.some.inj (h1.symm.trans k_IN.1)
  subst hr
  obtain ⟨hS, hfc, kC, hkC, hkind⟩ := hK.1 2 _ k_IN.1
  obtain ⟨cf, kf, fi, f, hi, hsl⟩ := hS 0 (by decide)
  have hst := (u_facts hfc hkC (u_lays hC.2.2.2.2 hin (show 0 < 1 by decide)) hi).1
  refine ⟨⟨cell, q1, by rw [q3]; rfl, by rw [q2]; exact hfc, hB⟩, ⟨cf, kf, fi, f, cell, hi, hst, q1, (by rw [q3]; exact fun h => (by cases h)), ?_, hB⟩⟩
  rw [hsl, q4 0 (by decide)]
  rfl
theorem gG_drop {k q : Nat} {e1 : Option va_E} (hX : X k = none) (G : gG D (gU lay k q) (gU X k e1) A H0 H locs) : gG D lay X A H0 H locs := by
  have hk : ∀ i f, X i = some f → i ≠ k := fun i f hf z => by rw [z, hX] at hf; cases hf
  refine ⟨fun i f hi hf => ?_, ⟨fun i j a b hi hj ha hb hab => ?_, fun i a hi ha => ?_⟩, G.2.2⟩
  · have := G.1 i f hi ((gU_ne (hk i f hf)).trans hf)
    rw [gU_ne (hk i f hf)] at this
    exact this
  · exact G.2.1.1 i j a b hi hj ((gU_ne (hk i a ha)).trans ha) ((gU_ne (hk j b hb)).trans hb) (by rw [gU_ne (hk i a ha), gU_ne (hk j b hb)]; exact hab)
  · have := G.2.1.2 i a hi ((gU_ne (hk i a ha)).trans ha)
    rw [gU_ne (hk i a ha)] at this
    exact this
/-- .. and lies outside it -/
theorem gG_out {k q : Nat} {e1 : va_E} (hk : k < 128) (hX : X k = none) (G : gG D (gU lay k q) (gU X k (some e1)) A H0 H locs) : ¬ gA lay X H.size q := by
  have hat := G.1 k e1 hk gU_eq
  rw [gU_eq] at hat
  have hlt := hat.lt
  rintro (⟨i, f, hi, hf, z⟩ | h)
  · have hik : i ≠ k := fun z => by rw [z, hX] at hf; cases hf
    exact hik (G.2.1.1 i k f e1 hi hk ((gU_ne hik).trans hf) gU_eq (by rw [gU_ne hik, gU_eq]; exact z.symm))
  · have hlt : q < H.size := hlt
    omega
end KV
abbrev rm_NU : Room := { frames := 1, cells := 0, slots := 0, locals := 16 }
abbrev rm_J6i : Room := { frames := 2, cells := 0, slots := 0, locals := 40 }
abbrev rm_vOf : Room := { frames := 3, cells := 1, slots := 1, locals := 70 }
theorem hdI_NU : yJxd2413_init_da8c8.cls ≠ "java/lang/invoke/MethodHandle" ∧ yJxd2413_init_da8c8.cls ≠ "java/lang/invoke/VarHandle" ∧ (parseMethodDescriptor yJxd2413_init_da8c8.desc).map (fun d => d.parameters.length) = some 0 := by decide +kernel
theorem hdI_J6 : yJ6_init_d00df.cls ≠ "java/lang/invoke/MethodHandle" ∧ yJ6_init_d00df.cls ≠ "java/lang/invoke/VarHandle" ∧ (parseMethodDescriptor yJ6_init_d00df.desc).map (fun d => d.parameters.length) = some 1 := by decide +kernel
theorem hdS_vOf : yJ6_valueOf_2dffe.cls ≠ "java/lang/invoke/MethodHandle" ∧ yJ6_valueOf_2dffe.cls ≠ "java/lang/invoke/VarHandle" ∧ (parseMethodDescriptor yJ6_valueOf_2dffe.desc).map (fun d => d.parameters.length) = some 1 := by decide +kernel
theorem i_J6i : ∀ w ∈ wsJ60, w ∈ wsJ6_init_d00df := fun _ h => List.mem_cons_of_mem _ (List.mem_append_right _ h)
theorem i_vOf : ∀ w ∈ wsJ60, w ∈ wsJ6_valueOf_2dffe := fun _ h => List.mem_cons_of_mem _ (List.mem_append_right _ h)
theorem df_J6 : ∀ j, j < 1 → defaultValue (tyJ6 j) = vp_V [.int 0] j := by decide
set_option maxHeartbeats 4000000 in
set_option maxRecDepth 100000 in
theorem c_NU (l : Launch) (D : va_G) (cy : Nat → ClassId) (lay : Nat → Nat) (X : Nat → Option va_E) {b : Nat} (sz : Nat) : Met l yJxd2413_init_da8c8 wsJxd2413_init_da8c8 rm_NU (va_Pc [.ref b] (hI D cy lay X sz)) (va_Qv (fun Y : GY => Y = (lay, X)) (gO D (gA lay X sz)) (gA lay X sz)) 0 0 (gA lay X sz) := by
  refine h_ofW (cc := cJxd2413_init_da8c8) (maxL := 1) (ret := none) (own := RJxd2413) (Qc := fun sz => (va_Qv (fun Y : GY => Y = (lay, X)) (gO D (gA lay X sz)) (gA lay X sz))) (by decide) rfl (Nat.le_of_ble_eq_true rfl) rfl ?_
  intro p e0 s m args below meth c ls hC hr hlocks hname hT G hl
  have hl : lv_has ls 1 [(0, .ref b)] := hl
  refine lv_aload_n hC.1 hC.2.1 dJxd2413_init_da8c8_0 rfl (lv_at hl 0 rfl) ?_
  refine W.objInit hC.1 hC.2.1 hC.2.2.2.1 (hC.2.2.2.2 _ (wm 1 rfl)) (hC.2.2.2.2 _ (wm 2 rfl)) (hC.2.2.2.2 _ (wm 3 rfl)) rfl (by rw [hC.2.2.1]; exact hl.1) rfl dJxd2413_init_da8c8_1 (Nat.le_of_ble_eq_true rfl) (Nat.le_of_ble_eq_true rfl) ?_
  refine W.eq (g2 := F0 m 4 ls []) rfl ?_
  exact g_vret (Y := (lay, X)) hC hr hlocks G rfl dJxd2413_init_da8c8_4
set_option maxHeartbeats 4000000 in
set_option maxRecDepth 100000 in
theorem c_J6i (l : Launch) (D : va_G) (cy : Nat → ClassId) (lay : Nat → Nat) (X : Nat → Option va_E) {k : Nat} (hk : k < 128) {v v0 : Int32} (hX : X k = some (.inr (2, [.int v0]))) (sz : Nat) : Met l yJ6_init_d00df wsJ6_init_d00df rm_J6i (va_Pc [.ref (lay k), .int v] (hI D cy lay X sz)) (va_Qv (fun Y : GY => Y = (lay, gU X k (some (.inr (2, [.int v]))))) (gO D (gA lay X sz)) (gA lay X sz)) 0 0 (gA lay X sz) := by
  refine h_ofW (cc := cJ6_init_d00df) (maxL := 2) (ret := none) (own := RJ6) (Qc := fun sz => (va_Qv (fun Y : GY => Y = (lay, gU X k (some (.inr (2, [.int v]))))) (gO D (gA lay X sz)) (gA lay X sz))) (by decide) rfl (Nat.le_of_ble_eq_true rfl) rfl ?_
  intro p e0 s m args below meth c ls hC hr hlocks hname hT G hl
  have hl : lv_has ls 2 [(0, .ref (lay k)), (1, .int v)] := hl
  have hA : ∀ q, s.heap.size ≤ q → gA lay X s.heap.size q := fun _ h => Or.inr h
  refine lv_aload_n hC.1 hC.2.1 dJ6_init_d00df_0 rfl (lv_at hl 0 rfl) ?_
  refine g_v G hA (h_runI (b := lay k) (As := []) (rest := []) hC hT G (c_NU l D cy lay X _) ⟨callB_of 0 hC.2.2.2.2 ggJ6_init_d00df_Jxd2413_init_da8c8 rfl rfl rfl (hC.2.2.2.2 (.initialized RJxd2413) (wm 4 rfl)) (hC.2.2.2.2 (.methodLink RJ6 202 yJxd2413_init_da8c8) (wm 2 rfl)) hdI_NU ⟨Nat.le_of_ble_eq_true rfl, Nat.le_of_ble_eq_true rfl⟩, rfl, hC.2.2.2.2 (.instanceMethod yJxd2413_init_da8c8) (wm 3 rfl)⟩ rfl hl.1 rfl (Nat.le_of_ble_eq_true rfl) dJ6_init_d00df_1 ⟨Nat.le_of_ble_eq_true rfl, Nat.le_of_ble_eq_true rfl⟩) (fun Y H locs hY G => ?_)
  subst hY
  have G : gG D lay X (gA lay X s.heap.size) s.heap H locs := G
  refine lv_aload_n hC.1 hC.2.1 dJ6_init_d00df_4 rfl (lv_at hl 0 rfl) ?_
  refine lv_iload_n hC.1 hC.2.1 dJ6_init_d00df_5 rfl (lv_at hl 1 rfl) ?_
  refine g_putFA (a := lay k) rfl hC hT.1 G hk hX k_IN i_J6i 0 (by decide) (wm 1 rfl) rfl hname rfl rfl rfl (by simp) dJ6_init_d00df_6 (fun H locs G => ?_)
  have G : gG D lay (gU X k (some (.inr (2, [.int v])))) (gA lay X s.heap.size) s.heap H locs := G
  exact g_vret (Y := (lay, gU X k (some (.inr (2, [.int v]))))) hC hr hlocks G rfl dJ6_init_d00df_9
/-- an Integer that is made here, or one of the cache -/
def vNew (ad : Nat → Nat) (sz y : Nat) : Prop := sz ≤ y ∨ ∃ k, k < 256 ∧ y = ad k
set_option maxHeartbeats 4000000 in
set_option maxRecDepth 100000 in
theorem c_vOf (l : Launch) (D : va_G) (cy : Nat → ClassId) (lay : Nat → Nat) (X : Nat → Option va_E) (ta : Nat) (ad : Nat → Nat) (hX : X 64 = none) {v : Int32} (sz : Nat) : Met l yJ6_valueOf_2dffe wsJ6_valueOf_2dffe rm_vOf (va_Pc [.int v] (hKv D cy lay X ta ad sz)) (va_Qr (S := Nat) (fun _ => True) (fun y a t => a = y ∧ gO D (gA lay X sz) (lay, X) t ∧ va_O RJ6 y (gA lay X t.heap.size) t t.heap ∧ va_OF RJ6 "value" "I" (.int v) y (gA lay X t.heap.size) t t.heap ∧ vNew ad sz y) (gA lay X sz)) 1 1 (gA lay X sz) := by
  refine kv_ofW (cc := cJ6_valueOf_2dffe) (maxL := 1) (ret := some (.object "java/lang/Integer")) (own := RJ6) (Qc := fun sz => (va_Qr (S := Nat) (fun _ => True) (fun y a t => a = y ∧ gO D (gA lay X sz) (lay, X) t ∧ va_O RJ6 y (gA lay X t.heap.size) t t.heap ∧ va_OF RJ6 "value" "I" (.int v) y (gA lay X t.heap.size) t t.heap ∧ vNew ad sz y) (gA lay X sz))) (by decide) rfl (Nat.le_of_ble_eq_true rfl) rfl ?_
  intro p e0 s m args below meth c ls hC hr hlocks hT hV G hl
  have hl : lv_has ls 1 [(0, .int v)] := hl
  have hA : ∀ q, s.heap.size ≤ q → gA lay X s.heap.size q := fun _ h => Or.inr h
  have made : W p l e0 rm_vOf s m args below meth c s.heap [] 0 0 (MQ below (va_Qr (S := Nat) (fun _ => True) (fun y a t => a = y ∧ gO D (gA lay X s.heap.size) (lay, X) t ∧ va_O RJ6 y (gA lay X t.heap.size) t t.heap ∧ va_OF RJ6 "value" "I" (.int v) y (gA lay X t.heap.size) t t.heap ∧ vNew ad s.heap.size y) (gA lay X s.heap.size)) args s 1 1 (gA lay X s.heap.size)) (F0 m 23 ls []) := by
    refine g_new (k := 64) (fs := [.int 0]) hC hT.1 G hA hX k_IN i_vOf (wm 3 rfl) (wm 4 rfl) (wm 5 rfl) df_J6 (Nat.le_of_ble_eq_true rfl) (Nat.le_of_ble_eq_true rfl) dJ6_valueOf_2dffe_23 (fun q H G => ?_)
    refine lv_dup hC.1 hC.2.1 dJ6_valueOf_2dffe_26 rfl ?_
    refine lv_iload_n hC.1 hC.2.1 dJ6_valueOf_2dffe_27 rfl (lv_at hl 0 rfl) ?_
    refine g_v G hA (h_runI (b := gU lay 64 q 64) (As := [.int v]) (rest := [.ref (gU lay 64 q 64)]) hC hT G (c_J6i l D cy _ _ (k := 64) (by decide) gU_eq _) ⟨callB_of 1 hC.2.2.2.2 ggJ6_valueOf_2dffe_J6_init_d00df rfl rfl rfl (hC.2.2.2.2 (.initialized RJ6) (wm 5 rfl)) (hC.2.2.2.2 (.methodLink RJ6 199 yJ6_init_d00df) (wm 6 rfl)) hdI_J6 ⟨Nat.le_of_ble_eq_true rfl, Nat.le_of_ble_eq_true rfl⟩, rfl, hC.2.2.2.2 (.instanceMethod yJ6_init_d00df) (wm 7 rfl)⟩ rfl hl.1 rfl (Nat.le_of_ble_eq_true rfl) dJ6_valueOf_2dffe_28 ⟨Nat.le_of_ble_eq_true rfl, Nat.le_of_ble_eq_true rfl⟩) (fun Y H locs hY G => ?_)
    subst hY
    have G : gG D (gU lay 64 q) (gU X 64 (some (.inr (2, [.int v])))) (gA lay X s.heap.size) s.heap H locs := gG_up2 G
    have hat := G.1 64 _ (by decide) gU_eq
    rw [show gU lay 64 q 64 = q from gU_eq] at hat ⊢
    have hb := bx_of hC hT.1 i_vOf hat (gG_out (by decide) hX G)
    have hnew : s.heap.size ≤ q := by
      have h1 := G.2.1.2 64 _ (by decide) gU_eq
      rw [show gU lay 64 q 64 = q from gU_eq] at h1
      rcases h1 with h1 | h1
      · exact absurd (Or.inl h1) (gG_out (by decide) hX G)
      · exact h1
    have G2 := gG_drop hX G
    exact W.aret (v := .ref q) hC.1 hC.2.1 hr (Or.inl ⟨_, rfl⟩) (Or.inr ⟨_, rfl⟩) (fun t ht hW => ⟨⟨q, q, rfl, trivial, rfl, ⟨by rw [ht]; exact G2.1, G2.2.1⟩, by rw [ht]; exact va_O.moved hW.alike hb.1, by rw [ht]; exact va_OF.moved hW.alike hb.2, Or.inl hnew⟩, G2.2.2.F ht⟩) G2.2.2.2.2 dJ6_valueOf_2dffe_31 hlocks
  refine lv_iload_n hC.1 hC.2.1 dJ6_valueOf_2dffe_0 rfl (lv_at hl 0 rfl) ?_
  refine lv_bipush (v := -128) hC.1 hC.2.1 dJ6_valueOf_2dffe_1 (by decide) ?_
  refine lv_icmp_lt (tgt := 23) hC.1 hC.2.1 dJ6_valueOf_2dffe_3 (by decide) (fun _ => made) (fun c1 => ?_)
  refine lv_iload_n hC.1 hC.2.1 dJ6_valueOf_2dffe_6 rfl (lv_at hl 0 rfl) ?_
  refine va_gets hC.1 hC.2.1 hV.1 G.2.2 hC.2.2.2.1 (hC.2.2.2.2 _ (wm 1 rfl)) (fun _ h => h) dJ6_valueOf_2dffe_7 ?_
  refine lv_icmp_gt (tgt := 23) hC.1 hC.2.1 dJ6_valueOf_2dffe_10 (by decide) (fun _ => made) (fun c2 => ?_)
  obtain ⟨j, hj, hj1, hj2⟩ := bx_small c1 c2
  refine va_gets hC.1 hC.2.1 hV.2.1 G.2.2 hC.2.2.2.1 (hC.2.2.2.2 _ (wm 2 rfl)) (fun _ h => h) dJ6_valueOf_2dffe_13 ?_
  refine lv_iload_n hC.1 hC.2.1 dJ6_valueOf_2dffe_16 rfl (lv_at hl 0 rfl) ?_
  refine lv_sipush (v := 128) hC.1 hC.2.1 dJ6_valueOf_2dffe_17 (by decide) ?_
  refine lv_iadd hC.1 hC.2.1 dJ6_valueOf_2dffe_20 ?_
  rw [hj1]
  refine vb_tq (v := .ref (ad j)) hC.1 hC.2.1 hV.2.2.1 G.2.2 (vp_in_nI hj (by decide)) (by rw [nI_clamp (by omega)]) dJ6_valueOf_2dffe_21 ?_
  refine W.widen (k := 1) (n := 1) (by decide) (by decide) ?_
  have b1 := hV.2.2.2.1 j hj
  have b2 : va_OF RJ6 "value" "I" (.int v) (ad j) (gA lay X s.heap.size) s s.heap := by
    rw [hj2]
    exact hV.2.2.2.2 j hj
  exact W.aret (v := .ref (ad j)) hC.1 hC.2.1 hr (Or.inl ⟨_, rfl⟩) (Or.inr ⟨_, rfl⟩) (fun t ht hW => ⟨⟨ad j, ad j, rfl, trivial, rfl, ⟨by rw [ht]; exact G.1, G.2.1⟩, by rw [ht]; exact va_O.moved hW.alike b1, by rw [ht]; exact va_OF.moved hW.alike b2, Or.inr ⟨j, hj, rfl⟩⟩, G.2.2.F ht⟩) G.2.2.2.2 dJ6_valueOf_2dffe_22 hlocks
end
section
/-! THE REFERENCE: band -/
def rbS (σ : MS) (n : Nat) : MS := fun k j => if k = 2 then (if j = 0 then σ 2 0 + 1 else if j = 2 then nI (n + 1) else σ 2 j) else σ k j
def rIV (D : va_G) (cy : Nat → ClassId) (lay : Nat → Nat) (Γ : RG) (σ : MS) (mi ta : Nat) (ad : Nat → Nat) (sz : Nat) (U : State) : Prop := rIK D cy lay Γ σ mi sz U ∧ hVs ta ad (rA cy lay Γ sz) U
theorem rIV_blind {D : va_G} {cy : Nat → ClassId} {lay : Nat → Nat} {Γ : RG} {σ : MS} {mi ta : Nat} {ad : Nat → Nat} {sz : Nat} {As : List Value} : FrameBlind (va_Pc As (rIV D cy lay Γ σ mi ta ad sz)) := by
  intro a U g mk h
  obtain ⟨h0, h1, k1, k2, k3, k4⟩ := h
  have := rIK_blind (D := D) (cy := cy) (lay := lay) (Γ := Γ) (σ := σ) (mi := mi) (sz := sz) (As := As) a U g mk ⟨h0, h1⟩
  exact ⟨this.1, this.2, va_Z.moved (u := U) (U := U.calling g mk a) (Vm.Alike.refl U.vm) k1, va_Z.moved (u := U) (U := U.calling g mk a) (Vm.Alike.refl U.vm) k2, va_T.moved (u := U) (U := U.calling g mk a) (Vm.Alike.refl U.vm) k3, vb_C.moved (u := U) (U := U.calling g mk a) (Vm.Alike.refl U.vm) k4⟩
section ADDB
variable {cy : Nat → ClassId} {lay lay' : Nat → Nat} {Γ : RG} {σ : MS}
theorem r_no_eb (h : Γ.2.1 = 0) : rX cy lay Γ tn σ 5 = none := if_pos h
theorem r_ebb (h : Γ.2.1 ≠ 0) : rX cy lay Γ tn σ 5 = some (.inl (cy 7, 10, rfS fun i => if i < Γ.2.1 then some (Γ.2.2.2.2.1 i) else none)) := if_neg h
theorem rbS_ne {k n : Nat} (h1 : k ≠ 2) : rbS σ n k = σ k := by
  funext j
  unfold rbS
  rw [if_neg h1]
theorem r_addb (hl : ∀ k, k ≠ 5 → lay' k = lay k) {o y : Nat} {a1 : Int32} {f' : Nat → Option Nat} (h4 : lay' 5 = o) (hf : f' = fun i => if i < Γ.2.1 + 1 then some (va_up Γ.2.2.2.2.1 Γ.2.1 y i) else none) (k : Nat) :
    gU (gU (rX cy lay Γ tn σ) 5 (some (.inl (cy 7, 10, rfS f')))) 2 (some (.inr (4, [.int (σ 2 0 + 1), .ref o, .int (nI (Γ.2.1 + 1))]))) k = rX cy lay' (Γ.1, Γ.2.1 + 1, Γ.2.2.1, Γ.2.2.2.1, va_up Γ.2.2.2.2.1 Γ.2.1 y, va_up Γ.2.2.2.2.2 Γ.2.1 a1) tn (rbS σ Γ.2.1) k := by
  by_cases c2 : k = 2
  · subst c2
    rw [gU_eq, r_lb]
    simp [rbS, h4]
  rw [gU_ne c2]
  by_cases c5 : k = 5
  · subst c5
    rw [gU_eq, r_ebb (Nat.succ_ne_zero _), hf]
  rw [gU_ne c5]
  have hs : rbS σ Γ.2.1 k = σ k := rbS_ne c2
  have el : ∀ i, 5 < i → lay' i = lay i := fun i hi => hl i (by omega)
  unfold rX
  rw [hs]
  by_cases c0 : k = 0
  · subst c0
    rw [if_pos rfl, if_pos rfl]
    have hm : Lmo lay' (rbS σ Γ.2.1 0) = Lmo lay (σ 0) := by
      rw [rbS_ne (by omega)]
      show [_, _, _, _, _, _, _, _, _, _, _, _, _] = _
      rw [hl 1 (by omega), hl 2 (by omega), hl 3 (by omega), hl 7 (by omega), hl 8 (by omega), hl 9 (by omega), hl 10 (by omega), hl 11 (by omega), hl 12 (by omega)]
    rw [hm]
  rw [if_neg c0, if_neg c0]
  by_cases c1 : k = 1
  · subst c1
    rw [if_pos rfl, if_pos rfl, rbS_ne (by omega)]
    unfold rL
    rw [hl 4 (by omega)]
  rw [if_neg c1, if_neg c1, if_neg c2, if_neg c2]
  by_cases c3 : k = 3
  · subst c3
    rw [if_pos rfl, if_pos rfl, rbS_ne (by omega)]
    unfold rL
    rw [hl 6 (by omega)]
  rw [if_neg c3, if_neg c3]
  have e1 : (fun i => if i < Γ.1 then some (lay' (13 + i)) else none) = fun i => if i < Γ.1 then some (lay (13 + i)) else none := by
    funext i
    rw [el (13 + i) (by omega)]
  have e2 : (fun i => if i < Γ.2.2.1 then some (lay' (33 + i)) else none) = fun i => if i < Γ.2.2.1 then some (lay (33 + i)) else none := by
    funext i
    rw [el (33 + i) (by omega)]
  rw [e1, e2, if_neg c5, if_neg c5, el (23 + (k - 13)) (by omega)]
  rfl
end ADDB
section KBD
variable {p : Program} {l : Launch} {e : Env} {R : Room} {s : State} {m : MethodId} {args : Array Value} {below : List Frame} {meth : Method} {c : Code} {H : Heap} {locs : List Loc} {cells slots : Nat} {Q : State → Prop}
variable {cc bytes : ByteArray} {pc nL maxL mc ms n index ea mi ta : Nat} {ad : Nat → Nat} {ls : Array Slot} {ST rest As : List Value} {D : va_G} {cy : Nat → ClassId} {lay lay' : Nat → Nat} {X : Nat → Option va_E} {A : Nat → Prop} {H0 : Heap} {Ts ws : List Cond} {own Cn host : String} {y : MethodName} {ret : Option FieldType} {rm : Room} {b : Addr} {Γ Γ' : RG} {σ σ' : MS}
variable {Qc : Array Value → State → Outcome → State → Prop} {free : Addr → Prop}
theorem rv_ofW {ws' : List Cond} {maxL mi : Nat} {sz : Nat} {Qc : Nat → Array Value → State → Outcome → State → Prop} (hy : plainName y.cls = true) (hw : ws = Cond.code y cc maxL ret :: ws') (hnl : (lg_sl As).length ≤ maxL) (hoo : y.cls = own)
    (body : ∀ (p : Program) (e : Env) (s : State) (m : MethodId) (args : Array Value) (below : List Frame) (meth : Method) (c : Code) (ls : Array Slot), CallFix p m c cc maxL s args ws own → meth.sig.returnType = ret → meth.locks = false → rT D cy lay Γ s → hZs D cy Γ.2.2.2.1 mi (rA cy lay Γ s.heap.size) s → hVs ta ad (rA cy lay Γ s.heap.size) s → rG D cy lay Γ tn σ (rA cy lay Γ s.heap.size) s.heap s.heap [] → lv_has ls maxL (lv_args 0 As) →
      W p l e rm s m args below meth c s.heap [] 0 0 (MQ below (Qc s.heap.size) args s mc ms (rA cy lay Γ s.heap.size)) (F0 m 0 ls [])) : Met l y ws rm (va_Pc As (rIV D cy lay Γ σ mi ta ad sz)) (Qc sz) mc ms (rA cy lay Γ sz) := by
  refine Met.ofW (cc := cc) (maxL := maxL) (ret := ret) hy hw ?_
  intro p e s m args below meth c s₁ B hml hv
  obtain ⟨rfl, ⟨⟨hsz, hT, hP, hD⟩, hZ⟩, hV⟩ := hv
  subst hsz
  have hl := lv_entry As (n := maxL) hnl
  rw [lg_entry_eq]
  have hown : s.vm.findClass y.cls = some m.cls := findClass_of_methodNamed B.named
  rw [hoo] at hown
  exact body p e s m As.toArray below meth c _ ⟨B.exec, B.bytes, hml, hown, atoms_spec (ws := ws) B.pre⟩ B.returns B.notSynchronized hT hZ hV ⟨hP, rI_of hD, va_S.rf⟩ hl
/-- g_i, with what stayed -/
theorem g_ik {post : Int32 → GY → Prop} {a : Array Value} (G : gG D lay X A H0 H locs) (hA : ∀ q, H0.size ≤ q → A q) (hr : va_Run p l e R s m args below meth c H locs cells slots mc ms (F0 m pc ls ST) rest (va_Qi post (gO D (gA lay X H.size)) (gA lay X H.size) a) (gA lay X H.size))
    (kk : ∀ (r : Int32) (Y : GY) (H1 : Heap) (locs1 : List Loc), post r Y → gG D Y.1 Y.2 A H0 H1 locs1 → H.size ≤ H1.size → (∀ q : Nat, q < H.size → ¬ gA lay X H.size q → H1[q]? = H[q]?) → gI (gA lay X H.size) Y.1 Y.2 → W p l e R s m args below meth c H1 locs1 (cells + mc) (slots + ms) Q (F0 m (pc + 3) ls (.int r :: rest))) : W p l e R s m args below meth c H locs cells slots Q (F0 m pc ls ST) :=
  va_calli hr G.2.2 (fun q _ h => gA_in G hA q h) (gA_in G hA) (fun r u t H1 locs1 ht hvm hw hB hz hk hS => kk r u H1 locs1 hw ⟨by rw [← ht]; exact hB.1, gI_weak hB.2 (gA_in G hA), hS⟩ hz hk hB.2)
/-- behind valueOf -/
theorem g_vOf {ad : Nat → Nat} {v : Int32} {a : Array Value} (G : gG D lay X A H0 H locs) (hA : ∀ q, H0.size ≤ q → A q) (hr : va_Run p l e R s m args below meth c H locs cells slots mc ms (F0 m pc ls ST) rest (va_Qr (S := Nat) (fun _ => True) (fun y a t => a = y ∧ gO D (gA lay X H.size) (lay, X) t ∧ va_O RJ6 y (gA lay X t.heap.size) t t.heap ∧ va_OF RJ6 "value" "I" (.int v) y (gA lay X t.heap.size) t t.heap ∧ vNew ad H.size y) (gA lay X H.size) a) (gA lay X H.size))
    (kk : ∀ (y : Nat) (H1 : Heap) (locs1 : List Loc), gG D lay X A H0 H1 locs1 → va_O RJ6 y (gA lay X H1.size) s H1 → va_OF RJ6 "value" "I" (.int v) y (gA lay X H1.size) s H1 → vNew ad H.size y → W p l e R s m args below meth c H1 locs1 (cells + mc) (slots + ms) Q (F0 m (pc + 3) ls (.ref y :: rest))) : W p l e R s m args below meth c H locs cells slots Q (F0 m pc ls ST) :=
  va_callr hr G.2.2 (fun q _ h => gA_in G hA q h) (gA_in G hA) (fun u ra t H1 locs1 ht hvm hw hB hz hk hS => by
    obtain ⟨e1, hO, b1, b2, b3⟩ := hB
    subst e1
    subst ht
    exact kk _ _ locs1 ⟨hO.1, gI_weak hO.2 (gA_in G hA), hS⟩ (va_O.moved hvm.symm b1) (va_OF.moved hvm.symm b2) b3)
/-- a world that grew, and where its Integers come from -/
def rOv (D : va_G) (cy : Nat → ClassId) (lay : Nat → Nat) (Γ : RG) (ad : Nat → Nat) (sz : Nat) (Y : RY) (t : State) : Prop := rOn D cy (rA cy lay Γ sz) Y t ∧ (∀ i, i < Y.2.1.2.1 → (i < Γ.2.1 ∧ Y.2.1.2.2.2.2.1 i = Γ.2.2.2.2.1 i) ∨ vNew ad sz (Y.2.1.2.2.2.2.1 i)) ∧ Y.1 0 = lay 0
theorem rk_iretv {ad : Nat → Nat} {post : Int32 → RY → Prop} {v : Int32} {Y : RY} {locs : List Loc} (hz : Y.1 0 = lay 0) (hC : CallFix p m c cc nL s args Ts own) (hr : meth.sig.returnType = some .int) (hlocks : meth.locks = false) (G : gG D Y.1 (rX cy Y.1 Y.2.1 tn Y.2.2) (rA cy lay Γ s.heap.size) s.heap H locs) (hS : rS D cy Y.2.1 (rA cy Y.1 Y.2.1 H.size) s H) (hB : rB Y.2.1) (hV : ∀ i, i < Y.2.1.2.1 → (i < Γ.2.1 ∧ Y.2.1.2.2.2.2.1 i = Γ.2.2.2.2.1 i) ∨ vNew ad s.heap.size (Y.2.1.2.2.2.2.1 i)) (h : post v Y) (hdg : decode cc pc = .ok (.ireturn, 1)) :
    W p l e R s m args below meth c H locs cells slots (MQ below (va_Qi post (rOv D cy lay Γ ad s.heap.size) (rA cy lay Γ s.heap.size)) args s cells slots (rA cy lay Γ s.heap.size)) (F0 m pc ls [.int v]) :=
  W.iret hC.1 hC.2.1 hr (fun t ht hW => ⟨⟨v, Y, rfl, h, ⟨by rw [ht]; exact G.1, G.2.1, by rw [ht]; exact rS_moved hW.alike hS, hB⟩, hV, hz⟩, G.2.2.F ht⟩) G.2.2.2.2 hdg hlocks
theorem rS_addb {y : Nat} {a1 : Int32} (h : rS D cy Γ (rA cy lay Γ s.heap.size) s s.heap) (G : gG D lay' (rX cy lay' (Γ.1, Γ.2.1 + 1, Γ.2.2.1, Γ.2.2.2.1, va_up Γ.2.2.2.2.1 Γ.2.1 y, va_up Γ.2.2.2.2.2 Γ.2.1 a1) tn σ') (rA cy lay Γ s.heap.size) s.heap H locs) (b1 : va_O RJ6 y (rA cy lay' (Γ.1, Γ.2.1 + 1, Γ.2.2.1, Γ.2.2.2.1, va_up Γ.2.2.2.2.1 Γ.2.1 y, va_up Γ.2.2.2.2.2 Γ.2.1 a1) H.size) s H) (b2 : va_OF RJ6 "value" "I" (.int a1) y (rA cy lay' (Γ.1, Γ.2.1 + 1, Γ.2.2.1, Γ.2.2.2.1, va_up Γ.2.2.2.2.1 Γ.2.1 y, va_up Γ.2.2.2.2.2 Γ.2.1 a1) H.size) s H) : rS D cy (Γ.1, Γ.2.1 + 1, Γ.2.2.1, Γ.2.2.2.1, va_up Γ.2.2.2.2.1 Γ.2.1 y, va_up Γ.2.2.2.2.2 Γ.2.1 a1) (rA cy lay' (Γ.1, Γ.2.1 + 1, Γ.2.2.1, Γ.2.2.2.1, va_up Γ.2.2.2.2.1 Γ.2.1 y, va_up Γ.2.2.2.2.2 Γ.2.1 a1) H.size) s H := by
  have hk := rS_kept (B := rA cy lay' (Γ.1, Γ.2.1 + 1, Γ.2.2.1, Γ.2.2.2.1, va_up Γ.2.2.2.2.1 Γ.2.1 y, va_up Γ.2.2.2.2.2 Γ.2.1 a1) H.size) h G.2.2.2.1 (fun q hq hB => by
    rcases hB with ⟨k, hk, hX, rfl⟩ | hB
    · rw [r_some (lay' := lay') (tm' := tn) (σ' := σ') hk] at hX
      cases hx : rX cy lay' (Γ.1, Γ.2.1 + 1, Γ.2.2.1, Γ.2.2.2.1, va_up Γ.2.2.2.2.1 Γ.2.1 y, va_up Γ.2.2.2.2.2 Γ.2.1 a1) tn σ' k with
      | none => rw [hx] at hX; cases hX
      | some e => exact G.2.1.2 k e (by omega) hx
    · exact absurd (Nat.le_trans G.2.2.1 hB) (by omega))
  refine ⟨hk.1, fun i hi => ?_⟩
  show va_O RJ6 (va_up Γ.2.2.2.2.1 Γ.2.1 y i) _ _ _ ∧ va_OF RJ6 "value" "I" (.int (va_up Γ.2.2.2.2.2 Γ.2.1 a1 i)) (va_up Γ.2.2.2.2.1 Γ.2.1 y i) _ _ _
  have hi : i < Γ.2.1 + 1 := hi
  by_cases hin : i = Γ.2.1
  · rw [hin, va_up_self, va_up_self]
    exact ⟨b1, b2⟩
  · rw [va_up_ne _ _ hin, va_up_ne _ _ hin]
    exact hk.2 i (by omega)
end KBD
abbrev rm_X11_band : Room := { frames := 5, cells := 2, slots := 11, locals := 220 }
theorem i_X11_band_X11 : ∀ w ∈ wsX110, w ∈ wsX11_band := fun _ h => List.mem_cons_of_mem _ (List.mem_append_left _ (List.mem_append_left _ (List.mem_append_right _ h)))
def w_X11_band (lay : Nat → Nat) (Γ : RG) (post : Int32 → RY → Prop) (σ : MS) (a1 : Int32) : Prop :=
  w_X11_is Γ (fun r σ1 => (r = 0 → w_X11_refuse Γ (fun x σ9 => post x (lay, Γ, σ9)) σ1 1) ∧ (¬ r = 0 → w_X11_needed_ Γ (fun r σ2 => (¬ r ≤ 5 → w_X11_refuse Γ (fun x σ9 => post x (lay, Γ, σ9)) σ2 1) ∧ (r ≤ 5 → w_lb_Jx4a65c_size_8abf5 Γ (fun r σ3 => (r = 6 → w_X11_refuse Γ (fun x σ9 => post x (lay, Γ, σ9)) σ3 2) ∧ (¬ r = 6 → Γ.2.1 < 6 ∧ σ3 2 2 = nI Γ.2.1 ∧ ∀ lay' y, post (nI Γ.2.1) (lay', (Γ.1, Γ.2.1 + 1, Γ.2.2.1, Γ.2.2.2.1, va_up Γ.2.2.2.2.1 Γ.2.1 y, va_up Γ.2.2.2.2.2 Γ.2.1 a1), rbS σ3 Γ.2.1))) σ2)) σ1 a1)) (up2 σ 0 0 0) a1 1 728
set_option maxHeartbeats 4000000 in
set_option maxRecDepth 100000 in
theorem c_X11_band (l : Launch) (D : va_G) (cy : Nat → ClassId) (lay : Nat → Nat) (Γ : RG) (mi ta : Nat) (ad : Nat → Nat) {σ : MS} {post : Int32 → RY → Prop} {a1 : Int32} (h : w_X11_band lay Γ post σ a1) (sz : Nat) : Met l yX11_band wsX11_band rm_X11_band (va_Pc [.ref (lay 0), .int a1] (rIV D cy lay Γ σ mi ta ad sz)) (va_Qi post (rOv D cy lay Γ ad sz) (rA cy lay Γ sz)) 2 11 (rA cy lay Γ sz) := by
  refine rv_ofW (cc := cX11_band) (maxL := 2) (ret := some .int) (own := RX11) (Qc := fun sz => va_Qi post (rOv D cy lay Γ ad sz) (rA cy lay Γ sz)) (by decide) rfl (Nat.le_of_ble_eq_true rfl) rfl ?_
  intro p e0 s m args below meth c ls hC hr hlocks hT hZ hV G hl
  unfold w_X11_band at h
  have hl : lv_has ls 2 [(0, .ref (lay 0)), (1, .int a1)] := hl
  have hA : ∀ q, s.heap.size ≤ q → rA cy lay Γ s.heap.size q := fun _ h => Or.inr h
  refine lv_aload_n hC.1 hC.2.1 dX11_band_0 rfl (lv_at hl 0 rfl) ?_
  refine lv_iconst (v := 0) hC.1 hC.2.1 dX11_band_1 (by decide) ?_
  refine rg_put hC hT G (by decide) r_mo k_X11 i_X11_band_X11 0 (by decide) (wm 1 rfl) rfl rfl (by simp) r_mo (by rw [up2_eq]; rfl) dX11_band_2 (fun H locs G => ?_)
  refine lv_iload_n hC.1 hC.2.1 dX11_band_5 rfl (lv_at hl 1 rfl) ?_
  refine lv_iconst (v := 1) hC.1 hC.2.1 dX11_band_6 (by decide) ?_
  refine lv_sipush (v := 728) hC.1 hC.2.1 dX11_band_7 (by decide) ?_
  refine rg_i G (rg_runS (As := [.int a1, .int 1, .int 728]) (rest := []) hC hT G (c_X11_is l D cy lay Γ h _) (va_cwS 3 hC.2.2.2.2 gX11_band_X11_is rfl rfl rfl hdS_X11_is ⟨Nat.le_of_ble_eq_true rfl, Nat.le_of_ble_eq_true rfl⟩) rfl hl.1 rfl (Nat.le_of_ble_eq_true rfl) dX11_band_10 ⟨Nat.le_of_ble_eq_true rfl, Nat.le_of_ble_eq_true rfl⟩) (fun r1 σ1 H locs h G => ?_)
  (try dsimp only at h)
  refine lv_if_eq (tgt := 24) hC.1 hC.2.1 dX11_band_13 (by decide) (fun c1 => ?_) (fun c1 => ?_)
  · replace h := h.1 c1
    refine lv_aload_n hC.1 hC.2.1 dX11_band_24 rfl (lv_at hl 0 rfl) ?_
    refine lv_iconst (v := 1) hC.1 hC.2.1 dX11_band_25 (by decide) ?_
    refine rg_i G (rg_runV (As := [.int 1]) (rest := []) hC hT G (c_X11_refuse l D cy lay Γ h _) (cwV 1 hC.2.2.2.2 gX11_band_X11_refuse rfl rfl rfl hdV_X11_refuse ⟨Nat.le_of_ble_eq_true rfl, Nat.le_of_ble_eq_true rfl⟩) (rg_recv hT G (by decide) r_mo k_X11) rfl hl.1 rfl (Nat.le_of_ble_eq_true rfl) dX11_band_26 ⟨Nat.le_of_ble_eq_true rfl, Nat.le_of_ble_eq_true rfl⟩) (fun r9 σ9 H locs h G => ?_)
    refine W.widen (k := 2) (n := 11) (by decide) (by decide) ?_
    exact rk_iretv rfl (Y := (lay, Γ, σ9)) hC hr hlocks G (rS_grow hT.2.2.1 G rfl rfl) hT.2.2.2 (fun i hi => Or.inl ⟨hi, rfl⟩) h dX11_band_29
  replace h := h.2 c1
  refine lv_iload_n hC.1 hC.2.1 dX11_band_16 rfl (lv_at hl 1 rfl) ?_
  refine rg_i G (rg_runS (As := [.int a1]) (rest := []) hC hT G (c_X11_needed_ l D cy lay Γ h _) (va_cwS 1 hC.2.2.2.2 gX11_band_X11_needed_ rfl rfl rfl hdS_X11_needed_ ⟨Nat.le_of_ble_eq_true rfl, Nat.le_of_ble_eq_true rfl⟩) rfl hl.1 rfl (Nat.le_of_ble_eq_true rfl) dX11_band_17 ⟨Nat.le_of_ble_eq_true rfl, Nat.le_of_ble_eq_true rfl⟩) (fun r2 σ2 H locs h G => ?_)
  (try dsimp only at h)
  refine lv_iconst (v := 5) hC.1 hC.2.1 dX11_band_20 (by decide) ?_
  refine lv_icmp_le (tgt := 30) hC.1 hC.2.1 dX11_band_21 (by decide) (fun c2 => ?_) (fun c2 => ?_)
  rotate_left
  · replace h := h.1 c2
    refine lv_aload_n hC.1 hC.2.1 dX11_band_24 rfl (lv_at hl 0 rfl) ?_
    refine lv_iconst (v := 1) hC.1 hC.2.1 dX11_band_25 (by decide) ?_
    refine rg_i G (rg_runV (As := [.int 1]) (rest := []) hC hT G (c_X11_refuse l D cy lay Γ h _) (cwV 1 hC.2.2.2.2 gX11_band_X11_refuse rfl rfl rfl hdV_X11_refuse ⟨Nat.le_of_ble_eq_true rfl, Nat.le_of_ble_eq_true rfl⟩) (rg_recv hT G (by decide) r_mo k_X11) rfl hl.1 rfl (Nat.le_of_ble_eq_true rfl) dX11_band_26 ⟨Nat.le_of_ble_eq_true rfl, Nat.le_of_ble_eq_true rfl⟩) (fun r9 σ9 H locs h G => ?_)
    refine W.widen (k := 2) (n := 11) (by decide) (by decide) ?_
    exact rk_iretv rfl (Y := (lay, Γ, σ9)) hC hr hlocks G (rS_grow hT.2.2.1 G rfl rfl) hT.2.2.2 (fun i hi => Or.inl ⟨hi, rfl⟩) h dX11_band_29
  replace h := h.2 c2
  refine lv_aload_n hC.1 hC.2.1 dX11_band_30 rfl (lv_at hl 0 rfl) ?_
  refine rg_get hC hT G (by decide) r_mo k_X11 i_X11_band_X11 4 (by decide) (wm 2 rfl) rfl dX11_band_31 ?_
  refine rg_i G (rg_runV (As := []) (rest := []) hC hT G (c_lb_Jx4a65c_size_8abf5 l D cy lay Γ h _) (cwV 0 hC.2.2.2.2 gX11_band_Jx4a65c_size_8abf5 rfl rfl rfl hdV_Jx4a65c_size_8abf5 ⟨Nat.le_of_ble_eq_true rfl, Nat.le_of_ble_eq_true rfl⟩) (rg_recv hT G (by decide) r_lb k_AL) rfl hl.1 rfl (Nat.le_of_ble_eq_true rfl) dX11_band_34 ⟨Nat.le_of_ble_eq_true rfl, Nat.le_of_ble_eq_true rfl⟩) (fun r3 σ3 H locs h G => ?_)
  (try dsimp only at h)
  refine lv_bipush (v := 6) hC.1 hC.2.1 dX11_band_37 (by decide) ?_
  refine lv_icmp_ne (tgt := 48) hC.1 hC.2.1 dX11_band_39 (by decide) (fun c3 => ?_) (fun c3 => ?_)
  rotate_left
  · replace h := h.1 c3
    refine lv_aload_n hC.1 hC.2.1 dX11_band_42 rfl (lv_at hl 0 rfl) ?_
    refine lv_iconst (v := 2) hC.1 hC.2.1 dX11_band_43 (by decide) ?_
    refine rg_i G (rg_runV (As := [.int 2]) (rest := []) hC hT G (c_X11_refuse l D cy lay Γ h _) (cwV 1 hC.2.2.2.2 gX11_band_X11_refuse rfl rfl rfl hdV_X11_refuse ⟨Nat.le_of_ble_eq_true rfl, Nat.le_of_ble_eq_true rfl⟩) (rg_recv hT G (by decide) r_mo k_X11) rfl hl.1 rfl (Nat.le_of_ble_eq_true rfl) dX11_band_44 ⟨Nat.le_of_ble_eq_true rfl, Nat.le_of_ble_eq_true rfl⟩) (fun r9 σ9 H locs h G => ?_)
    refine W.widen (k := 2) (n := 11) (by decide) (by decide) ?_
    exact rk_iretv rfl (Y := (lay, Γ, σ9)) hC hr hlocks G (rS_grow hT.2.2.1 G rfl rfl) hT.2.2.2 (fun i hi => Or.inl ⟨hi, rfl⟩) h dX11_band_47
  replace h := h.2 c3
  obtain ⟨hP, hsz, h⟩ := h
  refine lv_aload_n hC.1 hC.2.1 dX11_band_48 rfl (lv_at hl 0 rfl) ?_
  refine rg_get hC hT G (by decide) r_mo k_X11 i_X11_band_X11 4 (by decide) (wm 2 rfl) rfl dX11_band_49 ?_
  refine lv_iload_n hC.1 hC.2.1 dX11_band_52 rfl (lv_at hl 1 rfl) ?_
  have G : gG D lay (rX cy lay Γ tn σ3) (rA cy lay Γ s.heap.size) s.heap H locs := G
  have hsz0 : s.heap.size ≤ H.size := G.2.2.1
  refine g_vOf (v := a1) (ad := ad) G hA (kv_runS (As := [.int a1]) (rest := [.ref (lay 2)]) hC ⟨hT.1, hT.2.1⟩ hV hA G (c_vOf l D cy lay _ ta ad ((r_tm (by omega)).trans rfl) _) (va_cwS 1 hC.2.2.2.2 gX11_band_J6_valueOf_2dffe rfl rfl rfl hdS_vOf ⟨Nat.le_of_ble_eq_true rfl, Nat.le_of_ble_eq_true rfl⟩) rfl hl.1 rfl (Nat.le_of_ble_eq_true rfl) dX11_band_53 ⟨Nat.le_of_ble_eq_true rfl, Nat.le_of_ble_eq_true rfl⟩) (fun y H locs G b1 b2 b3 => ?_)
  have b4 : vNew ad s.heap.size y := b3.elim (fun z => Or.inl (Nat.le_trans hsz0 z)) Or.inr
  have fin : ∀ (L' : Nat → Nat) (H2 : Heap) (locs2 : List Loc), L' 0 = lay 0 → gG D L' (rX cy L' (Γ.1, Γ.2.1 + 1, Γ.2.2.1, Γ.2.2.2.1, va_up Γ.2.2.2.2.1 Γ.2.1 y, va_up Γ.2.2.2.2.2 Γ.2.1 a1) tn (rbS σ3 Γ.2.1)) (rA cy lay Γ s.heap.size) s.heap H2 locs2 → H.size ≤ H2.size → (∀ q : Nat, q < H.size → ¬ gA lay (rX cy lay Γ tn σ3) H.size q → H2[q]? = H[q]?) → gI (gA lay (rX cy lay Γ tn σ3) H.size) L' (rX cy L' (Γ.1, Γ.2.1 + 1, Γ.2.2.1, Γ.2.2.2.1, va_up Γ.2.2.2.2.1 Γ.2.1 y, va_up Γ.2.2.2.2.2 Γ.2.1 a1) tn (rbS σ3 Γ.2.1)) → W p l e0 rm_X11_band s m args below meth c H2 locs2 2 11 (MQ below (va_Qi post (rOv D cy lay Γ ad s.heap.size) (rA cy lay Γ s.heap.size)) args s 2 11 (rA cy lay Γ s.heap.size)) (F0 m 59 ls [.int 1]) := by
    intro L' H2 locs2 z0 G2 hz hk hI
    have hB : ∀ q, q < H.size → rA cy L' (Γ.1, Γ.2.1 + 1, Γ.2.2.1, Γ.2.2.2.1, va_up Γ.2.2.2.2.1 Γ.2.1 y, va_up Γ.2.2.2.2.2 Γ.2.1 a1) H2.size q → gA lay (rX cy lay Γ tn σ3) H.size q := fun q hq hB => by
      rcases hB with ⟨k, hk, hX, rfl⟩ | hB
      · rw [r_some (lay' := L') (tm' := tn) (σ' := rbS σ3 Γ.2.1) hk] at hX
        cases hx : rX cy L' (Γ.1, Γ.2.1 + 1, Γ.2.2.1, Γ.2.2.2.1, va_up Γ.2.2.2.2.1 Γ.2.1 y, va_up Γ.2.2.2.2.2 Γ.2.1 a1) tn (rbS σ3 Γ.2.1) k with
        | none => rw [hx] at hX; cases hX
        | some e => exact hI.2 k e (by omega) hx
      · exact absurd (Nat.le_trans hz hB) (by omega)
    have hS := rS_addb hT.2.2.1 G2 (bxO_kept b1 hk hB) (bxF_kept b2 hk hB)
    have hv : ∀ i, i < Γ.2.1 + 1 → (i < Γ.2.1 ∧ va_up Γ.2.2.2.2.1 Γ.2.1 y i = Γ.2.2.2.2.1 i) ∨ vNew ad s.heap.size (va_up Γ.2.2.2.2.1 Γ.2.1 y i) := fun i hi => by
      by_cases e : i = Γ.2.1
      · rw [e, va_up_self]; exact Or.inr b4
      · rw [va_up_ne _ _ e]; exact Or.inl ⟨by omega, rfl⟩
    refine lv_pop hC.1 hC.2.1 dX11_band_59 rfl ?_
    refine lv_aload_n hC.1 hC.2.1 dX11_band_60 rfl (lv_at hl 0 rfl) ?_
    rw [← z0]
    refine g_get (k := 0) hC hT.1 G2 (by decide) r_mo k_X11 i_X11_band_X11 4 (by decide) (wm 2 rfl) rfl dX11_band_61 ?_
    refine g_ik G2 hA (h_runV (As := []) (rest := []) hC ⟨hT.1, hT.2.1⟩ G2 (c_gsz l D cy L' _ (k := 2) (by decide) r_lb _) (cwV 0 hC.2.2.2.2 gX11_band_Jx4a65c_size_8abf5 rfl rfl rfl hdV_Jx4a65c_size_8abf5 ⟨Nat.le_of_ble_eq_true rfl, Nat.le_of_ble_eq_true rfl⟩) (h_recv (k := 2) ⟨hT.1, hT.2.1⟩ G2 (by decide) r_lb k_AL) rfl hl.1 rfl (Nat.le_of_ble_eq_true rfl) dX11_band_64 ⟨Nat.le_of_ble_eq_true rfl, Nat.le_of_ble_eq_true rfl⟩) (fun r Y H3 locs3 hY G3 hz3 hk3 hI3 => ?_)
    obtain ⟨rfl, rfl⟩ := hY
    have hB3 : ∀ q, q < H2.size → rA cy L' (Γ.1, Γ.2.1 + 1, Γ.2.2.1, Γ.2.2.2.1, va_up Γ.2.2.2.2.1 Γ.2.1 y, va_up Γ.2.2.2.2.2 Γ.2.1 a1) H3.size q → rA cy L' (Γ.1, Γ.2.1 + 1, Γ.2.2.1, Γ.2.2.2.1, va_up Γ.2.2.2.2.1 Γ.2.1 y, va_up Γ.2.2.2.2.2 Γ.2.1 a1) H2.size q := fun q hq hB => hB.elim Or.inl (fun h2 => absurd (Nat.le_trans hz3 h2) (by omega))
    have hq3 : ∀ q : Nat, q < H2.size → ¬ rA cy L' (Γ.1, Γ.2.1 + 1, Γ.2.2.1, Γ.2.2.2.1, va_up Γ.2.2.2.2.1 Γ.2.1 y, va_up Γ.2.2.2.2.2 Γ.2.1 a1) H2.size q → H3[q]? = H2[q]? := fun q hq hn => hk3 q hq (fun z => hn (by
      rcases z with ⟨k, e, hk, hX, rfl⟩ | z
      · by_cases h64 : k < 64
        · exact Or.inl ⟨k, h64, by rw [r_some (lay' := L') (tm' := tn) (σ' := rbS σ3 Γ.2.1) h64, hX]; rfl, rfl⟩
        · rw [r_tm (by omega)] at hX
          exact absurd hX (by unfold tn; simp)
      · exact Or.inr z))
    have hS3 := rS_kept hS hq3 hB3
    refine lv_iconst (v := 1) hC.1 hC.2.1 dX11_band_67 (by decide) ?_
    refine lv_isub hC.1 hC.2.1 dX11_band_68 ?_
    rw [show rbS σ3 Γ.2.1 2 2 = nI (Γ.2.1 + 1) from rfl, nI_pred]
    exact rk_iretv z0 (Y := (L', (Γ.1, Γ.2.1 + 1, Γ.2.2.1, Γ.2.2.2.1, va_up Γ.2.2.2.2.1 Γ.2.1 y, va_up Γ.2.2.2.2.2 Γ.2.1 a1), rbS σ3 Γ.2.1)) hC hr hlocks G3 hS3 ⟨hT.2.2.2.1, by show Γ.2.1 + 1 ≤ 6; omega, hT.2.2.2.2.2⟩ hv (h L' y) dX11_band_69
  by_cases hP0 : Γ.2.1 = 0
  · have x1 : rX cy lay Γ tn σ3 2 = some (.inr (4, [.int (σ3 2 0), .ref Γ.2.2.2.1, .int 0])) := by rw [r_lb, if_pos hP0, hsz, hP0]; rfl
    refine g_ik G hA (kb_runV (C := RJ6) (b := lay 2) (As := [.ref y]) (rest := []) hC ⟨hT.1, hT.2.1⟩ hZ hA G b1 (c_bdd_0 l D cy lay (rX cy lay Γ tn σ3) Γ.2.2.2.1 mi (kl := 2) (ke := 5) (v := y) (qn := 27) (by decide) (by decide) (by decide) x1 (r_no_eb hP0) rfl _) (cwV 1 hC.2.2.2.2 gX11_band_Jx4a65c_add_9ea2d rfl rfl rfl hdV_add ⟨Nat.le_of_ble_eq_true rfl, Nat.le_of_ble_eq_true rfl⟩) (h_recv (k := 2) ⟨hT.1, hT.2.1⟩ G (by decide) x1 k_AL) rfl hl.1 rfl (Nat.le_of_ble_eq_true rfl) dX11_band_56 ⟨Nat.le_of_ble_eq_true rfl, Nat.le_of_ble_eq_true rfl⟩) (fun r Y H2 locs2 hY G2 hz hk hI => ?_)
    obtain ⟨rfl, q4, rfl⟩ := hY
    have hw : ∀ k, adX cy (rX cy lay Γ tn σ3) 2 5 (σ3 2 0 + 1) q4 10 0 (fun _ => none) y k = rX cy (gU lay 5 q4) (Γ.1, Γ.2.1 + 1, Γ.2.2.1, Γ.2.2.2.1, va_up Γ.2.2.2.2.1 Γ.2.1 y, va_up Γ.2.2.2.2.2 Γ.2.1 a1) tn (rbS σ3 Γ.2.1) k := fun k => by
      rw [← r_addb (lay' := gU lay 5 q4) (o := q4) (y := y) (a1 := a1) (f' := va_up (fun _ => none) 0 (some y)) (fun k b => gU_ne b) gU_eq ?_ k]
      · unfold adX
        rw [hP0]
      · funext i
        by_cases hi : i = 0
        · rw [hi, va_up_self, if_pos (by omega), show (0 : Nat) = Γ.2.1 from hP0.symm, va_up_self]
        · rw [va_up_ne _ _ hi, if_neg (by omega)]
    have hw2 : adX cy (rX cy lay Γ tn σ3) 2 5 (σ3 2 0 + 1) q4 10 0 (fun _ => none) y = rX cy (gU lay 5 q4) (Γ.1, Γ.2.1 + 1, Γ.2.2.1, Γ.2.2.2.1, va_up Γ.2.2.2.2.1 Γ.2.1 y, va_up Γ.2.2.2.2.2 Γ.2.1 a1) tn (rbS σ3 Γ.2.1) := funext hw
    dsimp only at G2 hI
    rw [hw2] at G2 hI
    exact fin (gU lay 5 q4) H2 locs2 (gU_ne (by decide)) G2 hz hk hI
  · have x1 : rX cy lay Γ tn σ3 2 = some (.inr (4, [.int (σ3 2 0), .ref (lay 5), .int (nI Γ.2.1)])) := by rw [r_lb, if_neg hP0, hsz]
    refine g_ik G hA (kb_runV (C := RJ6) (b := lay 2) (As := [.ref y]) (rest := []) hC ⟨hT.1, hT.2.1⟩ hZ hA G b1 (c_bdd_A l D cy lay (rX cy lay Γ tn σ3) Γ.2.2.2.1 mi (kl := 2) (ke := 5) (v := y) (qn := 27) (n := Γ.2.1) (cap := 10) (by decide) (by decide) (by decide) (by omega) (by decide) x1 (r_ebb hP0) rfl _) (cwV 1 hC.2.2.2.2 gX11_band_Jx4a65c_add_9ea2d rfl rfl rfl hdV_add ⟨Nat.le_of_ble_eq_true rfl, Nat.le_of_ble_eq_true rfl⟩) (h_recv (k := 2) ⟨hT.1, hT.2.1⟩ G (by decide) x1 k_AL) rfl hl.1 rfl (Nat.le_of_ble_eq_true rfl) dX11_band_56 ⟨Nat.le_of_ble_eq_true rfl, Nat.le_of_ble_eq_true rfl⟩) (fun r Y H2 locs2 hY G2 hz hk hI => ?_)
    obtain ⟨rfl, rfl⟩ := hY
    have hw : ∀ k, adX cy (rX cy lay Γ tn σ3) 2 5 (σ3 2 0 + 1) (lay 5) 10 Γ.2.1 (fun i => if i < Γ.2.1 then some (Γ.2.2.2.2.1 i) else none) y k = rX cy lay (Γ.1, Γ.2.1 + 1, Γ.2.2.1, Γ.2.2.2.1, va_up Γ.2.2.2.2.1 Γ.2.1 y, va_up Γ.2.2.2.2.2 Γ.2.1 a1) tn (rbS σ3 Γ.2.1) k := fun k => by
      rw [← r_addb (lay' := lay) (o := lay 5) (y := y) (a1 := a1) (f' := va_up (fun i => if i < Γ.2.1 then some (Γ.2.2.2.2.1 i) else none) Γ.2.1 (some y)) (fun k _ => rfl) rfl ?_ k]
      · rfl
      · funext i
        by_cases hi : i = Γ.2.1
        · rw [hi, va_up_self, if_pos (by omega), va_up_self]
        · rw [va_up_ne _ _ hi, va_up_ne _ _ hi]
          by_cases h2 : i < Γ.2.1
          · rw [if_pos h2, if_pos (by omega)]
          · rw [if_neg h2, if_neg (by omega)]
    have hw2 : adX cy (rX cy lay Γ tn σ3) 2 5 (σ3 2 0 + 1) (lay 5) 10 Γ.2.1 (fun i => if i < Γ.2.1 then some (Γ.2.2.2.2.1 i) else none) y = rX cy lay (Γ.1, Γ.2.1 + 1, Γ.2.2.1, Γ.2.2.2.1, va_up Γ.2.2.2.2.1 Γ.2.1 y, va_up Γ.2.2.2.2.2 Γ.2.1 a1) tn (rbS σ3 Γ.2.1) := funext hw
    dsimp only at G2 hI
    rw [hw2] at G2 hI
    exact fin lay H2 locs2 rfl G2 hz hk hI
end
section
/-! THE REFERENCE: a new list -/
abbrev rm_AC : Room := { frames := 1, cells := 0, slots := 0, locals := 16 }
abbrev rm_AL0 : Room := { frames := 2, cells := 0, slots := 0, locals := 40 }
abbrev rm_ALi : Room := { frames := 3, cells := 0, slots := 0, locals := 60 }
theorem hdI_AC : yJxa1e45_init_da8c8.cls ≠ "java/lang/invoke/MethodHandle" ∧ yJxa1e45_init_da8c8.cls ≠ "java/lang/invoke/VarHandle" ∧ (parseMethodDescriptor yJxa1e45_init_da8c8.desc).map (fun d => d.parameters.length) = some 0 := by decide +kernel
theorem hdI_AL0 : yJxc12de_init_da8c8.cls ≠ "java/lang/invoke/MethodHandle" ∧ yJxc12de_init_da8c8.cls ≠ "java/lang/invoke/VarHandle" ∧ (parseMethodDescriptor yJxc12de_init_da8c8.desc).map (fun d => d.parameters.length) = some 0 := by decide +kernel
theorem hdI_ALi : yJx4a65c_init_da8c8.cls ≠ "java/lang/invoke/MethodHandle" ∧ yJx4a65c_init_da8c8.cls ≠ "java/lang/invoke/VarHandle" ∧ (parseMethodDescriptor yJx4a65c_init_da8c8.desc).map (fun d => d.parameters.length) = some 0 := by decide +kernel
theorem i_AL0 : ∀ w ∈ wsJx4a65c0, w ∈ wsJxc12de_init_da8c8 := fun _ h => List.mem_cons_of_mem _ (List.mem_append_right _ h)
theorem i_ALi : ∀ w ∈ wsJx4a65c0, w ∈ wsJx4a65c_init_da8c8 := fun _ h => List.mem_cons_of_mem _ (List.mem_append_right _ h)
set_option maxHeartbeats 4000000 in
set_option maxRecDepth 100000 in
theorem c_AC (l : Launch) (D : va_G) (cy : Nat → ClassId) (lay : Nat → Nat) (X : Nat → Option va_E) {b : Nat} (sz : Nat) : Met l yJxa1e45_init_da8c8 wsJxa1e45_init_da8c8 rm_AC (va_Pc [.ref b] (hI D cy lay X sz)) (va_Qv (fun Y : GY => Y = (lay, X)) (gO D (gA lay X sz)) (gA lay X sz)) 0 0 (gA lay X sz) := by
  refine h_ofW (cc := cJxa1e45_init_da8c8) (maxL := 1) (ret := none) (own := RJxa1e45) (Qc := fun sz => (va_Qv (fun Y : GY => Y = (lay, X)) (gO D (gA lay X sz)) (gA lay X sz))) (by decide) rfl (Nat.le_of_ble_eq_true rfl) rfl ?_
  intro p e0 s m args below meth c ls hC hr hlocks hname hT G hl
  have hl : lv_has ls 1 [(0, .ref b)] := hl
  refine lv_aload_n hC.1 hC.2.1 dJxa1e45_init_da8c8_0 rfl (lv_at hl 0 rfl) ?_
  refine W.objInit hC.1 hC.2.1 hC.2.2.2.1 (hC.2.2.2.2 _ (wm 1 rfl)) (hC.2.2.2.2 _ (wm 2 rfl)) (hC.2.2.2.2 _ (wm 3 rfl)) rfl (by rw [hC.2.2.1]; exact hl.1) rfl dJxa1e45_init_da8c8_1 (Nat.le_of_ble_eq_true rfl) (Nat.le_of_ble_eq_true rfl) ?_
  refine W.eq (g2 := F0 m 4 ls []) rfl ?_
  exact g_vret (Y := (lay, X)) hC hr hlocks G rfl dJxa1e45_init_da8c8_4
set_option maxHeartbeats 4000000 in
set_option maxRecDepth 100000 in
theorem c_AL0 (l : Launch) (D : va_G) (cy : Nat → ClassId) (lay : Nat → Nat) (X : Nat → Option va_E) {k : Nat} (hk : k < 128) {mo n : Int32} {o : Value} (hX : X k = some (.inr (4, [.int mo, o, .int n]))) (sz : Nat) : Met l yJxc12de_init_da8c8 wsJxc12de_init_da8c8 rm_AL0 (va_Pc [.ref (lay k)] (hI D cy lay X sz)) (va_Qv (fun Y : GY => Y = (lay, gU X k (some (.inr (4, [.int 0, o, .int n]))))) (gO D (gA lay X sz)) (gA lay X sz)) 0 0 (gA lay X sz) := by
  refine h_ofW (cc := cJxc12de_init_da8c8) (maxL := 1) (ret := none) (own := RJxc12de) (Qc := fun sz => (va_Qv (fun Y : GY => Y = (lay, gU X k (some (.inr (4, [.int 0, o, .int n]))))) (gO D (gA lay X sz)) (gA lay X sz))) (by decide) rfl (Nat.le_of_ble_eq_true rfl) rfl ?_
  intro p e0 s m args below meth c ls hC hr hlocks hname hT G hl
  have hl : lv_has ls 1 [(0, .ref (lay k))] := hl
  have hA : ∀ q, s.heap.size ≤ q → gA lay X s.heap.size q := fun _ h => Or.inr h
  refine lv_aload_n hC.1 hC.2.1 dJxc12de_init_da8c8_0 rfl (lv_at hl 0 rfl) ?_
  refine g_v G hA (h_runI (b := lay k) (As := []) (rest := []) hC hT G (c_AC l D cy lay X _) ⟨callB_of 0 hC.2.2.2.2 ggJxc12de_init_da8c8_Jxa1e45_init_da8c8 rfl rfl rfl (hC.2.2.2.2 (.initialized RJxa1e45) (wm 4 rfl)) (hC.2.2.2.2 (.methodLink RJxc12de 1 yJxa1e45_init_da8c8) (wm 2 rfl)) hdI_AC ⟨Nat.le_of_ble_eq_true rfl, Nat.le_of_ble_eq_true rfl⟩, rfl, hC.2.2.2.2 (.instanceMethod yJxa1e45_init_da8c8) (wm 3 rfl)⟩ rfl hl.1 rfl (Nat.le_of_ble_eq_true rfl) dJxc12de_init_da8c8_1 ⟨Nat.le_of_ble_eq_true rfl, Nat.le_of_ble_eq_true rfl⟩) (fun Y H locs hY G => ?_)
  subst hY
  have G : gG D lay X (gA lay X s.heap.size) s.heap H locs := G
  refine lv_aload_n hC.1 hC.2.1 dJxc12de_init_da8c8_4 rfl (lv_at hl 0 rfl) ?_
  refine lv_iconst (v := 0) hC.1 hC.2.1 dJxc12de_init_da8c8_5 (by decide) ?_
  refine g_put hC hT.1 G hk hX k_AL i_AL0 0 (by decide) (wm 1 rfl) rfl rfl rfl (by simp) dJxc12de_init_da8c8_6 (fun H locs G => ?_)
  have G : gG D lay (gU X k (some (.inr (4, [.int 0, o, .int n])))) (gA lay X s.heap.size) s.heap H locs := G
  exact g_vret (Y := (lay, gU X k (some (.inr (4, [.int 0, o, .int n]))))) hC hr hlocks G rfl dJxc12de_init_da8c8_9
set_option maxHeartbeats 4000000 in
set_option maxRecDepth 100000 in
theorem c_ALi (l : Launch) (D : va_G) (cy : Nat → ClassId) (lay : Nat → Nat) (X : Nat → Option va_E) (ea mi : Nat) {k : Nat} (hk : k < 128) {mo n : Int32} {o : Value} (hX : X k = some (.inr (4, [.int mo, o, .int n]))) (sz : Nat) : Met l yJx4a65c_init_da8c8 wsJx4a65c_init_da8c8 rm_ALi (va_Pc [.ref (lay k)] (hK D cy lay X ea mi sz)) (va_Qv (fun Y : GY => Y = (lay, gU X k (some (.inr (4, [.int 0, .ref ea, .int n]))))) (gO D (gA lay X sz)) (gA lay X sz)) 0 0 (gA lay X sz) := by
  refine k_ofW (cc := cJx4a65c_init_da8c8) (maxL := 1) (ret := none) (own := RJx4a65c) (Qc := fun sz => (va_Qv (fun Y : GY => Y = (lay, gU X k (some (.inr (4, [.int 0, .ref ea, .int n]))))) (gO D (gA lay X sz)) (gA lay X sz))) (by decide) rfl (Nat.le_of_ble_eq_true rfl) rfl ?_
  intro p e0 s m args below meth c ls hC hr hlocks hname hT hZ G hl
  have hl : lv_has ls 1 [(0, .ref (lay k))] := hl
  have hA : ∀ q, s.heap.size ≤ q → gA lay X s.heap.size q := fun _ h => Or.inr h
  refine lv_aload_n hC.1 hC.2.1 dJx4a65c_init_da8c8_0 rfl (lv_at hl 0 rfl) ?_
  refine g_v G hA (h_runI (b := lay k) (As := []) (rest := []) hC hT G (c_AL0 l D cy lay X hk hX _) ⟨callB_of 0 hC.2.2.2.2 ggJx4a65c_init_da8c8_Jxc12de_init_da8c8 rfl rfl rfl (hC.2.2.2.2 (.initialized RJxc12de) (wm 5 rfl)) (hC.2.2.2.2 (.methodLink RJx4a65c 1 yJxc12de_init_da8c8) (wm 3 rfl)) hdI_AL0 ⟨Nat.le_of_ble_eq_true rfl, Nat.le_of_ble_eq_true rfl⟩, rfl, hC.2.2.2.2 (.instanceMethod yJxc12de_init_da8c8) (wm 4 rfl)⟩ rfl hl.1 rfl (Nat.le_of_ble_eq_true rfl) dJx4a65c_init_da8c8_1 ⟨Nat.le_of_ble_eq_true rfl, Nat.le_of_ble_eq_true rfl⟩) (fun Y H locs hY G => ?_)
  subst hY
  have G : gG D lay (gU X k (some (.inr (4, [.int 0, o, .int n])))) (gA lay X s.heap.size) s.heap H locs := G
  refine lv_aload_n hC.1 hC.2.1 dJx4a65c_init_da8c8_4 rfl (lv_at hl 0 rfl) ?_
  refine va_gets hC.1 hC.2.1 hZ.1 G.2.2 hC.2.2.2.1 (hC.2.2.2.2 _ (wm 1 rfl)) (fun _ h => h) dJx4a65c_init_da8c8_5 ?_
  refine g_put hC hT.1 G hk gU_eq k_AL i_ALi 1 (by decide) (wm 2 rfl) rfl rfl rfl (by simp) dJx4a65c_init_da8c8_8 (fun H locs G => ?_)
  have G : gG D lay (gU X k (some (.inr (4, [.int 0, .ref ea, .int n])))) (gA lay X s.heap.size) s.heap H locs := gG_up2 G
  exact g_vret (Y := (lay, gU X k (some (.inr (4, [.int 0, .ref ea, .int n]))))) hC hr hlocks G rfl dJx4a65c_init_da8c8_11
end
section
/-! THE REFERENCE: its constructor, from the loop on -/
abbrev rm_X11_init : Room := { frames := 4, cells := 9, slots := 145, locals := 120 }
theorem i_X11_init_X11 : ∀ w ∈ wsX110, w ∈ wsX11_init := fun _ h => List.mem_cons_of_mem _ (List.mem_append_right _ h)
theorem i_X11_init_AL : ∀ w ∈ wsJx4a65c0, w ∈ wsX11_init := fun _ h => List.mem_cons_of_mem _ (List.mem_append_left _ (List.mem_append_right _ h))
def u_X11_init_87 (Γ : RG) (post : MS → Prop) : Nat → MS → Int32 → Prop
  | 0, _, _ => False
  | k + 1, σ, i => (16 ≤ i → w_X11_drive Γ post σ) ∧ (¬ 16 ≤ i → vp_in i 16 ∧ u_X11_init_87 Γ post k (up2 (up2 (up2 σ 7 i.toNatClampNeg (i - i / 12 * 12)) 8 i.toNatClampNeg 5) 9 i.toNatClampNeg 3) (i + 1))
section XIN
variable {p : Program} {l : Launch} {e : Env} {s : State} {m : MethodId} {args : Array Value} {below : List Frame} {meth : Method} {c : Code} {D : va_G} {cy : Nat → ClassId} {lay : Nat → Nat} {Γ : RG}
theorem rk_vret {R : Room} {H : Heap} {cells slots : Nat} {cc : ByteArray} {nL pc : Nat} {Ts : List Cond} {own : String} {ls : Array Slot} {post : RY → Prop} {Y : RY} {locs : List Loc} {A : Nat → Prop} {z0 : Nat} (hz : Y.1 0 = z0) (hC : CallFix p m c cc nL s args Ts own) (hr : meth.sig.returnType = none) (hlocks : meth.locks = false) (G : gG D Y.1 (rX cy Y.1 Y.2.1 tn Y.2.2) A s.heap H locs) (hS : rS D cy Y.2.1 (rA cy Y.1 Y.2.1 H.size) s H) (hB : rB Y.2.1) (h : post Y) (hdg : decode cc pc = .ok (.return_, 1)) :
    W p l e R s m args below meth c H locs cells slots (MQ below (va_Qv post (rOz z0 D cy A) A) args s cells slots A) (F0 m pc ls []) :=
  W.vret hC.1 hC.2.1 hr (fun t ht hW => ⟨⟨Y, rfl, h, ⟨by rw [ht]; exact G.1, G.2.1, by rw [ht]; exact rS_moved hW.alike hS, hB⟩, hz⟩, G.2.2.F ht⟩) G.2.2.2.2 hdg hlocks
set_option maxHeartbeats 4000000 in
set_option maxRecDepth 100000 in
theorem l_X11_init_87 {post : RY → Prop} {z0 : Nat} (hz : lay 0 = z0) (hC : CallFix p m c cX11_init 2 s args wsX11_init RX11) (hr : meth.sig.returnType = none) (hlocks : meth.locks = false) (hT : rT D cy lay Γ s) : ∀ (k : Nat) (σ : MS) (i : Int32), u_X11_init_87 Γ (fun σ => post (lay, Γ, σ)) k σ i → ∀ (H : Heap) (locs : List Loc) (ls : Array Slot), rG D cy lay Γ tn σ (rA cy lay Γ s.heap.size) s.heap H locs → lv_has ls 2 [(1, .int i), (0, .ref (lay 0))] → W p l e rm_X11_init s m args below meth c H locs 9 145 (MQ below (va_Qv post (rOz z0 D cy (rA cy lay Γ s.heap.size)) (rA cy lay Γ s.heap.size)) args s 9 145 (rA cy lay Γ s.heap.size)) (F0 m 87 ls []) := by
  intro k
  induction k with
  | zero =>
    intro σ i h
    exact absurd h (by unfold u_X11_init_87; exact id)
  | succ k ih =>
    intro σ i h H locs ls G hl
    unfold u_X11_init_87 at h
    refine lv_iload_n hC.1 hC.2.1 dX11_init_87 rfl (lv_at hl 0 rfl) ?_
    refine lv_bipush (v := 16) hC.1 hC.2.1 dX11_init_88 (by decide) ?_
    refine lv_icmp_ge (tgt := 123) hC.1 hC.2.1 dX11_init_90 (by decide) (fun c1 => ?_) (fun c1 => ?_)
    · replace h := h.1 c1
      refine lv_aload_n hC.1 hC.2.1 dX11_init_123 rfl (lv_at hl 1 rfl) ?_
      refine rg_v G (rg_runV (As := []) (rest := []) hC hT G (c_X11_drive l D cy lay Γ h _) (cwV 0 hC.2.2.2.2 gX11_init_X11_drive rfl rfl rfl hdV_X11_drive ⟨Nat.le_of_ble_eq_true rfl, Nat.le_of_ble_eq_true rfl⟩) (rg_recv hT G (by decide) r_mo k_X11) rfl hl.1 rfl (Nat.le_of_ble_eq_true rfl) dX11_init_124 ⟨Nat.le_of_ble_eq_true rfl, Nat.le_of_ble_eq_true rfl⟩) (fun σ' H locs h G => ?_)
      exact rk_vret (Y := (lay, Γ, σ')) hz hC hr hlocks G (rS_grow hT.2.2.1 G rfl rfl) hT.2.2.2 h dX11_init_127
    · replace h := h.2 c1
      obtain ⟨hin, h⟩ := h
      refine lv_aload_n hC.1 hC.2.1 dX11_init_93 rfl (lv_at hl 1 rfl) ?_
      refine rg_get hC hT G (by decide) r_mo k_X11 i_X11_init_X11 6 (by decide) (wm 11 rfl) rfl dX11_init_94 ?_
      refine lv_iload_n hC.1 hC.2.1 dX11_init_97 rfl (lv_at hl 0 rfl) ?_
      refine lv_iload_n hC.1 hC.2.1 dX11_init_98 rfl (lv_at hl 0 rfl) ?_
      refine lv_bipush (v := 12) hC.1 hC.2.1 dX11_init_99 (by decide) ?_
      refine lv_irem hC.1 hC.2.1 dX11_init_101 (by decide) ?_
      refine rg_iast hC hT G (by decide) (fun _ => r_ky) hin dX11_init_102 (fun H locs G => ?_)
      refine lv_aload_n hC.1 hC.2.1 dX11_init_103 rfl (lv_at hl 1 rfl) ?_
      refine rg_get hC hT G (by decide) r_mo k_X11 i_X11_init_X11 7 (by decide) (wm 12 rfl) rfl dX11_init_104 ?_
      refine lv_iload_n hC.1 hC.2.1 dX11_init_107 rfl (lv_at hl 0 rfl) ?_
      refine lv_iconst (v := 5) hC.1 hC.2.1 dX11_init_108 (by decide) ?_
      refine rg_iast hC hT G (by decide) (fun _ => r_en) hin dX11_init_109 (fun H locs G => ?_)
      refine lv_aload_n hC.1 hC.2.1 dX11_init_110 rfl (lv_at hl 1 rfl) ?_
      refine rg_get hC hT G (by decide) r_mo k_X11 i_X11_init_X11 8 (by decide) (wm 13 rfl) rfl dX11_init_111 ?_
      refine lv_iload_n hC.1 hC.2.1 dX11_init_114 rfl (lv_at hl 0 rfl) ?_
      refine lv_iconst (v := 3) hC.1 hC.2.1 dX11_init_115 (by decide) ?_
      refine rg_iast hC hT G (by decide) (fun _ => r_mi) hin dX11_init_116 (fun H locs G => ?_)
      refine lv_iinc (v := i + 1) (lv' := [(1, .int (i + 1)), (0, .ref (lay 0))]) hC.1 hC.2.1 dX11_init_117 hl (k := 0) rfl rfl (by decide) rfl (fun ls hl => ?_)
      refine lv_goto (tgt := 87) hC.1 hC.2.1 dX11_init_120 (by decide) ?_
      exact ih _ _ h _ _ _ G hl
end XIN
end
section
/-! THE REFERENCE: its constructor -/
section XI2
variable {p : Program} {l : Launch} {e : Env} {R : Room} {s : State} {m : MethodId} {args : Array Value} {below : List Frame} {meth : Method} {c : Code} {H : Heap} {locs : List Loc} {cells slots : Nat} {Q : State → Prop}
variable {cc bytes : ByteArray} {pc nL maxL mc ms n index ea mi : Nat} {ls : Array Slot} {ST rest As : List Value} {D : va_G} {cy : Nat → ClassId} {lay : Nat → Nat} {X : Nat → Option va_E} {A : Nat → Prop} {H0 : Heap} {Ts ws : List Cond} {own Cn host : String} {y : MethodName} {ret : Option FieldType} {rm : Room} {b : Addr} {tys : List (ClassId × FieldType)} {Γ : RG} {σ : MS}
variable {Qc : Array Value → State → Outcome → State → Prop} {free : Addr → Prop}
theorem k_newi (hC : CallFix p m c cc nL s args Ts own) (hK : va_K D vwCl (fdT cy) s) (G : gG D lay X A H0 H locs) (hA : ∀ q, H0.size ≤ q → A q) {k : Nat} (hX : X k = none) (harr : Cond.arrayClass .int ∈ Ts) {v : Int32} {N : Nat} (hn : ¬ v < 0) (hN : v.toNatClampNeg = N) (hb : N * componentBytes .int ≤ 536870912) (hcells : cells + 1 ≤ R.cells) (hslots : slots + N ≤ R.slots) (hdg : decode cc pc = .ok (.newarray .int, 2))
    (kk : ∀ (q : Nat) (H1 : Heap), gG D (gU lay k q) (gU X k (some (.inl (cy 0, N, .inl (fun _ => 0))))) A H0 H1 locs → W p l e R s m args below meth c H1 locs (cells + 1) (slots + N) Q (F0 m (pc + 2) ls (.ref q :: rest))) : W p l e R s m args below meth c H locs cells slots Q (F0 m pc ls (.int v :: rest)) :=
  va_newa (atype := .int) (ty := .int) hC.1 hC.2.1 (hC.2.2.2.2 _ harr) rfl hK (gP_list G.1) (gI_list G.2.1) G.2.2 hA (a0 := (N, .inl (fun _ => 0))) (fun _ => rfl) hn hN hb hcells hslots hdg (fun q cA H1 hK' hP hD hS => by
    have h1 := (hK'.2 (fdT cy).length (cA, .int) (by rw [List.getElem?_append_right (Nat.le_refl _), Nat.sub_self]; rfl)).2
    have h2 := (hK.2 0 (cy 0, .int) rfl).2
    have hc : cA = cy 0 := Option.some.inj (Eq.trans (Eq.symm h1) h2)
    subst hc
    exact kk q H1 ⟨gP_new hX hP, gI_new G.2.1 hX hD, hS⟩)
theorem k_runI (hC : CallFix p m c cc nL s args Ts own) (hT : va_K D vwCl (fdT cy) s ∧ rN s) (hZ : hZs D cy ea mi A s) (hA : ∀ q, s.heap.size ≤ q → A q) (G : gG D lay X A s.heap H locs) (hM : Met l y ws rm (va_Pc (.ref b :: As) (hK D cy lay X ea mi H.size)) Qc mc ms free) (cw : CallB R s args own index y bytes maxL none ws rm mc ms n ∧ y.name = "<init>" ∧ (Cond.instanceMethod y).before args s = true)
    (hn : As.length = n) (hls : ls.size = nL) (hst : ST = As.reverse ++ .ref b :: rest) (hW : (rest.map fun v => v.category).sum ≤ 8) (hdg : decode cc pc = .ok (.invokespecial index, 3)) (hf : cells + mc ≤ R.cells ∧ slots + ms ≤ R.slots) :
    va_Run p l e R s m args below meth c H locs cells slots mc ms (F0 m pc ls ST) rest (Qc (.ref b :: As).toArray) free :=
  va_runI hC hM cw ⟨hK_blind, fun U hU hW => ⟨rfl, hK_next hT hZ G hA hU hW⟩⟩ rfl hn hls hst (lv_room hW) hdg hf
end XI2
theorem df_AL : ∀ j, j < 3 → defaultValue (tyJx4a65c j) = vp_V [.int 0, .null, .int 0] j := by decide
/-- the new model, bit by bit -/
abbrev moE (r : List Value) : va_E := .inr (16, [.int 0, .int 0, .int 0] ++ r ++ [.long 0])
abbrev rG0 (ea : Nat) : RG := (0, 0, 0, ea, (fun _ => 0), (fun _ => 0))
set_option maxHeartbeats 4000000 in
set_option maxRecDepth 100000 in
theorem c_X11_init (l : Launch) (D : va_G) (cy : Nat → ClassId) (lay : Nat → Nat) (X : Nat → Option va_E) (ea mi : Nat) {post : RY → Prop} (h0 : X 0 = some (.inr (16, [.int 0, .int 0, .int 0, .null, .null, .null, .null, .null, .null, .null, .null, .null, .long (m64 0 0)]))) (hX : ∀ k, k ≠ 0 → k < 128 → X k = none) {nT : Nat} (h : ∀ L : Nat → Nat, u_X11_init_87 (rG0 ea) (fun σ => post (L, rG0 ea, σ)) nT (fun _ _ => 0) 0) (sz : Nat) : Met l yX11_init wsX11_init rm_X11_init (va_Pc [.ref (lay 0)] (hK D cy lay X ea mi sz)) (va_Qv post (rOz (lay 0) D cy (gA lay X sz)) (gA lay X sz)) 9 145 (gA lay X sz) := by
  refine k_ofW (cc := cX11_init) (maxL := 2) (ret := none) (own := RX11) (Qc := fun sz => va_Qv post (rOz (lay 0) D cy (gA lay X sz)) (gA lay X sz)) (by decide) rfl (Nat.le_of_ble_eq_true rfl) rfl ?_
  intro p e0 s m args below meth c ls hC hr hlocks hname hT hZ G hl
  have hl : lv_has ls 2 [(0, .ref (lay 0))] := hl
  have hA : ∀ q, s.heap.size ≤ q → gA lay X s.heap.size q := fun _ h => Or.inr h
  refine lv_aload_n hC.1 hC.2.1 dX11_init_0 rfl (lv_at hl 0 rfl) ?_
  refine W.objInit hC.1 hC.2.1 hC.2.2.2.1 (hC.2.2.2.2 _ (wm 1 rfl)) (hC.2.2.2.2 _ (wm 2 rfl)) (hC.2.2.2.2 _ (wm 3 rfl)) rfl (by rw [hC.2.2.1]; exact hl.1) rfl dX11_init_1 (Nat.le_of_ble_eq_true rfl) (Nat.le_of_ble_eq_true rfl) ?_
  refine W.eq (g2 := F0 m 4 ls []) rfl ?_
  refine lv_aload_n hC.1 hC.2.1 dX11_init_4 rfl (lv_at hl 0 rfl) ?_
  refine g_new (k := 1) (fs := [.int 0, .null, .int 0]) hC hT.1 G hA (hX 1 (by decide) (by decide)) k_AL i_X11_init_AL (wm 4 rfl) (wm 5 rfl) (wm 6 rfl) df_AL (Nat.le_of_ble_eq_true rfl) (Nat.le_of_ble_eq_true rfl) dX11_init_5 (fun q1 H G => ?_)
  rw [show gU lay 1 q1 1 = q1 from gU_eq]
  refine lv_dup hC.1 hC.2.1 dX11_init_8 rfl ?_
  refine g_v G hA (k_runI (b := gU lay 1 q1 1) (As := []) (rest := [.ref q1, .ref (lay 0)]) hC hT hZ hA G (c_ALi l D cy _ _ ea mi (k := 1) (by decide) gU_eq _) ⟨callB_of 0 hC.2.2.2.2 ggX11_init_Jx4a65c_init_da8c8 rfl rfl rfl (hC.2.2.2.2 (.initialized RJx4a65c) (wm 6 rfl)) (hC.2.2.2.2 (.methodLink RX11 9 yJx4a65c_init_da8c8) (wm 17 rfl)) hdI_ALi ⟨Nat.le_of_ble_eq_true rfl, Nat.le_of_ble_eq_true rfl⟩, rfl, hC.2.2.2.2 (.instanceMethod yJx4a65c_init_da8c8) (wm 18 rfl)⟩ rfl hl.1 (by rw [show gU lay 1 q1 1 = q1 from gU_eq]; rfl) (Nat.le_of_ble_eq_true rfl) dX11_init_9 ⟨Nat.le_of_ble_eq_true rfl, Nat.le_of_ble_eq_true rfl⟩) (fun Y H locs hY G => ?_)
  subst hY
  have G : gG D (gU lay 1 q1) (gU X 1 (some (.inr (4, [.int 0, .ref ea, .int 0])))) (gA lay X s.heap.size) s.heap H locs := gG_up2 G
  refine g_putFA (k := 0) (a := lay 0) (show (gU lay 1 q1) 0 = lay 0 from rfl) hC hT.1 G (by decide) ((gU_ne (by decide)).trans h0) k_X11 i_X11_init_X11 3 (by decide) (wm 7 rfl) rfl hname rfl rfl rfl (by simp) dX11_init_12 (fun H locs G => ?_)
  have G : gG D (gU lay 1 q1) (gU (gU X 1 (some (.inr (4, [.int 0, .ref ea, .int 0])))) 0 (some (.inr (16, [.int 0, .int 0, .int 0, .ref q1, .null, .null, .null, .null, .null, .null, .null, .null, .long (m64 0 0)])))) (gA lay X s.heap.size) s.heap H locs := G
  refine lv_aload_n hC.1 hC.2.1 dX11_init_15 rfl (lv_at hl 0 rfl) ?_
  refine g_new (k := 2) (fs := [.int 0, .null, .int 0]) hC hT.1 G hA (hX 2 (by decide) (by decide)) k_AL i_X11_init_AL (wm 4 rfl) (wm 5 rfl) (wm 6 rfl) df_AL (Nat.le_of_ble_eq_true rfl) (Nat.le_of_ble_eq_true rfl) dX11_init_16 (fun q2 H G => ?_)
  rw [show gU (gU lay 1 q1) 2 q2 2 = q2 from gU_eq]
  refine lv_dup hC.1 hC.2.1 dX11_init_19 rfl ?_
  refine g_v G hA (k_runI (b := gU (gU lay 1 q1) 2 q2 2) (As := []) (rest := [.ref q2, .ref (lay 0)]) hC hT hZ hA G (c_ALi l D cy _ _ ea mi (k := 2) (by decide) gU_eq _) ⟨callB_of 0 hC.2.2.2.2 ggX11_init_Jx4a65c_init_da8c8 rfl rfl rfl (hC.2.2.2.2 (.initialized RJx4a65c) (wm 6 rfl)) (hC.2.2.2.2 (.methodLink RX11 9 yJx4a65c_init_da8c8) (wm 17 rfl)) hdI_ALi ⟨Nat.le_of_ble_eq_true rfl, Nat.le_of_ble_eq_true rfl⟩, rfl, hC.2.2.2.2 (.instanceMethod yJx4a65c_init_da8c8) (wm 18 rfl)⟩ rfl hl.1 (by rw [show gU (gU lay 1 q1) 2 q2 2 = q2 from gU_eq]; rfl) (Nat.le_of_ble_eq_true rfl) dX11_init_20 ⟨Nat.le_of_ble_eq_true rfl, Nat.le_of_ble_eq_true rfl⟩) (fun Y H locs hY G => ?_)
  subst hY
  have G : gG D (gU (gU lay 1 q1) 2 q2) (gU (gU (gU X 1 (some (.inr (4, [.int 0, .ref ea, .int 0])))) 0 (some (.inr (16, [.int 0, .int 0, .int 0, .ref q1, .null, .null, .null, .null, .null, .null, .null, .null, .long (m64 0 0)])))) 2 (some (.inr (4, [.int 0, .ref ea, .int 0])))) (gA lay X s.heap.size) s.heap H locs := gG_up2 G
  refine g_putFA (k := 0) (a := lay 0) (show (gU (gU lay 1 q1) 2 q2) 0 = lay 0 from rfl) hC hT.1 G (by decide) rfl k_X11 i_X11_init_X11 4 (by decide) (wm 8 rfl) rfl hname rfl rfl rfl (by simp) dX11_init_23 (fun H locs G => ?_)
  have G : gG D (gU (gU lay 1 q1) 2 q2) (gU (gU (gU (gU X 1 (some (.inr (4, [.int 0, .ref ea, .int 0])))) 0 (some (.inr (16, [.int 0, .int 0, .int 0, .ref q1, .null, .null, .null, .null, .null, .null, .null, .null, .long (m64 0 0)])))) 2 (some (.inr (4, [.int 0, .ref ea, .int 0])))) 0 (some (.inr (16, [.int 0, .int 0, .int 0, .ref q1, .ref q2, .null, .null, .null, .null, .null, .null, .null, .long (m64 0 0)])))) (gA lay X s.heap.size) s.heap H locs := G
  refine lv_aload_n hC.1 hC.2.1 dX11_init_26 rfl (lv_at hl 0 rfl) ?_
  refine g_new (k := 3) (fs := [.int 0, .null, .int 0]) hC hT.1 G hA (hX 3 (by decide) (by decide)) k_AL i_X11_init_AL (wm 4 rfl) (wm 5 rfl) (wm 6 rfl) df_AL (Nat.le_of_ble_eq_true rfl) (Nat.le_of_ble_eq_true rfl) dX11_init_27 (fun q3 H G => ?_)
  rw [show gU (gU (gU lay 1 q1) 2 q2) 3 q3 3 = q3 from gU_eq]
  refine lv_dup hC.1 hC.2.1 dX11_init_30 rfl ?_
  refine g_v G hA (k_runI (b := gU (gU (gU lay 1 q1) 2 q2) 3 q3 3) (As := []) (rest := [.ref q3, .ref (lay 0)]) hC hT hZ hA G (c_ALi l D cy _ _ ea mi (k := 3) (by decide) gU_eq _) ⟨callB_of 0 hC.2.2.2.2 ggX11_init_Jx4a65c_init_da8c8 rfl rfl rfl (hC.2.2.2.2 (.initialized RJx4a65c) (wm 6 rfl)) (hC.2.2.2.2 (.methodLink RX11 9 yJx4a65c_init_da8c8) (wm 17 rfl)) hdI_ALi ⟨Nat.le_of_ble_eq_true rfl, Nat.le_of_ble_eq_true rfl⟩, rfl, hC.2.2.2.2 (.instanceMethod yJx4a65c_init_da8c8) (wm 18 rfl)⟩ rfl hl.1 (by rw [show gU (gU (gU lay 1 q1) 2 q2) 3 q3 3 = q3 from gU_eq]; rfl) (Nat.le_of_ble_eq_true rfl) dX11_init_31 ⟨Nat.le_of_ble_eq_true rfl, Nat.le_of_ble_eq_true rfl⟩) (fun Y H locs hY G => ?_)
  subst hY
  have G : gG D (gU (gU (gU lay 1 q1) 2 q2) 3 q3) (gU (gU (gU (gU (gU X 1 (some (.inr (4, [.int 0, .ref ea, .int 0])))) 0 (some (.inr (16, [.int 0, .int 0, .int 0, .ref q1, .null, .null, .null, .null, .null, .null, .null, .null, .long (m64 0 0)])))) 2 (some (.inr (4, [.int 0, .ref ea, .int 0])))) 0 (some (.inr (16, [.int 0, .int 0, .int 0, .ref q1, .ref q2, .null, .null, .null, .null, .null, .null, .null, .long (m64 0 0)])))) 3 (some (.inr (4, [.int 0, .ref ea, .int 0])))) (gA lay X s.heap.size) s.heap H locs := gG_up2 G
  refine g_putFA (k := 0) (a := lay 0) (show (gU (gU (gU lay 1 q1) 2 q2) 3 q3) 0 = lay 0 from rfl) hC hT.1 G (by decide) rfl k_X11 i_X11_init_X11 5 (by decide) (wm 9 rfl) rfl hname rfl rfl rfl (by simp) dX11_init_34 (fun H locs G => ?_)
  have G : gG D (gU (gU (gU lay 1 q1) 2 q2) 3 q3) (gU (gU (gU (gU (gU (gU X 1 (some (.inr (4, [.int 0, .ref ea, .int 0])))) 0 (some (.inr (16, [.int 0, .int 0, .int 0, .ref q1, .null, .null, .null, .null, .null, .null, .null, .null, .long (m64 0 0)])))) 2 (some (.inr (4, [.int 0, .ref ea, .int 0])))) 0 (some (.inr (16, [.int 0, .int 0, .int 0, .ref q1, .ref q2, .null, .null, .null, .null, .null, .null, .null, .long (m64 0 0)])))) 3 (some (.inr (4, [.int 0, .ref ea, .int 0])))) 0 (some (.inr (16, [.int 0, .int 0, .int 0, .ref q1, .ref q2, .ref q3, .null, .null, .null, .null, .null, .null, .long (m64 0 0)])))) (gA lay X s.heap.size) s.heap H locs := G
  refine lv_aload_n hC.1 hC.2.1 dX11_init_37 rfl (lv_at hl 0 rfl) ?_
  refine lv_bipush (v := 16) hC.1 hC.2.1 dX11_init_38 (by decide) ?_
  refine k_newi (k := 7) (N := 16) hC hT.1 G hA (hX 7 (by decide) (by decide)) (wm 10 rfl) (by decide) (by decide) (by decide) (Nat.le_of_ble_eq_true rfl) (Nat.le_of_ble_eq_true rfl) dX11_init_40 (fun q7 H G => ?_)
  have G : gG D (gU (gU (gU (gU lay 1 q1) 2 q2) 3 q3) 7 q7) (gU (gU (gU (gU (gU (gU (gU X 1 (some (.inr (4, [.int 0, .ref ea, .int 0])))) 0 (some (.inr (16, [.int 0, .int 0, .int 0, .ref q1, .null, .null, .null, .null, .null, .null, .null, .null, .long (m64 0 0)])))) 2 (some (.inr (4, [.int 0, .ref ea, .int 0])))) 0 (some (.inr (16, [.int 0, .int 0, .int 0, .ref q1, .ref q2, .null, .null, .null, .null, .null, .null, .null, .long (m64 0 0)])))) 3 (some (.inr (4, [.int 0, .ref ea, .int 0])))) 0 (some (.inr (16, [.int 0, .int 0, .int 0, .ref q1, .ref q2, .ref q3, .null, .null, .null, .null, .null, .null, .long (m64 0 0)])))) 7 (some (.inl (cy 0, 16, .inl fun _ => 0)))) (gA lay X s.heap.size) s.heap H _ := G
  refine g_putFA (k := 0) (a := lay 0) (show (gU (gU (gU (gU lay 1 q1) 2 q2) 3 q3) 7 q7) 0 = lay 0 from rfl) hC hT.1 G (by decide) rfl k_X11 i_X11_init_X11 6 (by decide) (wm 11 rfl) rfl hname rfl rfl rfl (by simp) dX11_init_42 (fun H locs G => ?_)
  have G : gG D (gU (gU (gU (gU lay 1 q1) 2 q2) 3 q3) 7 q7) (gU (gU (gU (gU (gU (gU (gU (gU X 1 (some (.inr (4, [.int 0, .ref ea, .int 0])))) 0 (some (.inr (16, [.int 0, .int 0, .int 0, .ref q1, .null, .null, .null, .null, .null, .null, .null, .null, .long (m64 0 0)])))) 2 (some (.inr (4, [.int 0, .ref ea, .int 0])))) 0 (some (.inr (16, [.int 0, .int 0, .int 0, .ref q1, .ref q2, .null, .null, .null, .null, .null, .null, .null, .long (m64 0 0)])))) 3 (some (.inr (4, [.int 0, .ref ea, .int 0])))) 0 (some (.inr (16, [.int 0, .int 0, .int 0, .ref q1, .ref q2, .ref q3, .null, .null, .null, .null, .null, .null, .long (m64 0 0)])))) 7 (some (.inl (cy 0, 16, .inl fun _ => 0)))) 0 (some (.inr (16, [.int 0, .int 0, .int 0, .ref q1, .ref q2, .ref q3, .ref q7, .null, .null, .null, .null, .null, .long (m64 0 0)])))) (gA lay X s.heap.size) s.heap H locs := G
  refine lv_aload_n hC.1 hC.2.1 dX11_init_45 rfl (lv_at hl 0 rfl) ?_
  refine lv_bipush (v := 16) hC.1 hC.2.1 dX11_init_46 (by decide) ?_
  refine k_newi (k := 8) (N := 16) hC hT.1 G hA (hX 8 (by decide) (by decide)) (wm 10 rfl) (by decide) (by decide) (by decide) (Nat.le_of_ble_eq_true rfl) (Nat.le_of_ble_eq_true rfl) dX11_init_48 (fun q8 H G => ?_)
  have G : gG D (gU (gU (gU (gU (gU lay 1 q1) 2 q2) 3 q3) 7 q7) 8 q8) (gU (gU (gU (gU (gU (gU (gU (gU (gU X 1 (some (.inr (4, [.int 0, .ref ea, .int 0])))) 0 (some (.inr (16, [.int 0, .int 0, .int 0, .ref q1, .null, .null, .null, .null, .null, .null, .null, .null, .long (m64 0 0)])))) 2 (some (.inr (4, [.int 0, .ref ea, .int 0])))) 0 (some (.inr (16, [.int 0, .int 0, .int 0, .ref q1, .ref q2, .null, .null, .null, .null, .null, .null, .null, .long (m64 0 0)])))) 3 (some (.inr (4, [.int 0, .ref ea, .int 0])))) 0 (some (.inr (16, [.int 0, .int 0, .int 0, .ref q1, .ref q2, .ref q3, .null, .null, .null, .null, .null, .null, .long (m64 0 0)])))) 7 (some (.inl (cy 0, 16, .inl fun _ => 0)))) 0 (some (.inr (16, [.int 0, .int 0, .int 0, .ref q1, .ref q2, .ref q3, .ref q7, .null, .null, .null, .null, .null, .long (m64 0 0)])))) 8 (some (.inl (cy 0, 16, .inl fun _ => 0)))) (gA lay X s.heap.size) s.heap H _ := G
  refine g_putFA (k := 0) (a := lay 0) (show (gU (gU (gU (gU (gU lay 1 q1) 2 q2) 3 q3) 7 q7) 8 q8) 0 = lay 0 from rfl) hC hT.1 G (by decide) rfl k_X11 i_X11_init_X11 7 (by decide) (wm 12 rfl) rfl hname rfl rfl rfl (by simp) dX11_init_50 (fun H locs G => ?_)
  have G : gG D (gU (gU (gU (gU (gU lay 1 q1) 2 q2) 3 q3) 7 q7) 8 q8) (gU (gU (gU (gU (gU (gU (gU (gU (gU (gU X 1 (some (.inr (4, [.int 0, .ref ea, .int 0])))) 0 (some (.inr (16, [.int 0, .int 0, .int 0, .ref q1, .null, .null, .null, .null, .null, .null, .null, .null, .long (m64 0 0)])))) 2 (some (.inr (4, [.int 0, .ref ea, .int 0])))) 0 (some (.inr (16, [.int 0, .int 0, .int 0, .ref q1, .ref q2, .null, .null, .null, .null, .null, .null, .null, .long (m64 0 0)])))) 3 (some (.inr (4, [.int 0, .ref ea, .int 0])))) 0 (some (.inr (16, [.int 0, .int 0, .int 0, .ref q1, .ref q2, .ref q3, .null, .null, .null, .null, .null, .null, .long (m64 0 0)])))) 7 (some (.inl (cy 0, 16, .inl fun _ => 0)))) 0 (some (.inr (16, [.int 0, .int 0, .int 0, .ref q1, .ref q2, .ref q3, .ref q7, .null, .null, .null, .null, .null, .long (m64 0 0)])))) 8 (some (.inl (cy 0, 16, .inl fun _ => 0)))) 0 (some (.inr (16, [.int 0, .int 0, .int 0, .ref q1, .ref q2, .ref q3, .ref q7, .ref q8, .null, .null, .null, .null, .long (m64 0 0)])))) (gA lay X s.heap.size) s.heap H locs := G
  refine lv_aload_n hC.1 hC.2.1 dX11_init_53 rfl (lv_at hl 0 rfl) ?_
  refine lv_bipush (v := 16) hC.1 hC.2.1 dX11_init_54 (by decide) ?_
  refine k_newi (k := 9) (N := 16) hC hT.1 G hA (hX 9 (by decide) (by decide)) (wm 10 rfl) (by decide) (by decide) (by decide) (Nat.le_of_ble_eq_true rfl) (Nat.le_of_ble_eq_true rfl) dX11_init_56 (fun q9 H G => ?_)
  have G : gG D (gU (gU (gU (gU (gU (gU lay 1 q1) 2 q2) 3 q3) 7 q7) 8 q8) 9 q9) (gU (gU (gU (gU (gU (gU (gU (gU (gU (gU (gU X 1 (some (.inr (4, [.int 0, .ref ea, .int 0])))) 0 (some (.inr (16, [.int 0, .int 0, .int 0, .ref q1, .null, .null, .null, .null, .null, .null, .null, .null, .long (m64 0 0)])))) 2 (some (.inr (4, [.int 0, .ref ea, .int 0])))) 0 (some (.inr (16, [.int 0, .int 0, .int 0, .ref q1, .ref q2, .null, .null, .null, .null, .null, .null, .null, .long (m64 0 0)])))) 3 (some (.inr (4, [.int 0, .ref ea, .int 0])))) 0 (some (.inr (16, [.int 0, .int 0, .int 0, .ref q1, .ref q2, .ref q3, .null, .null, .null, .null, .null, .null, .long (m64 0 0)])))) 7 (some (.inl (cy 0, 16, .inl fun _ => 0)))) 0 (some (.inr (16, [.int 0, .int 0, .int 0, .ref q1, .ref q2, .ref q3, .ref q7, .null, .null, .null, .null, .null, .long (m64 0 0)])))) 8 (some (.inl (cy 0, 16, .inl fun _ => 0)))) 0 (some (.inr (16, [.int 0, .int 0, .int 0, .ref q1, .ref q2, .ref q3, .ref q7, .ref q8, .null, .null, .null, .null, .long (m64 0 0)])))) 9 (some (.inl (cy 0, 16, .inl fun _ => 0)))) (gA lay X s.heap.size) s.heap H _ := G
  refine g_putFA (k := 0) (a := lay 0) (show (gU (gU (gU (gU (gU (gU lay 1 q1) 2 q2) 3 q3) 7 q7) 8 q8) 9 q9) 0 = lay 0 from rfl) hC hT.1 G (by decide) rfl k_X11 i_X11_init_X11 8 (by decide) (wm 13 rfl) rfl hname rfl rfl rfl (by simp) dX11_init_58 (fun H locs G => ?_)
  have G : gG D (gU (gU (gU (gU (gU (gU lay 1 q1) 2 q2) 3 q3) 7 q7) 8 q8) 9 q9) (gU (gU (gU (gU (gU (gU (gU (gU (gU (gU (gU (gU X 1 (some (.inr (4, [.int 0, .ref ea, .int 0])))) 0 (some (.inr (16, [.int 0, .int 0, .int 0, .ref q1, .null, .null, .null, .null, .null, .null, .null, .null, .long (m64 0 0)])))) 2 (some (.inr (4, [.int 0, .ref ea, .int 0])))) 0 (some (.inr (16, [.int 0, .int 0, .int 0, .ref q1, .ref q2, .null, .null, .null, .null, .null, .null, .null, .long (m64 0 0)])))) 3 (some (.inr (4, [.int 0, .ref ea, .int 0])))) 0 (some (.inr (16, [.int 0, .int 0, .int 0, .ref q1, .ref q2, .ref q3, .null, .null, .null, .null, .null, .null, .long (m64 0 0)])))) 7 (some (.inl (cy 0, 16, .inl fun _ => 0)))) 0 (some (.inr (16, [.int 0, .int 0, .int 0, .ref q1, .ref q2, .ref q3, .ref q7, .null, .null, .null, .null, .null, .long (m64 0 0)])))) 8 (some (.inl (cy 0, 16, .inl fun _ => 0)))) 0 (some (.inr (16, [.int 0, .int 0, .int 0, .ref q1, .ref q2, .ref q3, .ref q7, .ref q8, .null, .null, .null, .null, .long (m64 0 0)])))) 9 (some (.inl (cy 0, 16, .inl fun _ => 0)))) 0 (some (.inr (16, [.int 0, .int 0, .int 0, .ref q1, .ref q2, .ref q3, .ref q7, .ref q8, .ref q9, .null, .null, .null, .long (m64 0 0)])))) (gA lay X s.heap.size) s.heap H locs := G
  refine lv_aload_n hC.1 hC.2.1 dX11_init_61 rfl (lv_at hl 0 rfl) ?_
  refine lv_bipush (v := 16) hC.1 hC.2.1 dX11_init_62 (by decide) ?_
  refine k_newi (k := 10) (N := 16) hC hT.1 G hA (hX 10 (by decide) (by decide)) (wm 10 rfl) (by decide) (by decide) (by decide) (Nat.le_of_ble_eq_true rfl) (Nat.le_of_ble_eq_true rfl) dX11_init_64 (fun q10 H G => ?_)
  have G : gG D (gU (gU (gU (gU (gU (gU (gU lay 1 q1) 2 q2) 3 q3) 7 q7) 8 q8) 9 q9) 10 q10) (gU (gU (gU (gU (gU (gU (gU (gU (gU (gU (gU (gU (gU X 1 (some (.inr (4, [.int 0, .ref ea, .int 0])))) 0 (some (.inr (16, [.int 0, .int 0, .int 0, .ref q1, .null, .null, .null, .null, .null, .null, .null, .null, .long (m64 0 0)])))) 2 (some (.inr (4, [.int 0, .ref ea, .int 0])))) 0 (some (.inr (16, [.int 0, .int 0, .int 0, .ref q1, .ref q2, .null, .null, .null, .null, .null, .null, .null, .long (m64 0 0)])))) 3 (some (.inr (4, [.int 0, .ref ea, .int 0])))) 0 (some (.inr (16, [.int 0, .int 0, .int 0, .ref q1, .ref q2, .ref q3, .null, .null, .null, .null, .null, .null, .long (m64 0 0)])))) 7 (some (.inl (cy 0, 16, .inl fun _ => 0)))) 0 (some (.inr (16, [.int 0, .int 0, .int 0, .ref q1, .ref q2, .ref q3, .ref q7, .null, .null, .null, .null, .null, .long (m64 0 0)])))) 8 (some (.inl (cy 0, 16, .inl fun _ => 0)))) 0 (some (.inr (16, [.int 0, .int 0, .int 0, .ref q1, .ref q2, .ref q3, .ref q7, .ref q8, .null, .null, .null, .null, .long (m64 0 0)])))) 9 (some (.inl (cy 0, 16, .inl fun _ => 0)))) 0 (some (.inr (16, [.int 0, .int 0, .int 0, .ref q1, .ref q2, .ref q3, .ref q7, .ref q8, .ref q9, .null, .null, .null, .long (m64 0 0)])))) 10 (some (.inl (cy 0, 16, .inl fun _ => 0)))) (gA lay X s.heap.size) s.heap H _ := G
  refine g_putFA (k := 0) (a := lay 0) (show (gU (gU (gU (gU (gU (gU (gU lay 1 q1) 2 q2) 3 q3) 7 q7) 8 q8) 9 q9) 10 q10) 0 = lay 0 from rfl) hC hT.1 G (by decide) rfl k_X11 i_X11_init_X11 9 (by decide) (wm 14 rfl) rfl hname rfl rfl rfl (by simp) dX11_init_66 (fun H locs G => ?_)
  have G : gG D (gU (gU (gU (gU (gU (gU (gU lay 1 q1) 2 q2) 3 q3) 7 q7) 8 q8) 9 q9) 10 q10) (gU (gU (gU (gU (gU (gU (gU (gU (gU (gU (gU (gU (gU (gU X 1 (some (.inr (4, [.int 0, .ref ea, .int 0])))) 0 (some (.inr (16, [.int 0, .int 0, .int 0, .ref q1, .null, .null, .null, .null, .null, .null, .null, .null, .long (m64 0 0)])))) 2 (some (.inr (4, [.int 0, .ref ea, .int 0])))) 0 (some (.inr (16, [.int 0, .int 0, .int 0, .ref q1, .ref q2, .null, .null, .null, .null, .null, .null, .null, .long (m64 0 0)])))) 3 (some (.inr (4, [.int 0, .ref ea, .int 0])))) 0 (some (.inr (16, [.int 0, .int 0, .int 0, .ref q1, .ref q2, .ref q3, .null, .null, .null, .null, .null, .null, .long (m64 0 0)])))) 7 (some (.inl (cy 0, 16, .inl fun _ => 0)))) 0 (some (.inr (16, [.int 0, .int 0, .int 0, .ref q1, .ref q2, .ref q3, .ref q7, .null, .null, .null, .null, .null, .long (m64 0 0)])))) 8 (some (.inl (cy 0, 16, .inl fun _ => 0)))) 0 (some (.inr (16, [.int 0, .int 0, .int 0, .ref q1, .ref q2, .ref q3, .ref q7, .ref q8, .null, .null, .null, .null, .long (m64 0 0)])))) 9 (some (.inl (cy 0, 16, .inl fun _ => 0)))) 0 (some (.inr (16, [.int 0, .int 0, .int 0, .ref q1, .ref q2, .ref q3, .ref q7, .ref q8, .ref q9, .null, .null, .null, .long (m64 0 0)])))) 10 (some (.inl (cy 0, 16, .inl fun _ => 0)))) 0 (some (.inr (16, [.int 0, .int 0, .int 0, .ref q1, .ref q2, .ref q3, .ref q7, .ref q8, .ref q9, .ref q10, .null, .null, .long (m64 0 0)])))) (gA lay X s.heap.size) s.heap H locs := G
  refine lv_aload_n hC.1 hC.2.1 dX11_init_69 rfl (lv_at hl 0 rfl) ?_
  refine lv_bipush (v := 36) hC.1 hC.2.1 dX11_init_70 (by decide) ?_
  refine k_newi (k := 11) (N := 36) hC hT.1 G hA (hX 11 (by decide) (by decide)) (wm 10 rfl) (by decide) (by decide) (by decide) (Nat.le_of_ble_eq_true rfl) (Nat.le_of_ble_eq_true rfl) dX11_init_72 (fun q11 H G => ?_)
  have G : gG D (gU (gU (gU (gU (gU (gU (gU (gU lay 1 q1) 2 q2) 3 q3) 7 q7) 8 q8) 9 q9) 10 q10) 11 q11) (gU (gU (gU (gU (gU (gU (gU (gU (gU (gU (gU (gU (gU (gU (gU X 1 (some (.inr (4, [.int 0, .ref ea, .int 0])))) 0 (some (.inr (16, [.int 0, .int 0, .int 0, .ref q1, .null, .null, .null, .null, .null, .null, .null, .null, .long (m64 0 0)])))) 2 (some (.inr (4, [.int 0, .ref ea, .int 0])))) 0 (some (.inr (16, [.int 0, .int 0, .int 0, .ref q1, .ref q2, .null, .null, .null, .null, .null, .null, .null, .long (m64 0 0)])))) 3 (some (.inr (4, [.int 0, .ref ea, .int 0])))) 0 (some (.inr (16, [.int 0, .int 0, .int 0, .ref q1, .ref q2, .ref q3, .null, .null, .null, .null, .null, .null, .long (m64 0 0)])))) 7 (some (.inl (cy 0, 16, .inl fun _ => 0)))) 0 (some (.inr (16, [.int 0, .int 0, .int 0, .ref q1, .ref q2, .ref q3, .ref q7, .null, .null, .null, .null, .null, .long (m64 0 0)])))) 8 (some (.inl (cy 0, 16, .inl fun _ => 0)))) 0 (some (.inr (16, [.int 0, .int 0, .int 0, .ref q1, .ref q2, .ref q3, .ref q7, .ref q8, .null, .null, .null, .null, .long (m64 0 0)])))) 9 (some (.inl (cy 0, 16, .inl fun _ => 0)))) 0 (some (.inr (16, [.int 0, .int 0, .int 0, .ref q1, .ref q2, .ref q3, .ref q7, .ref q8, .ref q9, .null, .null, .null, .long (m64 0 0)])))) 10 (some (.inl (cy 0, 16, .inl fun _ => 0)))) 0 (some (.inr (16, [.int 0, .int 0, .int 0, .ref q1, .ref q2, .ref q3, .ref q7, .ref q8, .ref q9, .ref q10, .null, .null, .long (m64 0 0)])))) 11 (some (.inl (cy 0, 36, .inl fun _ => 0)))) (gA lay X s.heap.size) s.heap H _ := G
  refine g_putFA (k := 0) (a := lay 0) (show (gU (gU (gU (gU (gU (gU (gU (gU lay 1 q1) 2 q2) 3 q3) 7 q7) 8 q8) 9 q9) 10 q10) 11 q11) 0 = lay 0 from rfl) hC hT.1 G (by decide) rfl k_X11 i_X11_init_X11 10 (by decide) (wm 15 rfl) rfl hname rfl rfl rfl (by simp) dX11_init_74 (fun H locs G => ?_)
  have G : gG D (gU (gU (gU (gU (gU (gU (gU (gU lay 1 q1) 2 q2) 3 q3) 7 q7) 8 q8) 9 q9) 10 q10) 11 q11) (gU (gU (gU (gU (gU (gU (gU (gU (gU (gU (gU (gU (gU (gU (gU (gU X 1 (some (.inr (4, [.int 0, .ref ea, .int 0])))) 0 (some (.inr (16, [.int 0, .int 0, .int 0, .ref q1, .null, .null, .null, .null, .null, .null, .null, .null, .long (m64 0 0)])))) 2 (some (.inr (4, [.int 0, .ref ea, .int 0])))) 0 (some (.inr (16, [.int 0, .int 0, .int 0, .ref q1, .ref q2, .null, .null, .null, .null, .null, .null, .null, .long (m64 0 0)])))) 3 (some (.inr (4, [.int 0, .ref ea, .int 0])))) 0 (some (.inr (16, [.int 0, .int 0, .int 0, .ref q1, .ref q2, .ref q3, .null, .null, .null, .null, .null, .null, .long (m64 0 0)])))) 7 (some (.inl (cy 0, 16, .inl fun _ => 0)))) 0 (some (.inr (16, [.int 0, .int 0, .int 0, .ref q1, .ref q2, .ref q3, .ref q7, .null, .null, .null, .null, .null, .long (m64 0 0)])))) 8 (some (.inl (cy 0, 16, .inl fun _ => 0)))) 0 (some (.inr (16, [.int 0, .int 0, .int 0, .ref q1, .ref q2, .ref q3, .ref q7, .ref q8, .null, .null, .null, .null, .long (m64 0 0)])))) 9 (some (.inl (cy 0, 16, .inl fun _ => 0)))) 0 (some (.inr (16, [.int 0, .int 0, .int 0, .ref q1, .ref q2, .ref q3, .ref q7, .ref q8, .ref q9, .null, .null, .null, .long (m64 0 0)])))) 10 (some (.inl (cy 0, 16, .inl fun _ => 0)))) 0 (some (.inr (16, [.int 0, .int 0, .int 0, .ref q1, .ref q2, .ref q3, .ref q7, .ref q8, .ref q9, .ref q10, .null, .null, .long (m64 0 0)])))) 11 (some (.inl (cy 0, 36, .inl fun _ => 0)))) 0 (some (.inr (16, [.int 0, .int 0, .int 0, .ref q1, .ref q2, .ref q3, .ref q7, .ref q8, .ref q9, .ref q10, .ref q11, .null, .long (m64 0 0)])))) (gA lay X s.heap.size) s.heap H locs := G
  refine lv_aload_n hC.1 hC.2.1 dX11_init_77 rfl (lv_at hl 0 rfl) ?_
  refine lv_bipush (v := 36) hC.1 hC.2.1 dX11_init_78 (by decide) ?_
  refine k_newi (k := 12) (N := 36) hC hT.1 G hA (hX 12 (by decide) (by decide)) (wm 10 rfl) (by decide) (by decide) (by decide) (Nat.le_of_ble_eq_true rfl) (Nat.le_of_ble_eq_true rfl) dX11_init_80 (fun q12 H G => ?_)
  have G : gG D (gU (gU (gU (gU (gU (gU (gU (gU (gU lay 1 q1) 2 q2) 3 q3) 7 q7) 8 q8) 9 q9) 10 q10) 11 q11) 12 q12) (gU (gU (gU (gU (gU (gU (gU (gU (gU (gU (gU (gU (gU (gU (gU (gU (gU X 1 (some (.inr (4, [.int 0, .ref ea, .int 0])))) 0 (some (.inr (16, [.int 0, .int 0, .int 0, .ref q1, .null, .null, .null, .null, .null, .null, .null, .null, .long (m64 0 0)])))) 2 (some (.inr (4, [.int 0, .ref ea, .int 0])))) 0 (some (.inr (16, [.int 0, .int 0, .int 0, .ref q1, .ref q2, .null, .null, .null, .null, .null, .null, .null, .long (m64 0 0)])))) 3 (some (.inr (4, [.int 0, .ref ea, .int 0])))) 0 (some (.inr (16, [.int 0, .int 0, .int 0, .ref q1, .ref q2, .ref q3, .null, .null, .null, .null, .null, .null, .long (m64 0 0)])))) 7 (some (.inl (cy 0, 16, .inl fun _ => 0)))) 0 (some (.inr (16, [.int 0, .int 0, .int 0, .ref q1, .ref q2, .ref q3, .ref q7, .null, .null, .null, .null, .null, .long (m64 0 0)])))) 8 (some (.inl (cy 0, 16, .inl fun _ => 0)))) 0 (some (.inr (16, [.int 0, .int 0, .int 0, .ref q1, .ref q2, .ref q3, .ref q7, .ref q8, .null, .null, .null, .null, .long (m64 0 0)])))) 9 (some (.inl (cy 0, 16, .inl fun _ => 0)))) 0 (some (.inr (16, [.int 0, .int 0, .int 0, .ref q1, .ref q2, .ref q3, .ref q7, .ref q8, .ref q9, .null, .null, .null, .long (m64 0 0)])))) 10 (some (.inl (cy 0, 16, .inl fun _ => 0)))) 0 (some (.inr (16, [.int 0, .int 0, .int 0, .ref q1, .ref q2, .ref q3, .ref q7, .ref q8, .ref q9, .ref q10, .null, .null, .long (m64 0 0)])))) 11 (some (.inl (cy 0, 36, .inl fun _ => 0)))) 0 (some (.inr (16, [.int 0, .int 0, .int 0, .ref q1, .ref q2, .ref q3, .ref q7, .ref q8, .ref q9, .ref q10, .ref q11, .null, .long (m64 0 0)])))) 12 (some (.inl (cy 0, 36, .inl fun _ => 0)))) (gA lay X s.heap.size) s.heap H _ := G
  refine g_putFA (k := 0) (a := lay 0) (show (gU (gU (gU (gU (gU (gU (gU (gU (gU lay 1 q1) 2 q2) 3 q3) 7 q7) 8 q8) 9 q9) 10 q10) 11 q11) 12 q12) 0 = lay 0 from rfl) hC hT.1 G (by decide) rfl k_X11 i_X11_init_X11 11 (by decide) (wm 16 rfl) rfl hname rfl rfl rfl (by simp) dX11_init_82 (fun H locs G => ?_)
  have G : gG D (gU (gU (gU (gU (gU (gU (gU (gU (gU lay 1 q1) 2 q2) 3 q3) 7 q7) 8 q8) 9 q9) 10 q10) 11 q11) 12 q12) (gU (gU (gU (gU (gU (gU (gU (gU (gU (gU (gU (gU (gU (gU (gU (gU (gU (gU X 1 (some (.inr (4, [.int 0, .ref ea, .int 0])))) 0 (some (.inr (16, [.int 0, .int 0, .int 0, .ref q1, .null, .null, .null, .null, .null, .null, .null, .null, .long (m64 0 0)])))) 2 (some (.inr (4, [.int 0, .ref ea, .int 0])))) 0 (some (.inr (16, [.int 0, .int 0, .int 0, .ref q1, .ref q2, .null, .null, .null, .null, .null, .null, .null, .long (m64 0 0)])))) 3 (some (.inr (4, [.int 0, .ref ea, .int 0])))) 0 (some (.inr (16, [.int 0, .int 0, .int 0, .ref q1, .ref q2, .ref q3, .null, .null, .null, .null, .null, .null, .long (m64 0 0)])))) 7 (some (.inl (cy 0, 16, .inl fun _ => 0)))) 0 (some (.inr (16, [.int 0, .int 0, .int 0, .ref q1, .ref q2, .ref q3, .ref q7, .null, .null, .null, .null, .null, .long (m64 0 0)])))) 8 (some (.inl (cy 0, 16, .inl fun _ => 0)))) 0 (some (.inr (16, [.int 0, .int 0, .int 0, .ref q1, .ref q2, .ref q3, .ref q7, .ref q8, .null, .null, .null, .null, .long (m64 0 0)])))) 9 (some (.inl (cy 0, 16, .inl fun _ => 0)))) 0 (some (.inr (16, [.int 0, .int 0, .int 0, .ref q1, .ref q2, .ref q3, .ref q7, .ref q8, .ref q9, .null, .null, .null, .long (m64 0 0)])))) 10 (some (.inl (cy 0, 16, .inl fun _ => 0)))) 0 (some (.inr (16, [.int 0, .int 0, .int 0, .ref q1, .ref q2, .ref q3, .ref q7, .ref q8, .ref q9, .ref q10, .null, .null, .long (m64 0 0)])))) 11 (some (.inl (cy 0, 36, .inl fun _ => 0)))) 0 (some (.inr (16, [.int 0, .int 0, .int 0, .ref q1, .ref q2, .ref q3, .ref q7, .ref q8, .ref q9, .ref q10, .ref q11, .null, .long (m64 0 0)])))) 12 (some (.inl (cy 0, 36, .inl fun _ => 0)))) 0 (some (.inr (16, [.int 0, .int 0, .int 0, .ref q1, .ref q2, .ref q3, .ref q7, .ref q8, .ref q9, .ref q10, .ref q11, .ref q12, .long (m64 0 0)])))) (gA lay X s.heap.size) s.heap H locs := G
  refine lv_iconst (v := 0) hC.1 hC.2.1 dX11_init_85 (by decide) ?_
  refine lv_istore_n (lv' := [(1, .int 0), (0, .ref (lay 0))]) hC.1 hC.2.1 dX11_init_86 rfl hl (by decide) rfl (fun ls hl => ?_)
  obtain ⟨L, hL⟩ : ∃ L : Nat → Nat, L = (gU (gU (gU (gU (gU (gU (gU (gU (gU lay 1 q1) 2 q2) 3 q3) 7 q7) 8 q8) 9 q9) 10 q10) 11 q11) 12 q12) := ⟨_, rfl⟩
  have G : gG D L (rX cy L (rG0 ea) tn (fun _ _ => 0)) (gA lay X s.heap.size) s.heap H locs := by
    rw [hL]
    refine gG_eq (fun k hk => ?_) G
    match k, hk with
    | 0, _ => rfl
    | 1, _ => rfl
    | 2, _ => rfl
    | 3, _ => rfl
    | 4, _ => exact hX 4 (by decide) (by decide)
    | 5, _ => exact hX 5 (by decide) (by decide)
    | 6, _ => exact hX 6 (by decide) (by decide)
    | 7, _ => rfl
    | 8, _ => rfl
    | 9, _ => rfl
    | 10, _ => rfl
    | 11, _ => rfl
    | 12, _ => rfl
    | k + 13, hk =>
      repeat rw [gU_ne (by omega)]
      rw [hX (k + 13) (by omega) hk]
      symm
      unfold rX
      rw [if_neg (by omega), if_neg (by omega), if_neg (by omega), if_neg (by omega), if_neg (by omega), if_neg (by omega), if_neg (by omega), if_neg (by omega), if_neg (by omega)]
      by_cases c9 : k + 13 < 23
      · rw [if_pos c9, if_neg (Nat.not_lt_zero _)]
      rw [if_neg c9]
      by_cases c10 : k + 13 < 33
      · rw [if_pos c10, if_neg (Nat.not_lt_zero _)]
      rw [if_neg c10]
      by_cases c11 : k + 13 < 47
      · rw [if_pos c11, if_neg (Nat.not_lt_zero _)]
      rw [if_neg c11]
      by_cases c12 : k + 13 < 64
      · rw [if_pos c12]
      rw [if_neg c12]
      rfl
  have hL0 : L 0 = lay 0 := by rw [hL]; rfl
  have hAe : gA lay X s.heap.size = rA cy L (rG0 ea) s.heap.size := by
    funext q
    apply propext
    constructor
    · rintro (⟨k, e, hk, hx, rfl⟩ | hq)
      · by_cases hk0 : k = 0
        · subst hk0
          exact Or.inl ⟨0, by decide, rfl, hL0.symm⟩
        · rw [hX k hk0 hk] at hx
          cases hx
      · exact Or.inr hq
    · rintro (⟨k, hk, hx, rfl⟩ | hq)
      · rw [r_some (lay' := L) (tm' := tn) (σ' := fun _ _ => 0) hk] at hx
        cases hx2 : rX cy L (rG0 ea) tn (fun _ _ => 0) k with
        | none => rw [hx2] at hx; cases hx
        | some e => exact G.2.1.2 k e (by omega) hx2
      · exact Or.inr hq
  rw [hAe] at G ⊢
  have hT2 : rT D cy L (rG0 ea) s := ⟨hT.1, hT.2, ⟨⟨hZ.2.1.elim (fun cell hc => ⟨cell, hc.1⟩), by rw [← hAe]; exact hZ.2.2.1⟩, fun i hi => absurd hi (Nat.not_lt_zero _)⟩, ⟨Nat.zero_le _, Nat.zero_le _, Nat.zero_le _⟩⟩
  exact l_X11_init_87 hL0 hC hr hlocks hT2 nT _ _ (h L) _ _ _ G (by rw [hL0]; exact hl)
end
section
/-! LAWS OF THE REFERENCE: the checks -/
def rIsF (a lo hi : Int32) : Int32 := if a < lo ∨ hi < a then 0 else 1
theorem rIsF_nar {a lo hi : Int32} : narrow .boolean (.int (rIsF a lo hi)) = .int (rIsF a lo hi) := by
  unfold rIsF
  by_cases c : a < lo ∨ hi < a
  · rw [if_pos c]; rfl
  · rw [if_neg c]; rfl
theorem rIsF_0 {a lo hi : Int32} : rIsF a lo hi = 0 ↔ (a < lo ∨ hi < a) := by
  unfold rIsF
  by_cases c : a < lo ∨ hi < a
  · rw [if_pos c]; exact ⟨fun _ => c, fun _ => rfl⟩
  · rw [if_neg c]; exact ⟨fun z => absurd z (by decide), fun z => absurd z c⟩
section RLAW
variable {Γ : RG} {σ : MS} {post : Int32 → MS → Prop} {a a0 a1 a2 : Int32}
theorem law_X11_is (h : post (rIsF a0 a1 a2) σ) : w_X11_is Γ post σ a0 a1 a2 := by
  unfold w_X11_is
  refine ⟨fun c => ?_, fun c => ⟨fun d => ?_, fun d => ?_⟩⟩
  · rw [show rIsF a0 a1 a2 = 0 from if_pos (Or.inl c)] at h; exact h
  · rw [show rIsF a0 a1 a2 = 0 from if_pos (Or.inr d)] at h; exact h
  · rw [show rIsF a0 a1 a2 = 1 from if_neg (fun z => z.elim c d)] at h; exact h
theorem law_X11_isTown (h : post (rIsF a 0 5) σ) : w_X11_isTown Γ post σ a := by
  unfold w_X11_isTown
  exact law_X11_is ⟨rIsF_nar, h⟩
theorem law_X11_areSongs (h : post (rIsF a 0 65535) σ) : w_X11_areSongs Γ post σ a := by
  unfold w_X11_areSongs
  exact law_X11_is ⟨rIsF_nar, h⟩
theorem law_X11_isDay (h : post (rIsF a (σ 0 1) 365) σ) : w_X11_isDay Γ post σ a := by
  unfold w_X11_isDay
  exact law_X11_is ⟨rIsF_nar, h⟩
theorem law_X11_isPlayer (h : post (rIsF a 0 (σ 1 2 - 1)) σ) : w_X11_isPlayer Γ post σ a := by
  unfold w_X11_isPlayer w_lp_Jx4a65c_size_8abf5
  exact law_X11_is ⟨rIsF_nar, h⟩
theorem law_X11_isBand (h : post (rIsF a 0 (σ 2 2 - 1)) σ) : w_X11_isBand Γ post σ a := by
  unfold w_X11_isBand w_lb_Jx4a65c_size_8abf5
  exact law_X11_is ⟨rIsF_nar, h⟩
theorem law_X11_isWedding (h : post (rIsF a 0 (σ 3 2 - 1)) σ) : w_X11_isWedding Γ post σ a := by
  unfold w_X11_isWedding w_lw_Jx4a65c_size_8abf5
  exact law_X11_is ⟨rIsF_nar, h⟩
theorem law_X11_refuse (h : post 0 (up2 σ 0 0 a)) : w_X11_refuse Γ post σ a := by
  unfold w_X11_refuse
  exact h
/-- player: what it answers, what it leaves -/
theorem law_X11_player {lay : Nat → Nat} {post : Int32 → RY → Prop} {a3 a4 : Int32} (hP : Γ.1 ≤ 10) (hn : σ 1 2 = nI Γ.1)
    (h1 : (a3 < 0 ∨ 5 < a3) → post 0 (lay, Γ, up2 (up2 σ 0 0 0) 0 0 1))
    (h2 : (a1 < 1 ∨ 63 < a1) ∨ (a2 < 0 ∨ 65535 < a2) ∨ (a4 < 1 ∨ 99 < a4) → post 0 (lay, Γ, up2 (up2 σ 0 0 0) 0 0 2))
    (h3 : Γ.1 = 10 → post 0 (lay, Γ, up2 (up2 σ 0 0 0) 0 0 3))
    (h4 : Γ.1 < 10 → ∀ lay', post (nI Γ.1) (lay', (Γ.1 + 1, Γ.2), rpS (up2 σ 0 0 0) Γ.1 a1 a2 a3 a4)) : w_X11_player lay Γ post σ a1 a2 a3 a4 := by
  unfold w_X11_player
  refine law_X11_is ⟨fun c => law_X11_refuse (h1 (rIsF_0.mp c)), fun _ => ?_⟩
  refine law_X11_is ⟨fun c => law_X11_refuse (h2 (Or.inl (rIsF_0.mp c))), fun _ => ?_⟩
  refine law_X11_areSongs ⟨fun c => law_X11_refuse (h2 (Or.inr (Or.inl (rIsF_0.mp c)))), fun _ => ?_⟩
  refine law_X11_is ⟨fun c => law_X11_refuse (h2 (Or.inr (Or.inr (rIsF_0.mp c)))), fun _ => ?_⟩
  unfold w_lp_Jx4a65c_size_8abf5
  have e : up2 σ 0 0 0 1 2 = nI Γ.1 := hn
  rw [e]
  by_cases c : Γ.1 = 10
  · refine ⟨fun _ => law_X11_refuse (h3 c), fun z => absurd ?_ z⟩
    rw [c]
    decide +kernel
  · have hlt : Γ.1 < 10 := by omega
    refine ⟨fun z => ?_, fun _ => ⟨hlt, hn, h4 hlt⟩⟩
    have z' : nI Γ.1 = nI 10 := z
    exact absurd ((nI_eq (by omega) (by decide)).mp z') c
end RLAW
end
section
/-! LAWS OF THE REFERENCE: an element of a list; isFixed; ask -/
section RLAW2
variable {Γ : RG} {σ : MS} {a a0 a1 a2 : Int32}
theorem law_lw_get {post : Nat → MS → Prop} {i : Nat} (hi : i < Γ.2.2.1) (hW : Γ.2.2.1 ≤ 14) (hs : σ 3 2 = nI Γ.2.2.1) (h : post i σ) : w_lw_Jx4a65c_get_915e3 Γ post σ (nI i) := by
  have hcl : (nI i).toNatClampNeg = i := nI_clamp (by omega)
  unfold w_lw_Jx4a65c_get_915e3 w_J15_checkIndex_7cf53 w_J3_checkIndex_8e157 w_lw_Jx4a65c_elementData_915e3
  rw [hcl, hs]
  refine ⟨fun z => absurd z (nI_pos (by omega)), fun _ => ⟨fun _ => ⟨by omega, ?_, hi, ⟨⟨by omega, hi⟩, h⟩⟩, fun z => absurd (nI_lt hi (by omega)) z⟩⟩
  by_cases z : Γ.2.2.1 ≤ 10
  · rw [if_pos z]; exact vp_in_nI (by omega) (by decide)
  · rw [if_neg z]; exact vp_in_nI (by omega) (by decide)
theorem law_lp_get {post : Nat → MS → Prop} {i : Nat} (hi : i < Γ.1) (hP : Γ.1 ≤ 10) (hs : σ 1 2 = nI Γ.1) (h : post i σ) : w_lp_Jx4a65c_get_915e3 Γ post σ (nI i) := by
  have hcl : (nI i).toNatClampNeg = i := nI_clamp (by omega)
  unfold w_lp_Jx4a65c_get_915e3 w_J15_checkIndex_7cf53 w_J3_checkIndex_8e157 w_lp_Jx4a65c_elementData_915e3
  rw [hcl, hs]
  exact ⟨fun z => absurd z (nI_pos (by omega)), fun _ => ⟨fun _ => ⟨by omega, vp_in_nI (by omega) (by decide), hi, ⟨⟨by omega, hi⟩, h⟩⟩, fun z => absurd (nI_lt hi (by omega)) z⟩⟩
def rFix (σ : MS) (a1 a2 : Int32) (i : Nat) : Prop := σ (33 + i) 7 = 1 ∧ σ (33 + i) 0 = a1 ∧ σ (33 + i) 1 = a2
theorem u_fix_step {post : Int32 → MS → Prop} {i k : Nat} (hi : i < Γ.2.2.1) (hW : Γ.2.2.1 ≤ 14) (hs : σ 3 2 = nI Γ.2.2.1) (h1 : rFix σ a1 a2 i → post 1 σ) (h2 : ¬ rFix σ a1 a2 i → u_X11_isFixed_2 Γ post a1 a2 k σ (nI (i + 1))) : u_X11_isFixed_2 Γ post a1 a2 (k + 1) σ (nI i) := by
  unfold u_X11_isFixed_2 w_lw_Jx4a65c_size_8abf5
  rw [hs]
  refine ⟨fun z => absurd z (nI_ge hi (by omega)), fun _ => law_lw_get hi hW hs ⟨⟨by omega, hi⟩, ?_⟩⟩
  rw [nI_1]
  exact ⟨fun c1 => ⟨fun c2 => ⟨fun c3 => h1 ⟨c1, c2, c3⟩, fun c3 => h2 (fun z => c3 z.2.2)⟩, fun c2 => h2 (fun z => c2 z.2.1)⟩, fun c1 => h2 (fun z => c1 z.1)⟩
theorem law_X11_isFixed {post : Int32 → MS → Prop} (hW : Γ.2.2.1 ≤ 14) (hs : σ 3 2 = nI Γ.2.2.1) (h1 : (∃ i, i < Γ.2.2.1 ∧ rFix σ a1 a2 i) → post 1 σ) (h0 : (¬ ∃ i, i < Γ.2.2.1 ∧ rFix σ a1 a2 i) → post 0 σ) : w_X11_isFixed Γ post σ a1 a2 := by
  unfold w_X11_isFixed
  by_cases c : ∃ i, i < Γ.2.2.1 ∧ rFix σ a1 a2 i
  · obtain ⟨i0, hi0, hf⟩ := c
    have hp : post 1 σ := h1 ⟨i0, hi0, hf⟩
    exact up_loop (fun k (v : Int32) => u_X11_isFixed_2 Γ post a1 a2 k σ v) (fun i => nI i) i0 (u_fix_step hi0 hW hs (fun _ => hp) (fun z => absurd hf z)) (fun i k hi h => u_fix_step (by omega) hW hs (fun _ => hp) (fun _ => h))
  · refine up_loop (fun k (v : Int32) => u_X11_isFixed_2 Γ post a1 a2 k σ v) (fun i => nI i) Γ.2.2.1 ?_ (fun i k hi h => u_fix_step hi hW hs (fun z => absurd ⟨i, hi, z⟩ c) (fun _ => h))
    show u_X11_isFixed_2 Γ post a1 a2 (0 + 1) σ (nI Γ.2.2.1)
    unfold u_X11_isFixed_2 w_lw_Jx4a65c_size_8abf5
    rw [hs]
    exact ⟨fun _ => h0 c, fun z => absurd (nI_le (Nat.le_refl _) (by omega)) z⟩
end RLAW2
end
section
/-! LAWS OF THE REFERENCE: ask -/
section RLAW3
variable {Γ : RG} {σ : MS} {a1 a2 a3 a4 a5 a6 : Int32}
/-- ask: what it answers, what it leaves -/
theorem law_X11_ask {lay : Nat → Nat} {post : Int32 → RY → Prop} (hW : Γ.2.2.1 ≤ 14) (hs : σ 3 2 = nI Γ.2.2.1)
    (h1 : (a1 < 0 ∨ σ 2 2 - 1 < a1) ∨ (a3 < 0 ∨ 5 < a3) → post 0 (lay, Γ, up2 (up2 σ 0 0 0) 0 0 1))
    (h2 : (a2 < σ 0 1 ∨ 365 < a2) ∨ (a4 < 10 ∨ 22 < a4) ∨ (a5 < 1 ∨ 6 < a5) ∨ 24 < a4 + a5 ∨ (a6 < 0 ∨ 65535 < a6) → post 0 (lay, Γ, up2 (up2 σ 0 0 0) 0 0 2))
    (h3 : (Γ.2.2.1 = 14 ∨ ∃ i, i < Γ.2.2.1 ∧ rFix σ a1 a2 i) → post 0 (lay, Γ, up2 (up2 σ 0 0 0) 0 0 3))
    (h4 : Γ.2.2.1 < 14 → (¬ ∃ i, i < Γ.2.2.1 ∧ rFix σ a1 a2 i) → ∀ lay', post (nI Γ.2.2.1) (lay', (Γ.1, Γ.2.1, Γ.2.2.1 + 1, Γ.2.2.2), rwS (up2 σ 0 0 0) Γ.2.2.1 a1 a2 a3 a4 a5 a6 (σ 0 1))) : w_X11_ask lay Γ post σ a1 a2 a3 a4 a5 a6 := by
  have hf : ∀ i, rFix (up2 σ 0 0 0) a1 a2 i ↔ rFix σ a1 a2 i := fun i => by
    unfold rFix
    rw [show up2 σ 0 0 0 (33 + i) = σ (33 + i) from up2_ne (by omega)]
  have hs2 : up2 σ 0 0 0 3 2 = nI Γ.2.2.1 := hs
  unfold w_X11_ask
  refine law_X11_isBand ⟨fun c => law_X11_refuse (h1 (Or.inl (rIsF_0.mp c))), fun _ => ?_⟩
  refine law_X11_isTown ⟨fun c => law_X11_refuse (h1 (Or.inr (rIsF_0.mp c))), fun _ => ?_⟩
  refine law_X11_isDay ⟨fun c => law_X11_refuse (h2 (Or.inl (rIsF_0.mp c))), fun _ => ?_⟩
  refine law_X11_is ⟨fun c => law_X11_refuse (h2 (Or.inr (Or.inl (rIsF_0.mp c)))), fun _ => ?_⟩
  refine law_X11_is ⟨fun c => law_X11_refuse (h2 (Or.inr (Or.inr (Or.inl (rIsF_0.mp c))))), fun _ => ⟨fun c => law_X11_refuse (h2 (Or.inr (Or.inr (Or.inr (Or.inl c))))), fun _ => ?_⟩⟩
  refine law_X11_areSongs ⟨fun c => law_X11_refuse (h2 (Or.inr (Or.inr (Or.inr (Or.inr (rIsF_0.mp c)))))), fun _ => ?_⟩
  unfold w_lw_Jx4a65c_size_8abf5
  rw [hs2]
  by_cases c : Γ.2.2.1 = 14
  · refine ⟨fun _ => law_X11_refuse (h3 (Or.inl c)), fun z => absurd ?_ z⟩
    rw [c]
    decide +kernel
  · have hlt : Γ.2.2.1 < 14 := by omega
    refine ⟨fun z => ?_, fun _ => ?_⟩
    · have z' : nI Γ.2.2.1 = nI 14 := z
      exact absurd ((nI_eq (by omega) (by decide)).mp z') c
    · refine law_X11_isFixed hW hs2 (fun d => ?_) (fun d => ?_)
      · refine ⟨fun _ => law_X11_refuse (h3 (Or.inr ?_)), fun z => absurd z (by decide)⟩
        obtain ⟨i, hi, hx⟩ := d
        exact ⟨i, hi, (hf i).mp hx⟩
      · refine ⟨fun z => absurd rfl z, fun _ => ⟨hlt, hs2, h4 hlt ?_⟩⟩
        rintro ⟨i, hi, hx⟩
        exact d ⟨i, hi, (hf i).mpr hx⟩
end RLAW3
end
section
/-! LAWS OF THE REFERENCE: what a band needs; band -/
def rD3 (a : Int32) : Nat → Int32
  | 0 => a
  | i + 1 => rD3 a i / 3
def rNeed (a : Int32) (i : Nat) : Int32 := rD3 a i - rD3 a i / 3 * 3
def rNeeds (a : Int32) : Nat → Int32
  | 0 => 0
  | i + 1 => rNeeds a i + rNeed a i
section RLAW4
variable {Γ : RG} {σ : MS} {a0 a1 : Int32}
theorem law_X11_needed {post : Int32 → MS → Prop} {j : Nat} (hj : j < 2 ^ 31) (h : post (rNeed a0 j) σ) : w_X11_needed Γ post σ a0 (nI j) := by
  unfold w_X11_needed
  refine up_loop (fun k (x : Int32 × Int32) => u_X11_needed_4 Γ post a0 (nI j) k σ x.1 x.2) (fun i => (rD3 a0 i, nI i)) j ?_ (fun i k hi hu => ?_)
  · show u_X11_needed_4 Γ post a0 (nI j) (0 + 1) σ (rD3 a0 j) (nI j)
    unfold u_X11_needed_4
    exact ⟨fun _ => h, fun z => absurd (nI_le (Nat.le_refl _) hj) z⟩
  · show u_X11_needed_4 Γ post a0 (nI j) (k + 1) σ (rD3 a0 i) (nI i)
    unfold u_X11_needed_4
    refine ⟨fun z => absurd z (nI_ge hi hj), fun _ => ?_⟩
    rw [nI_1]
    exact hu
theorem law_X11_needed_ {post : Int32 → MS → Prop} (h : post (rNeeds a0 6) σ) : w_X11_needed_ Γ post σ a0 := by
  unfold w_X11_needed_
  refine up_loop (fun k (x : Int32 × Int32) => u_X11_needed__4 Γ post a0 k σ x.1 x.2) (fun i => (rNeeds a0 i, nI i)) 6 ?_ (fun i k hi hu => ?_)
  · show u_X11_needed__4 Γ post a0 (0 + 1) σ (rNeeds a0 6) (nI 6)
    unfold u_X11_needed__4
    exact ⟨fun _ => h, fun z => absurd (show (6 : Int32) ≤ nI 6 from by decide +kernel) z⟩
  · show u_X11_needed__4 Γ post a0 (k + 1) σ (rNeeds a0 i) (nI i)
    unfold u_X11_needed__4
    refine ⟨fun z => absurd (show nI 6 ≤ nI i from z) (nI_ge hi (by decide)), fun _ => law_X11_needed (by omega) ?_⟩
    rw [nI_1]
    exact hu
/-- band: what it answers, what it leaves -/
theorem law_X11_band {lay : Nat → Nat} {post : Int32 → RY → Prop} (hB : Γ.2.1 ≤ 6) (hs : σ 2 2 = nI Γ.2.1)
    (h1 : (a1 < 1 ∨ 728 < a1) ∨ ¬ rNeeds a1 6 ≤ 5 → post 0 (lay, Γ, up2 (up2 σ 0 0 0) 0 0 1))
    (h2 : Γ.2.1 = 6 → post 0 (lay, Γ, up2 (up2 σ 0 0 0) 0 0 2))
    (h3 : Γ.2.1 < 6 → ∀ lay' y, post (nI Γ.2.1) (lay', (Γ.1, Γ.2.1 + 1, Γ.2.2.1, Γ.2.2.2.1, va_up Γ.2.2.2.2.1 Γ.2.1 y, va_up Γ.2.2.2.2.2 Γ.2.1 a1), rbS (up2 σ 0 0 0) Γ.2.1)) : w_X11_band lay Γ post σ a1 := by
  have hs2 : up2 σ 0 0 0 2 2 = nI Γ.2.1 := hs
  unfold w_X11_band
  refine law_X11_is ⟨fun c => law_X11_refuse (h1 (Or.inl (rIsF_0.mp c))), fun _ => ?_⟩
  refine law_X11_needed_ ⟨fun c => law_X11_refuse (h1 (Or.inr c)), fun _ => ?_⟩
  unfold w_lb_Jx4a65c_size_8abf5
  rw [hs2]
  by_cases c : Γ.2.1 = 6
  · refine ⟨fun _ => law_X11_refuse (h2 c), fun z => absurd ?_ z⟩
    rw [c]
    decide +kernel
  · have hlt : Γ.2.1 < 6 := by omega
    refine ⟨fun z => ?_, fun _ => ⟨hlt, hs2, h3 hlt⟩⟩
    have z' : nI Γ.2.1 = nI 6 := z
    exact absurd ((nI_eq (by omega) (by decide)).mp z') c
/-- song: what it answers, what it leaves -/
theorem law_X11_song {post : Int32 → MS → Prop} {i : Nat} {a2 a3 a4 : Int32} (ha : a1 = nI i) (hi : i < 2 ^ 31)
    (h1 : (a1 < 0 ∨ 15 < a1) → post 0 (up2 (up2 σ 0 0 0) 0 0 1))
    (h2 : (a2 < 0 ∨ 11 < a2) ∨ (a3 < 0 ∨ 9 < a3) ∨ (a4 < 2 ∨ 9 < a4) → post 0 (up2 (up2 σ 0 0 0) 0 0 2))
    (h3 : i < 16 → post (σ 9 i) (up2 (up2 (up2 (up2 σ 0 0 0) 7 i a2) 8 i a3) 9 i a4)) : w_X11_song Γ post σ a1 a2 a3 a4 := by
  subst ha
  unfold w_X11_song
  by_cases c : i < 16
  · have hin : vp_in (nI i) 16 := vp_in_nI c (by decide)
    have hcl : (nI i).toNatClampNeg = i := nI_clamp (by omega)
    refine law_X11_is ⟨fun c => law_X11_refuse (h1 (rIsF_0.mp c)), fun _ => ?_⟩
    refine law_X11_is ⟨fun c => law_X11_refuse (h2 (Or.inl (rIsF_0.mp c))), fun _ => ?_⟩
    refine law_X11_is ⟨fun c => law_X11_refuse (h2 (Or.inr (Or.inl (rIsF_0.mp c)))), fun _ => ?_⟩
    refine law_X11_is ⟨fun c => law_X11_refuse (h2 (Or.inr (Or.inr (rIsF_0.mp c)))), fun _ => ⟨hin, hin, hin, hin, ?_⟩⟩
    rw [hcl]
    exact h3 c
  · have hb : nI i < 0 ∨ (15 : Int32) < nI i := Or.inr (show nI 15 < nI i from nI_lt (by omega) hi)
    exact law_X11_is ⟨fun _ => law_X11_refuse (h1 hb), fun z => absurd (rIsF_0.mpr hb) z⟩
end RLAW4
end
section
/-! TEXTS: StringBuilder and String, of Latin-1; what they hold doesn't matter here, only that there is room -/
/-- what the tables and statics say -/
def tB (D : va_G) (cy : Nat → ClassId) (A : Nat → Prop) (U : State) (H : Heap) : Prop :=
  va_K D vwCl (fdT cy) U ∧ va_Nw (.castable "[B" "java/lang/Cloneable") U ∧ va_Z "java/lang/String" "COMPACT_STRINGS" "Z" (.int 1) A U H ∧
  ∃ (q1 q2 : Nat) (f1 f2 : Nat → Int32), va_Z "java/lang/Integer" "DigitOnes" "[B" (.ref q1) A U H ∧ va_T .byte q1 100 (fun j => .int (f1 j)) A U H ∧ va_Z "java/lang/Integer" "DigitTens" "[B" (.ref q2) A U H ∧ va_T .byte q2 100 (fun j => .int (f2 j)) A U H
/-- a String that was there before, of w letters -/
def tX (sa w : Nat) (A : Nat → Prop) (U : State) (H : Heap) : Prop :=
  va_O "java/lang/String" sa A U H ∧ va_OF "java/lang/String" "coder" "B" (.int 0) sa A U H ∧ ∃ (ra : Nat) (g : Nat → Int32), va_OF "java/lang/String" "value" "[B" (.ref ra) sa A U H ∧ va_T .byte ra w (fun j => .int (g j)) A U H ∧ ∀ j, j < w → fits .byte (.int (g j)) = true
theorem tB.moved {D : va_G} {cy : Nat → ClassId} {A : Nat → Prop} {u U : State} {H : Heap} (hvm : u.vm.Alike U.vm) (hn : va_Nw (.castable "[B" "java/lang/Cloneable") U) (h : tB D cy A u H) : tB D cy A U H := by
  obtain ⟨h1, -, h3, q1, q2, f1, f2, k1, k2, k3, k4⟩ := h
  exact ⟨va_K.moved hvm h1, hn, h3.moved hvm, q1, q2, f1, f2, k1.moved hvm, k2.moved hvm, k3.moved hvm, k4.moved hvm⟩
theorem tB.kept {D : va_G} {cy : Nat → ClassId} {A : Nat → Prop} {U : State} {H H1 : Heap} (h : tB D cy A U H) (hq : ∀ a : Nat, a < H.size → ¬ A a → H1[a]? = H[a]?) : tB D cy A U H1 := by
  obtain ⟨h1, h2, h3, q1, q2, f1, f2, k1, k2, k3, k4⟩ := h
  exact ⟨h1, h2, h3.kept hq, q1, q2, f1, f2, k1.kept hq, k2.kept hq, k3.kept hq, k4.kept hq⟩
theorem tB.narrow {D : va_G} {cy : Nat → ClassId} {A B : Nat → Prop} {U : State} {H : Heap} (h : tB D cy A U H) (hB : ∀ q, B q → A q) : tB D cy B U H := by
  obtain ⟨h1, h2, h3, q1, q2, f1, f2, k1, k2, k3, k4⟩ := h
  exact ⟨h1, h2, h3.narrow hB, q1, q2, f1, f2, k1.narrow hB, k2.narrow hB, k3.narrow hB, k4.narrow hB⟩
theorem tX.moved {sa w : Nat} {A : Nat → Prop} {u U : State} {H : Heap} (hvm : u.vm.Alike U.vm) (h : tX sa w A u H) : tX sa w A U H := by
  obtain ⟨h1, h2, ra, g, h3, h4, h5⟩ := h
  exact ⟨h1.moved hvm, h2.moved hvm, ra, g, h3.moved hvm, h4.moved hvm, h5⟩
theorem tX.kept {sa w : Nat} {A : Nat → Prop} {U : State} {H H1 : Heap} (h : tX sa w A U H) (hq : ∀ a : Nat, a < H.size → ¬ A a → H1[a]? = H[a]?) : tX sa w A U H1 := by
  obtain ⟨h1, h2, ra, g, h3, h4, h5⟩ := h
  exact ⟨h1.kept hq, h2.kept hq, ra, g, h3.kept hq, h4.kept hq, h5⟩
theorem tX.narrow {sa w : Nat} {A B : Nat → Prop} {U : State} {H : Heap} (h : tX sa w A U H) (hB : ∀ q, B q → A q) : tX sa w B U H := by
  obtain ⟨h1, h2, ra, g, h3, h4, h5⟩ := h
  exact ⟨h1.narrow hB, h2.narrow hB, ra, g, h3.narrow hB, h4.narrow hB, h5⟩
/-- a method's start: the world X, and a text or none -/
def sI (D : va_G) (cy : Nat → ClassId) (tx : Option (Nat × Nat)) (lay : Nat → Nat) (X : Nat → Option va_E) (sz : Nat) (U : State) : Prop :=
  U.heap.size = sz ∧ tB D cy (gA lay X sz) U U.heap ∧ (∀ q, tx = some q → tX q.1 q.2 (gA lay X sz) U U.heap) ∧ gP D lay X U.heap ∧ gI (fun _ => True) lay X
theorem sI_blind {D : va_G} {cy : Nat → ClassId} {tx : Option (Nat × Nat)} {lay : Nat → Nat} {X : Nat → Option va_E} {sz : Nat} {As : List Value} : FrameBlind (va_Pc As (sI D cy tx lay X sz)) := by
  intro a U g mk h
  obtain ⟨h0, h1, h2, h3, h4, h5⟩ := h
  exact ⟨h0, h1, tB.moved (u := U) (U := U.calling g mk a) (Vm.Alike.refl U.vm) (nest_same (u := U) (U := U.calling g mk a) rfl _ rfl h2.2.1) h2, fun q hq => tX.moved (u := U) (U := U.calling g mk a) (Vm.Alike.refl U.vm) (h3 q hq), h4, h5⟩
section SROWS
variable {p : Program} {l : Launch} {e : Env} {R : Room} {s : State} {m : MethodId} {args : Array Value} {below : List Frame} {meth : Method} {c : Code} {H : Heap} {locs : List Loc} {cells slots : Nat} {Q : State → Prop}
variable {cc bytes : ByteArray} {pc nL maxL mc ms n index count : Nat} {ls : Array Slot} {ST rest As : List Value} {D : va_G} {cy : Nat → ClassId} {lay : Nat → Nat} {X : Nat → Option va_E} {A : Nat → Prop} {H0 : Heap} {Ts ws : List Cond} {own Cn owner host : String} {x y : MethodName} {ret : Option FieldType} {rm : Room} {b : Addr} {tys : List (ClassId × FieldType)} {tx : Option (Nat × Nat)}
variable {Qc : Array Value → State → Outcome → State → Prop} {free : Addr → Prop}
theorem s_ofW {ws' : List Cond} {maxL : Nat} {sz : Nat} {Qc : Nat → Array Value → State → Outcome → State → Prop} (hy : plainName y.cls = true) (hw : ws = Cond.code y cc maxL ret :: ws') (hnl : (lg_sl As).length ≤ maxL) (hoo : y.cls = own)
    (body : ∀ (p : Program) (e : Env) (s : State) (m : MethodId) (args : Array Value) (below : List Frame) (meth : Method) (c : Code) (ls : Array Slot), CallFix p m c cc maxL s args ws own → meth.sig.returnType = ret → meth.locks = false → meth.name = y.name → tB D cy (gA lay X s.heap.size) s s.heap → (∀ q, tx = some q → tX q.1 q.2 (gA lay X s.heap.size) s s.heap) → gG D lay X (gA lay X s.heap.size) s.heap s.heap [] → lv_has ls maxL (lv_args 0 As) →
      W p l e rm s m args below meth c s.heap [] 0 0 (MQ below (Qc s.heap.size) args s mc ms (gA lay X s.heap.size)) (F0 m 0 ls [])) : Met l y ws rm (va_Pc As (sI D cy tx lay X sz)) (Qc sz) mc ms (gA lay X sz) := by
  refine Met.ofW (cc := cc) (maxL := maxL) (ret := ret) hy hw ?_
  intro p e s m args below meth c s₁ B hml hv
  obtain ⟨rfl, hsz, hT, hX, hP, hI⟩ := hv
  subst hsz
  have hl := lv_entry As (n := maxL) hnl
  rw [lg_entry_eq]
  have hown : s.vm.findClass y.cls = some m.cls := findClass_of_methodNamed B.named
  rw [hoo] at hown
  exact body p e s m As.toArray below meth c _ ⟨B.exec, B.bytes, hml, hown, atoms_spec (ws := ws) B.pre⟩ B.returns B.notSynchronized (name_of_methodNamed B.named B.method).1 hT hX ⟨hP, gI_self hI, va_S.rf⟩ hl
theorem sI_next {U : State} (hT : tB D cy A s s.heap) (htx : ∀ q, tx = some q → tX q.1 q.2 A s s.heap) (G : gG D lay X A s.heap H locs) (hA : ∀ q, s.heap.size ≤ q → A q) (hU : U.heap = H) (hW : s.WarmedH U.vm) : sI D cy tx lay X H.size U := by
  refine ⟨by rw [hU], ?_, fun q hq => ?_, by rw [hU]; exact G.1, gI_weak G.2.1 (fun _ _ => trivial)⟩
  · rw [hU]
    exact ((hT.moved hW.alike (nest_warm hW _ rfl hT.2.1)).kept G.2.2.2.1).narrow (gA_in G hA)
  · rw [hU]
    exact (((htx q hq).moved hW.alike).kept G.2.2.2.1).narrow (gA_in G hA)
theorem s_runV (hC : CallFix p m c cc nL s args Ts own) (hT : tB D cy A s s.heap) (hA : ∀ q, s.heap.size ≤ q → A q) (G : gG D lay X A s.heap H locs) (htx : ∀ q, tx = some q → tX q.1 q.2 A s s.heap) (hM : Met l y ws rm (va_Pc (.ref b :: As) (sI D cy tx lay X H.size)) Qc mc ms free) (cw : CallW R s args own Cn index y bytes maxL ret ws rm mc ms n) (hrv : ∃ cell : Cell, H[b]? = some cell ∧ cell.vm.isStatics = false ∧ s.vm.findClass Cn = some cell.cls)
    (hn : As.length = n) (hls : ls.size = nL) (hst : ST = As.reverse ++ .ref b :: rest) (hW : (rest.map fun v => v.category).sum ≤ 8) (hdg : decode cc pc = .ok (.invokevirtual index, 3)) (hf : cells + mc ≤ R.cells ∧ slots + ms ≤ R.slots) :
    va_Run p l e R s m args below meth c H locs cells slots mc ms (F0 m pc ls ST) rest (Qc (.ref b :: As).toArray) free :=
  va_runV hC hM cw ⟨sI_blind, hrv, fun U hU hW => ⟨rfl, sI_next hT htx G hA hU hW⟩⟩ rfl hn hls hst (lv_room hW) hdg hf
theorem s_runU (hC : CallFix p m c cc nL s args Ts own) (hT : tB D cy A s s.heap) (hA : ∀ q, s.heap.size ≤ q → A q) (G : gG D lay X A s.heap H locs) (htx : ∀ q, tx = some q → tX q.1 q.2 A s s.heap) (hM : Met l y ws rm (va_Pc (.ref b :: As) (sI D cy tx lay X H.size)) Qc mc ms free) (cw : va_CU R s args own Cn owner index x y bytes maxL ret ws rm mc ms n) (hrv : ∃ cell : Cell, H[b]? = some cell ∧ cell.vm.isStatics = false ∧ s.vm.findClass Cn = some cell.cls)
    (hn : As.length = n) (hls : ls.size = nL) (hst : ST = As.reverse ++ .ref b :: rest) (hW : (rest.map fun v => v.category).sum ≤ 8) (hdg : decode cc pc = .ok (.invokevirtual index, 3)) (hf : cells + mc ≤ R.cells ∧ slots + ms ≤ R.slots) :
    va_Run p l e R s m args below meth c H locs cells slots mc ms (F0 m pc ls ST) rest (Qc (.ref b :: As).toArray) free :=
  va_runU hC hM cw ⟨sI_blind, hrv, fun U hU hW => ⟨rfl, sI_next hT htx G hA hU hW⟩⟩ rfl hn hls hst (lv_room hW) hdg hf
theorem s_runSU (hC : CallFix p m c cc nL s args Ts own) (hT : tB D cy A s s.heap) (hA : ∀ q, s.heap.size ≤ q → A q) (G : gG D lay X A s.heap H locs) (htx : ∀ q, tx = some q → tX q.1 q.2 A s s.heap) (hM : Met l y ws rm (va_Pc (.ref b :: As) (sI D cy tx lay X H.size)) Qc mc ms free) (cw : va_CS R s args own index y bytes maxL ret ws rm mc ms n) (hrv : ∃ cell : Cell, H[b]? = some cell ∧ cell.vm.isStatics = false ∧ s.vm.findClass RJ4 = some cell.cls)
    (hn : As.length = n) (hls : ls.size = nL) (hst : ST = As.reverse ++ .ref b :: rest) (hW : (rest.map fun v => v.category).sum ≤ 8) (hdg : decode cc pc = .ok (.invokespecial index, 3)) (hf : cells + mc ≤ R.cells ∧ slots + ms ≤ R.slots) :
    va_Run p l e R s m args below meth c H locs cells slots mc ms (F0 m pc ls ST) rest (Qc (.ref b :: As).toArray) free :=
  va_runSU (C := RJ4) (hT.1.1 1 _ rfl).2 hC hM cw ⟨sI_blind, hrv, fun U hU hW => ⟨rfl, sI_next hT htx G hA hU hW⟩⟩ rfl hn hls hst (lv_room hW) hdg hf
theorem s_runS (hC : CallFix p m c cc nL s args Ts own) (hT : tB D cy A s s.heap) (hA : ∀ q, s.heap.size ≤ q → A q) (G : gG D lay X A s.heap H locs) (htx : ∀ q, tx = some q → tX q.1 q.2 A s s.heap) (hM : Met l y ws rm (va_Pc As (sI D cy tx lay X H.size)) Qc mc ms free) (cw : CallB R s args own index y bytes maxL ret ws rm mc ms n ∧ (Cond.static y).before args s = true)
    (hn : As.length = n) (hls : ls.size = nL) (hst : ST = As.reverse ++ rest) (hW : (rest.map fun v => v.category).sum ≤ 8) (hdg : decode cc pc = .ok (.invokestatic index, 3)) (hf : cells + mc ≤ R.cells ∧ slots + ms ≤ R.slots) :
    va_Run p l e R s m args below meth c H locs cells slots mc ms (F0 m pc ls ST) rest (Qc As.toArray) free :=
  va_runS hC hM cw ⟨sI_blind, fun U hU hW => ⟨rfl, sI_next hT htx G hA hU hW⟩⟩ rfl hn hls hst (lv_room hW) hdg hf
theorem s_runI (hC : CallFix p m c cc nL s args Ts own) (hT : tB D cy A s s.heap) (hA : ∀ q, s.heap.size ≤ q → A q) (G : gG D lay X A s.heap H locs) (htx : ∀ q, tx = some q → tX q.1 q.2 A s s.heap) (hM : Met l y ws rm (va_Pc (.ref b :: As) (sI D cy tx lay X H.size)) Qc mc ms free) (cw : CallB R s args own index y bytes maxL none ws rm mc ms n ∧ y.name = "<init>" ∧ (Cond.instanceMethod y).before args s = true)
    (hn : As.length = n) (hls : ls.size = nL) (hst : ST = As.reverse ++ .ref b :: rest) (hW : (rest.map fun v => v.category).sum ≤ 8) (hdg : decode cc pc = .ok (.invokespecial index, 3)) (hf : cells + mc ≤ R.cells ∧ slots + ms ≤ R.slots) :
    va_Run p l e R s m args below meth c H locs cells slots mc ms (F0 m pc ls ST) rest (Qc (.ref b :: As).toArray) free :=
  va_runI hC hM cw ⟨sI_blind, fun U hU hW => ⟨rfl, sI_next hT htx G hA hU hW⟩⟩ rfl hn hls hst (lv_room hW) hdg hf
theorem s_recv {ci : Nat} {C : String} {T : u_T} {N : Nat} {ty : Nat → FieldType} {fs : List Value} (hT : tB D cy A s s.heap) (G : gG D lay X A H0 H locs) {k : Nat} (hk : k < 128) (he : X k = some (.inr (ci, fs))) (hcl : agCl C T N ci ty) : ∃ cell : Cell, H[lay k]? = some cell ∧ cell.vm.isStatics = false ∧ s.vm.findClass C = some cell.cls := by
  obtain ⟨q0, hq⟩ := gW_pos (lay := lay) hk he
  exact va_recv hT.1 (gP_list G.1) hcl.1 hq
theorem t_recv {sa w : Nat} (hX : tX sa w A s s.heap) (hS : va_S A s.heap H locs) : ∃ cell : Cell, H[sa]? = some cell ∧ cell.vm.isStatics = false ∧ s.vm.findClass RJ0 = some cell.cls := by
  obtain ⟨cell, h1, h2, h3, -⟩ := hX.1.kept hS.2.1
  exact ⟨cell, h1, h2, h3⟩
/-- a new row of bytes -/
theorem g_newa_b (hC : CallFix p m c cc nL s args Ts own) (hK : va_K D vwCl (fdT cy) s) (G : gG D lay X A H0 H locs) (hA : ∀ q, H0.size ≤ q → A q) {k : Nat} (hX : X k = none) (harr : Cond.arrayClass .byte ∈ Ts) {v : Int32} {N : Nat} (hn : ¬ v < 0) (hN : v.toNatClampNeg = N) (hb : N * componentBytes .byte ≤ 536870912) (hcells : cells + 1 ≤ R.cells) (hslots : slots + N ≤ R.slots) (hdg : decode cc pc = .ok (.newarray .byte, 2))
    (kk : ∀ (q : Nat) (H1 : Heap), gG D (gU lay k q) (gU X k (some (.inl (cy 8, N, .inl (fun _ => 0))))) A H0 H1 locs → W p l e R s m args below meth c H1 locs (cells + 1) (slots + N) Q (F0 m (pc + 2) ls (.ref q :: rest))) : W p l e R s m args below meth c H locs cells slots Q (F0 m pc ls (.int v :: rest)) :=
  va_newa (atype := .byte) (ty := .byte) hC.1 hC.2.1 (hC.2.2.2.2 _ harr) rfl hK (gP_list G.1) (gI_list G.2.1) G.2.2 hA (a0 := (N, .inl (fun _ => 0))) (fun _ => rfl) hn hN hb hcells hslots hdg (fun q cA H1 hK' hP hD hS => by
    have h1 := (hK'.2 (fdT cy).length (cA, .byte) (by rw [List.getElem?_append_right (Nat.le_refl _), Nat.sub_self]; rfl)).2
    have h2 := (hK.2 8 (cy 8, .byte) rfl).2
    have hc : cA = cy 8 := Option.some.inj (Eq.trans (Eq.symm h1) h2)
    subst hc
    exact kk q H1 ⟨gP_new hX hP, gI_new G.2.1 hX hD, hS⟩)
/-- a byte put into a row -/
theorem g_bast (hC : CallFix p m c cc nL s args Ts own) (hK : va_K D vwCl (fdT cy) s) (G : gG D lay X A H0 H locs) {k : Nat} (hk : k < 128) {N a : Nat} (ha : lay k = a) {f : Nat → Int32} (he : X k = some (.inl (cy 8, N, .inl f))) {i : Int32} {v : Int32} (hin : vp_in i N) (hdg : decode cc pc = .ok (.bastore, 1))
    (kk : ∀ (H1 : Heap) (locs1 : List Loc), gG D lay (gU X k (some (.inl (cy 8, N, .inl (upd f i.toNatClampNeg (vp_nar .byte v)))))) A H0 H1 locs1 → W p l e R s m args below meth c H1 locs1 cells slots Q (F0 m (pc + 1) ls rest)) : W p l e R s m args below meth c H locs cells slots Q (F0 m pc ls (.int v :: .int i :: .ref a :: rest)) := by
  subst ha
  obtain ⟨q0, hq⟩ := gW_pos (lay := lay) hk he
  exact va_bast hC.1 hC.2.1 hK (gP_list G.1) (gI_list G.2.1) G.2.2 q0 8 hq rfl hin hdg (fun H1 locs1 hP hD hS => kk H1 locs1 ⟨gP_set G.2.1 hk he hq hP, gI_set G.2.1 he, hS⟩)
/-- a part of a row of bytes copied into another -/
theorem g_bcopy (hC : CallFix p m c cc nL s args Ts own) (hls : ls.size = nL) (hK : va_K D vwCl (fdT cy) s) (G : gG D lay X A H0 H locs) (w1 : Cond.methodLink own index arraycopyName ∈ Ts) (w2 : Cond.native arraycopyName ∈ Ts) (w3 : Cond.static arraycopyName ∈ Ts) (w4 : Cond.initialized "java/lang/System" ∈ Ts) {k0 k1 n0 n1 a0 a1 : Nat} (e0 : lay k0 = a0) (e1 : lay k1 = a1) (hk0 : k0 < 128) (hk1 : k1 < 128) {f g : Nat → Int32} (h0 : X k0 = some (.inl (cy 8, n0, .inl f))) (h1 : X k1 = some (.inl (cy 8, n1, .inl g))) (hf : sb_Fit f) {n : Nat} (hn : n < 2 ^ 31) (ha : n ≤ n0) (hb : n ≤ n1) (hframes : 1 ≤ R.frames) (hlocals : (rest.map fun v => v.category).sum + (nativeFrameWords "java/lang/System" "arraycopy" 5 + 11) ≤ R.locals) (hdg : decode cc pc = .ok (.invokestatic index, 3))
    (kk : ∀ (H1 : Heap) (locs1 : List Loc), gG D lay (gU X k1 (some (.inl (cy 8, n1, .inl (va_cpy f g 0 0 n))))) A H0 H1 locs1 → W p l e R s m args below meth c H1 locs1 cells slots Q (F0 m (pc + 3) ls rest)) : W p l e R s m args below meth c H locs cells slots Q (F0 m pc ls (.int (nI n) :: .int 0 :: .ref a1 :: .int 0 :: .ref a0 :: rest)) := by
  subst e0
  subst e1
  obtain ⟨q0, hq0⟩ := gW_pos (lay := lay) hk0 h0
  obtain ⟨q1, hq1⟩ := gW_pos (lay := lay) hk1 h1
  have e : (nI n).toNatClampNeg = n := nI_clamp hn
  refine va_copyi hC.1 hC.2.1 (hC.2.2.1.trans hls.symm) hC.2.2.2.1 (hC.2.2.2.2 _ w1) (hC.2.2.2.2 _ w2) (hC.2.2.2.2 _ w3) (hC.2.2.2.2 _ w4) hK (gP_list G.1) (gI_list G.2.1) G.2.2 q0 q1 8 8 hq0 hq1 rfl rfl rfl (by decide) (by decide) (nI_pos hn) (by rw [e]; show 0 + _ ≤ _; omega) (by rw [e]; show 0 + _ ≤ _; omega) (fun i _ => hf _) hframes hlocals hdg (fun H1 locs1 hP hD hS => kk H1 locs1 ?_)
  rw [e] at hP hD
  exact ⟨gP_set G.2.1 hk1 h1 hq1 hP, gI_set G.2.1 h1, hS⟩
/-- a text's bytes copied into a row -/
theorem g_tcopy (hC : CallFix p m c cc nL s args Ts own) (hls : ls.size = nL) (hK : va_K D vwCl (fdT cy) s) (G : gG D lay X A s.heap H locs) (w1 : Cond.methodLink own index arraycopyName ∈ Ts) (w2 : Cond.native arraycopyName ∈ Ts) (w3 : Cond.static arraycopyName ∈ Ts) (w4 : Cond.initialized "java/lang/System" ∈ Ts) {k1 n1 a1 ra w : Nat} {f g : Nat → Int32} (hX : va_T .byte ra w (fun j => .int (f j)) A s s.heap) (hf : ∀ j, j < w → fits .byte (.int (f j)) = true) (e1 : lay k1 = a1) (hk1 : k1 < 128) (h1 : X k1 = some (.inl (cy 8, n1, .inl g))) {d : Nat} (hw : w < 2 ^ 31) (hd : d < 2 ^ 31) (hb : d + w ≤ n1) (hframes : 1 ≤ R.frames) (hlocals : (rest.map fun v => v.category).sum + (nativeFrameWords "java/lang/System" "arraycopy" 5 + 11) ≤ R.locals) (hdg : decode cc pc = .ok (.invokestatic index, 3))
    (kk : ∀ (H1 : Heap) (locs1 : List Loc), gG D lay (gU X k1 (some (.inl (cy 8, n1, .inl (va_cpy f g 0 d w))))) A s.heap H1 locs1 → W p l e R s m args below meth c H1 locs1 cells slots Q (F0 m (pc + 3) ls rest)) : W p l e R s m args below meth c H locs cells slots Q (F0 m pc ls (.int (nI w) :: .int (nI d) :: .ref a1 :: .int 0 :: .ref ra :: rest)) := by
  subst e1
  obtain ⟨q1, hq1⟩ := gW_pos (lay := lay) hk1 h1
  have e : (nI w).toNatClampNeg = w := nI_clamp hw
  have e2 : (nI d).toNatClampNeg = d := nI_clamp hd
  refine vk_copyt hC.1 hC.2.1 (hC.2.2.1.trans hls.symm) hC.2.2.2.1 (hC.2.2.2.2 _ w1) (hC.2.2.2.2 _ w2) (hC.2.2.2.2 _ w3) (hC.2.2.2.2 _ w4) hK (gP_list G.1) (gI_list G.2.1) G.2.2 hX q1 8 hq1 rfl (by decide) (nI_pos hd) (nI_pos hw) (by rw [e]; show 0 + _ ≤ _; omega) (by rw [e, e2]; exact hb) (fun i hi => by rw [e] at hi; show fits .byte (.int (f (0 + i))) = true; rw [Nat.zero_add]; exact hf i hi) hframes hlocals hdg (fun H1 locs1 hP hD hS => kk H1 locs1 ?_)
  rw [e, e2] at hP hD
  exact ⟨gP_set G.2.1 hk1 h1 hq1 hP, gI_set G.2.1 h1, hS⟩
end SROWS
theorem k_SB : agCl RJ4 TJ4 4 1 tyJ4 := ⟨rfl, tyJ4_ok, nmJ4⟩
theorem k_S0 : agCl RJ0 TJ0 4 0 tyJ0 := ⟨rfl, tyJ0_ok, nmJ0⟩
abbrev rmS (n c s : Nat) : Room := { frames := n, cells := c, slots := s, locals := 40 * n }
/-- a StringBuilder, a row of bytes -/
abbrev sbE (o : Nat) (n ml : Int32) : va_E := .inr (1, [.ref o, .int 0, .int ml, .int n])
abbrev bsE (cy : Nat → ClassId) (m : Nat) (a : Nat → Int32) : va_E := .inl (cy 8, m, .inl a)
/-- the world with another row in kb, and the StringBuilder in k over it -/
def sbX (cy : Nat → ClassId) (X : Nat → Option va_E) (k kb o m : Nat) (a : Nat → Int32) (n ml : Int32) : Nat → Option va_E := gU (gU X kb (some (bsE cy m a))) k (some (sbE o n ml))
theorem sbX_k {cy : Nat → ClassId} {X : Nat → Option va_E} {k kb o m : Nat} {a : Nat → Int32} {n ml : Int32} : sbX cy X k kb o m a n ml k = some (sbE o n ml) := gU_eq
theorem sbX_b {cy : Nat → ClassId} {X : Nat → Option va_E} {k kb o m : Nat} {a : Nat → Int32} {n ml : Int32} (h : kb ≠ k) : sbX cy X k kb o m a n ml kb = some (bsE cy m a) := (gU_ne h).trans gU_eq
theorem sbX_o {cy : Nat → ClassId} {X : Nat → Option va_E} {k kb o m i : Nat} {a : Nat → Int32} {n ml : Int32} (h : i ≠ k) (h2 : i ≠ kb) : sbX cy X k kb o m a n ml i = X i := (gU_ne h).trans (gU_ne h2)
theorem sbX_id {cy : Nat → ClassId} {X : Nat → Option va_E} {k kb o m : Nat} {a : Nat → Int32} {n ml : Int32} (h1 : X k = some (sbE o n ml)) (h2 : X kb = some (bsE cy m a)) : sbX cy X k kb o m a n ml = X := by
  unfold sbX
  rw [gU_self h2, gU_self h1]
theorem sbX_sbX {cy : Nat → ClassId} {X : Nat → Option va_E} {k kb o m o' m' : Nat} {a a' : Nat → Int32} {n ml n' ml' : Int32} : sbX cy (sbX cy X k kb o m a n ml) k kb o' m' a' n' ml' = sbX cy X k kb o' m' a' n' ml' := by
  funext i
  by_cases h1 : i = k
  · subst h1; rw [sbX_k, sbX_k]
  · by_cases h2 : i = kb
    · subst h2; rw [sbX_b h1, sbX_b h1]
    · rw [sbX_o h1 h2, sbX_o h1 h2, sbX_o h1 h2]
/-- a row put, or a StringBuilder -/
theorem sbX_pb {cy : Nat → ClassId} {X : Nat → Option va_E} {k kb o m m' : Nat} {a a' : Nat → Int32} {n ml : Int32} (h : kb ≠ k) : gU (sbX cy X k kb o m a n ml) kb (some (bsE cy m' a')) = sbX cy X k kb o m' a' n ml := by
  funext i
  by_cases h1 : i = kb
  · subst h1; rw [gU_eq, sbX_b h]
  · rw [gU_ne h1]
    by_cases h2 : i = k
    · subst h2; rw [sbX_k, sbX_k]
    · rw [sbX_o h2 h1, sbX_o h2 h1]
theorem sbX_pk {cy : Nat → ClassId} {X : Nat → Option va_E} {k kb o m o' : Nat} {a : Nat → Int32} {n ml n' ml' : Int32} : gU (sbX cy X k kb o m a n ml) k (some (sbE o' n' ml')) = sbX cy X k kb o' m a n' ml' := by
  funext i
  by_cases h1 : i = k
  · subst h1; rw [gU_eq, sbX_k]
  · rw [gU_ne h1]
    by_cases h2 : i = kb
    · subst h2; rw [sbX_b h1, sbX_b h1]
    · rw [sbX_o h1 h2, sbX_o h1 h2]
def capOk (m : Nat) : Prop := m = 16 ∨ m = 34 ∨ m = 70
/-- what a call that writes leaves -/
def sbN (cy : Nat → ClassId) (lay : Nat → Nat) (X : Nat → Option va_E) (k kb n : Nat) (Y : GY) : Prop := ∃ o m a ml, sb_Fit a ∧ capOk m ∧ n ≤ m ∧ Y = (gU lay kb o, sbX cy X k kb o m a (nI n) ml)
/-- how many digits -/
def dg (v : Nat) : Nat := if v < 10 then 1 else if v < 100 then 2 else 3
theorem ng_toInt {a : Nat} (ha : a < 2 ^ 30) : (-(nI a)).toInt = -(a : Int) := by
  rw [show -(nI a) = nI 0 - nI a from by rw [nI_0]; grind, pk_sub_toInt (by decide) ha]
  omega
theorem ng_le {a b : Nat} (ha : a < 2 ^ 30) (hb : b < 2 ^ 30) : -(nI a) ≤ -(nI b) ↔ b ≤ a := by
  rw [Int32.le_iff_toInt_le, ng_toInt ha, ng_toInt hb]
  omega
theorem ng_lt {a b : Nat} (ha : a < 2 ^ 30) (hb : b < 2 ^ 30) : -(nI a) < -(nI b) ↔ b < a := by
  rw [Int32.lt_iff_toInt_lt, ng_toInt ha, ng_toInt hb]
  omega
theorem ng_d : ∀ v, v < 1000 → -(nI v) / 100 = -(nI (v / 100)) := by decide +kernel
theorem ng_r : ∀ v, v < 1000 → -(nI (v / 100)) * 100 - -(nI v) = nI (v % 100) := by decide +kernel
theorem ng_ng (v : Nat) : -(-(nI v)) = nI v := by grind
theorem iinc_m1 {p : Nat} (h : 0 < p) : nI p + Int32.ofInt (-1) = nI (p - 1) := by
  rw [show Int32.ofInt (-1) = -1 by decide]
  exact sb_m1 h
theorem t_fitC {f g : Nat → Int32} {d w : Nat} (hg : sb_Fit g) (hf : ∀ j, j < w → fits .byte (.int (f j)) = true) : sb_Fit (va_cpy f g 0 d w) := by
  intro i
  unfold va_cpy
  split
  · exact hf _ (by omega)
  · exact hg i
theorem t_cellF {c : ClassId} {n : Nat} {a : Nat → Int32} (hf : sb_Fit a) {i : Nat} {v : Value} (h : (vp_cell c (n, .inl a)).slots[i]? = some v) : fits .byte v = true := by
  have h : (arrV c n (fun j => .int (a j))).slots[i]? = some v := h
  have hi : i < n := by
    have := (Array.getElem?_eq_some_iff.mp h).1
    rw [arrV_size] at this
    exact this
  rw [arrV_read _ _ hi] at h
  cases h
  exact hf i
theorem df_S0 : ∀ j, j < 4 → defaultValue (tyJ0 j) = vp_V [.null, .int 0, .int 0, .int 0] j := by decide
theorem df_SB : ∀ j, j < 4 → defaultValue (tyJ4 j) = vp_V [.null, .int 0, .int 0, .int 0] j := by decide
theorem gU3e {X : Nat → Option va_E} {ke kl : Nat} {b c d e : Option va_E} : gU (gU (gU X kl b) ke c) kl d = gU (gU (gU X kl e) ke c) kl d := gU3.trans gU3.symm
theorem hdU_J5_isLatin1_aae02 : ("java/lang/AbstractStringBuilder" : String) ≠ "java/lang/invoke/MethodHandle" ∧ ("java/lang/AbstractStringBuilder" : String) ≠ "java/lang/invoke/VarHandle" ∧ (parseMethodDescriptor yJ5_isLatin1_aae02.desc).map (fun d => d.parameters.length) = some 0 := by decide +kernel
theorem hdV_J0_coder_7d493 : yJ0_coder_7d493.cls = RJ0 ∧ yJ0_coder_7d493.cls ≠ "java/lang/invoke/MethodHandle" ∧ yJ0_coder_7d493.cls ≠ "java/lang/invoke/VarHandle" ∧ (parseMethodDescriptor yJ0_coder_7d493.desc).map (fun d => d.parameters.length) = some 0 := by decide +kernel
theorem hdV_J0_length_8abf5 : yJ0_length_8abf5.cls = RJ0 ∧ yJ0_length_8abf5.cls ≠ "java/lang/invoke/MethodHandle" ∧ yJ0_length_8abf5.cls ≠ "java/lang/invoke/VarHandle" ∧ (parseMethodDescriptor yJ0_length_8abf5.desc).map (fun d => d.parameters.length) = some 0 := by decide +kernel
theorem hdS_J8_newLength_cabcc : yJ8_newLength_cabcc.cls ≠ "java/lang/invoke/MethodHandle" ∧ yJ8_newLength_cabcc.cls ≠ "java/lang/invoke/VarHandle" ∧ (parseMethodDescriptor yJ8_newLength_cabcc.desc).map (fun d => d.parameters.length) = some 3 := by decide +kernel
theorem hdU_J5_newCapacity_0f7a4 : ("java/lang/AbstractStringBuilder" : String) ≠ "java/lang/invoke/MethodHandle" ∧ ("java/lang/AbstractStringBuilder" : String) ≠ "java/lang/invoke/VarHandle" ∧ (parseMethodDescriptor yJ5_newCapacity_0f7a4.desc).map (fun d => d.parameters.length) = some 1 := by decide +kernel
theorem hdS_J7_copyOf_9075b : yJ7_copyOf_9075b.cls ≠ "java/lang/invoke/MethodHandle" ∧ yJ7_copyOf_9075b.cls ≠ "java/lang/invoke/VarHandle" ∧ (parseMethodDescriptor yJ7_copyOf_9075b.desc).map (fun d => d.parameters.length) = some 2 := by decide +kernel
theorem hdU_J5_ensureCapacityInternal_d00df : ("java/lang/AbstractStringBuilder" : String) ≠ "java/lang/invoke/MethodHandle" ∧ ("java/lang/AbstractStringBuilder" : String) ≠ "java/lang/invoke/VarHandle" ∧ (parseMethodDescriptor yJ5_ensureCapacityInternal_d00df.desc).map (fun d => d.parameters.length) = some 1 := by decide +kernel
theorem hdS_J6_stringSize_0f7a4 : yJ6_stringSize_0f7a4.cls ≠ "java/lang/invoke/MethodHandle" ∧ yJ6_stringSize_0f7a4.cls ≠ "java/lang/invoke/VarHandle" ∧ (parseMethodDescriptor yJ6_stringSize_0f7a4.desc).map (fun d => d.parameters.length) = some 1 := by decide +kernel
theorem hdS_J6_getChars_ba4f3 : yJ6_getChars_ba4f3.cls ≠ "java/lang/invoke/MethodHandle" ∧ yJ6_getChars_ba4f3.cls ≠ "java/lang/invoke/VarHandle" ∧ (parseMethodDescriptor yJ6_getChars_ba4f3.desc).map (fun d => d.parameters.length) = some 3 := by decide +kernel
theorem hdX_J5_append_c97b9 : yJ5_append_c97b9.name ≠ "<init>" ∧ (parseMethodDescriptor yJ5_append_c97b9.desc).map (fun d => d.parameters.length) = some 1 := by decide +kernel
theorem hdV_J4_append_bf812 : yJ4_append_bf812.cls = RJ4 ∧ yJ4_append_bf812.cls ≠ "java/lang/invoke/MethodHandle" ∧ yJ4_append_bf812.cls ≠ "java/lang/invoke/VarHandle" ∧ (parseMethodDescriptor yJ4_append_bf812.desc).map (fun d => d.parameters.length) = some 1 := by decide +kernel
theorem hdS_J1_canEncode_fc78d : yJ1_canEncode_fc78d.cls ≠ "java/lang/invoke/MethodHandle" ∧ yJ1_canEncode_fc78d.cls ≠ "java/lang/invoke/VarHandle" ∧ (parseMethodDescriptor yJ1_canEncode_fc78d.desc).map (fun d => d.parameters.length) = some 1 := by decide +kernel
theorem hdX_J5_append_3fe6f : yJ5_append_3fe6f.name ≠ "<init>" ∧ (parseMethodDescriptor yJ5_append_3fe6f.desc).map (fun d => d.parameters.length) = some 1 := by decide +kernel
theorem hdV_J4_append_cf468 : yJ4_append_cf468.cls = RJ4 ∧ yJ4_append_cf468.cls ≠ "java/lang/invoke/MethodHandle" ∧ yJ4_append_cf468.cls ≠ "java/lang/invoke/VarHandle" ∧ (parseMethodDescriptor yJ4_append_cf468.desc).map (fun d => d.parameters.length) = some 1 := by decide +kernel
theorem hdU_J5_inflateIfNeededFor_a7421 : ("java/lang/AbstractStringBuilder" : String) ≠ "java/lang/invoke/MethodHandle" ∧ ("java/lang/AbstractStringBuilder" : String) ≠ "java/lang/invoke/VarHandle" ∧ (parseMethodDescriptor yJ5_inflateIfNeededFor_a7421.desc).map (fun d => d.parameters.length) = some 1 := by decide +kernel
theorem hdV_J0_getBytes_840e7 : yJ0_getBytes_840e7.cls = RJ0 ∧ yJ0_getBytes_840e7.cls ≠ "java/lang/invoke/MethodHandle" ∧ yJ0_getBytes_840e7.cls ≠ "java/lang/invoke/VarHandle" ∧ (parseMethodDescriptor yJ0_getBytes_840e7.desc).map (fun d => d.parameters.length) = some 3 := by decide +kernel
theorem hdU_J5_putStringAt_47b60 : ("java/lang/AbstractStringBuilder" : String) ≠ "java/lang/invoke/MethodHandle" ∧ ("java/lang/AbstractStringBuilder" : String) ≠ "java/lang/invoke/VarHandle" ∧ (parseMethodDescriptor yJ5_putStringAt_47b60.desc).map (fun d => d.parameters.length) = some 2 := by decide +kernel
theorem hdX_J5_append_cf1ce : yJ5_append_cf1ce.name ≠ "<init>" ∧ (parseMethodDescriptor yJ5_append_cf1ce.desc).map (fun d => d.parameters.length) = some 1 := by decide +kernel
theorem hdV_J4_append_15ec4 : yJ4_append_15ec4.cls = RJ4 ∧ yJ4_append_15ec4.cls ≠ "java/lang/invoke/MethodHandle" ∧ yJ4_append_15ec4.cls ≠ "java/lang/invoke/VarHandle" ∧ (parseMethodDescriptor yJ4_append_15ec4.desc).map (fun d => d.parameters.length) = some 1 := by decide +kernel
theorem hdU_J5_getValue_6d5f1 : ("java/lang/AbstractStringBuilder" : String) ≠ "java/lang/invoke/MethodHandle" ∧ ("java/lang/AbstractStringBuilder" : String) ≠ "java/lang/invoke/VarHandle" ∧ (parseMethodDescriptor yJ5_getValue_6d5f1.desc).map (fun d => d.parameters.length) = some 0 := by decide +kernel
theorem hdX_J5_length_8abf5 : yJ5_length_8abf5.name ≠ "<init>" ∧ (parseMethodDescriptor yJ5_length_8abf5.desc).map (fun d => d.parameters.length) = some 0 := by decide +kernel
theorem hdV_J4_length_8abf5 : yJ4_length_8abf5.cls = RJ4 ∧ yJ4_length_8abf5.cls ≠ "java/lang/invoke/MethodHandle" ∧ yJ4_length_8abf5.cls ≠ "java/lang/invoke/VarHandle" ∧ (parseMethodDescriptor yJ4_length_8abf5.desc).map (fun d => d.parameters.length) = some 0 := by decide +kernel
theorem hdU_J4_length_8abf5 : ("java/lang/AbstractStringBuilder" : String) ≠ "java/lang/invoke/MethodHandle" ∧ ("java/lang/AbstractStringBuilder" : String) ≠ "java/lang/invoke/VarHandle" ∧ (parseMethodDescriptor yJ4_length_8abf5.desc).map (fun d => d.parameters.length) = some 0 := by decide +kernel
theorem hdS_J7_checkLength_df160 : yJ7_checkLength_df160.cls ≠ "java/lang/invoke/MethodHandle" ∧ yJ7_checkLength_df160.cls ≠ "java/lang/invoke/VarHandle" ∧ (parseMethodDescriptor yJ7_checkLength_df160.desc).map (fun d => d.parameters.length) = some 2 := by decide +kernel
theorem hdS_J7_copyOfRangeByte_39247 : yJ7_copyOfRangeByte_39247.cls ≠ "java/lang/invoke/MethodHandle" ∧ yJ7_copyOfRangeByte_39247.cls ≠ "java/lang/invoke/VarHandle" ∧ (parseMethodDescriptor yJ7_copyOfRangeByte_39247.desc).map (fun d => d.parameters.length) = some 3 := by decide +kernel
theorem hdS_J7_copyOfRange_39247 : yJ7_copyOfRange_39247.cls ≠ "java/lang/invoke/MethodHandle" ∧ yJ7_copyOfRange_39247.cls ≠ "java/lang/invoke/VarHandle" ∧ (parseMethodDescriptor yJ7_copyOfRange_39247.desc).map (fun d => d.parameters.length) = some 3 := by decide +kernel
theorem hdI_J0_init_db425 : yJ0_init_db425.cls ≠ "java/lang/invoke/MethodHandle" ∧ yJ0_init_db425.cls ≠ "java/lang/invoke/VarHandle" ∧ (parseMethodDescriptor yJ0_init_db425.desc).map (fun d => d.parameters.length) = some 2 := by decide +kernel
theorem hdI_J0_init_81219 : yJ0_init_81219.cls ≠ "java/lang/invoke/MethodHandle" ∧ yJ0_init_81219.cls ≠ "java/lang/invoke/VarHandle" ∧ (parseMethodDescriptor yJ0_init_81219.desc).map (fun d => d.parameters.length) = some 1 := by decide +kernel
theorem hdV_J4_toString_0e30d : yJ4_toString_0e30d.cls = RJ4 ∧ yJ4_toString_0e30d.cls ≠ "java/lang/invoke/MethodHandle" ∧ yJ4_toString_0e30d.cls ≠ "java/lang/invoke/VarHandle" ∧ (parseMethodDescriptor yJ4_toString_0e30d.desc).map (fun d => d.parameters.length) = some 0 := by decide +kernel
theorem hdI_J5_init_d00df : yJ5_init_d00df.cls ≠ "java/lang/invoke/MethodHandle" ∧ yJ5_init_d00df.cls ≠ "java/lang/invoke/VarHandle" ∧ (parseMethodDescriptor yJ5_init_d00df.desc).map (fun d => d.parameters.length) = some 1 := by decide +kernel
theorem hdI_J4_init_da8c8 : yJ4_init_da8c8.cls ≠ "java/lang/invoke/MethodHandle" ∧ yJ4_init_da8c8.cls ≠ "java/lang/invoke/VarHandle" ∧ (parseMethodDescriptor yJ4_init_da8c8.desc).map (fun d => d.parameters.length) = some 0 := by decide +kernel
theorem hdS_X7_nameOfState : yX7_nameOfState.cls ≠ "java/lang/invoke/MethodHandle" ∧ yX7_nameOfState.cls ≠ "java/lang/invoke/VarHandle" ∧ (parseMethodDescriptor yX7_nameOfState.desc).map (fun d => d.parameters.length) = some 1 := by decide +kernel
theorem hdV_X7_appendPlayers : yX7_appendPlayers.cls = RX7 ∧ yX7_appendPlayers.cls ≠ "java/lang/invoke/MethodHandle" ∧ yX7_appendPlayers.cls ≠ "java/lang/invoke/VarHandle" ∧ (parseMethodDescriptor yX7_appendPlayers.desc).map (fun d => d.parameters.length) = some 2 := by decide +kernel
end
