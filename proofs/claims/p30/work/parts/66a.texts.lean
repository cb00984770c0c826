section
/-! TEXTS: methods that load texts of their class's own -/
/-- the texts of a class: place, letters, how many; where they lie -/
def kS (own : String) (L : List (Nat × String × Nat)) (ad : Nat → Nat) (A : Nat → Prop) (U : State) (H : Heap) : Prop := ∀ i q, L[i]? = some q → vk_R own q.1 q.2.1 (ad i) U ∧ tX (ad i) q.2.2 A U H
theorem kS.kept {own : String} {L : List (Nat × String × Nat)} {ad : Nat → Nat} {A : Nat → Prop} {U : State} {H H1 : Heap} (h : kS own L ad A U H) (hq : ∀ a : Nat, a < H.size → ¬ A a → H1[a]? = H[a]?) : kS own L ad A U H1 := fun i q hi => ⟨(h i q hi).1, (h i q hi).2.kept hq⟩
theorem kS.narrow {own : String} {L : List (Nat × String × Nat)} {ad : Nat → Nat} {A B : Nat → Prop} {U : State} {H : Heap} (h : kS own L ad A U H) (hB : ∀ q, B q → A q) : kS own L ad B U H := fun i q hi => ⟨(h i q hi).1, (h i q hi).2.narrow hB⟩
theorem kS.warm {own : String} {L : List (Nat × String × Nat)} {ad : Nat → Nat} {A : Nat → Prop} {s U : State} {H : Heap} (hW : s.WarmedH U.vm) (h : kS own L ad A s H) : kS own L ad A U H := fun i q hi => ⟨vk_R.warm hW (h i q hi).1, (h i q hi).2.moved hW.alike⟩
theorem kS.same {own : String} {L : List (Nat × String × Nat)} {ad : Nat → Nat} {A : Nat → Prop} {u U : State} {H : Heap} (hv : U.vm = u.vm) (h : kS own L ad A u H) : kS own L ad A U H := fun i q hi => ⟨vk_R.same hv (h i q hi).1, (h i q hi).2.moved (by rw [hv]; exact Vm.Alike.refl _)⟩
def sK (D : va_G) (cy : Nat → ClassId) (own : String) (L : List (Nat × String × Nat)) (ad : Nat → Nat) (lay : Nat → Nat) (X : Nat → Option va_E) (sz : Nat) (U : State) : Prop :=
  U.heap.size = sz ∧ tB D cy (gA lay X sz) U U.heap ∧ kS own L ad (gA lay X sz) U U.heap ∧ gP D lay X U.heap ∧ gI (fun _ => True) lay X
theorem sK_blind {D : va_G} {cy : Nat → ClassId} {own : String} {L : List (Nat × String × Nat)} {ad : Nat → Nat} {lay : Nat → Nat} {X : Nat → Option va_E} {sz : Nat} {As : List Value} : FrameBlind (va_Pc As (sK D cy own L ad lay X sz)) := by
  intro a U g mk h
  obtain ⟨h0, h1, h2, h3, h4, h5⟩ := h
  exact ⟨h0, h1, tB.moved (u := U) (U := U.calling g mk a) (Vm.Alike.refl U.vm) (nest_same (u := U) (U := U.calling g mk a) rfl _ rfl h2.2.1) h2, kS.same (u := U) (U := U.calling g mk a) rfl h3, h4, h5⟩
section KSROWS
variable {p : Program} {l : Launch} {e : Env} {R : Room} {s : State} {m : MethodId} {args : Array Value} {below : List Frame} {meth : Method} {c : Code} {H : Heap} {locs : List Loc} {cells slots : Nat} {Q : State → Prop}
variable {cc bytes : ByteArray} {pc nL maxL mc ms n index count : Nat} {ls : Array Slot} {ST rest As : List Value} {D : va_G} {cy : Nat → ClassId} {lay : Nat → Nat} {X : Nat → Option va_E} {A : Nat → Prop} {H0 : Heap} {Ts ws : List Cond} {own ow Cn owner host : String} {x y : MethodName} {ret : Option FieldType} {rm : Room} {b : Addr} {tys : List (ClassId × FieldType)} {L : List (Nat × String × Nat)} {ad : Nat → Nat}
variable {Qc : Array Value → State → Outcome → State → Prop} {free : Addr → Prop}
theorem sk_ofW {ws' : List Cond} {maxL : Nat} {sz : Nat} {Qc : Nat → Array Value → State → Outcome → State → Prop} (hy : plainName y.cls = true) (hw : ws = Cond.code y cc maxL ret :: ws') (hnl : (lg_sl As).length ≤ maxL) (hoo : y.cls = own)
    (body : ∀ (p : Program) (e : Env) (s : State) (m : MethodId) (args : Array Value) (below : List Frame) (meth : Method) (c : Code) (ls : Array Slot), CallFix p m c cc maxL s args ws own → meth.sig.returnType = ret → meth.locks = false → tB D cy (gA lay X s.heap.size) s s.heap → kS own L ad (gA lay X s.heap.size) s s.heap → gG D lay X (gA lay X s.heap.size) s.heap s.heap [] → lv_has ls maxL (lv_args 0 As) →
      W p l e rm s m args below meth c s.heap [] 0 0 (MQ below (Qc s.heap.size) args s mc ms (gA lay X s.heap.size)) (F0 m 0 ls [])) : Met l y ws rm (va_Pc As (sK D cy own L ad lay X sz)) (Qc sz) mc ms (gA lay X sz) := by
  refine Met.ofW (cc := cc) (maxL := maxL) (ret := ret) hy hw ?_
  intro p e s m args below meth c s₁ B hml hv
  obtain ⟨rfl, hsz, hT, hK, hP, hI⟩ := hv
  subst hsz
  have hl := lv_entry As (n := maxL) hnl
  rw [lg_entry_eq]
  have hown : s.vm.findClass y.cls = some m.cls := findClass_of_methodNamed B.named
  rw [hoo] at hown
  exact body p e s m As.toArray below meth c _ ⟨B.exec, B.bytes, hml, hown, atoms_spec (ws := ws) B.pre⟩ B.returns B.notSynchronized hT hK ⟨hP, gI_self hI, va_S.rf⟩ hl
theorem sK_next {U : State} (hT : tB D cy A s s.heap) (hK : kS ow L ad A s s.heap) (G : gG D lay X A s.heap H locs) (hA : ∀ q, s.heap.size ≤ q → A q) (hU : U.heap = H) (hW : s.WarmedH U.vm) : sK D cy ow L ad lay X H.size U := by
  refine ⟨by rw [hU], ?_, ?_, by rw [hU]; exact G.1, gI_weak G.2.1 (fun _ _ => trivial)⟩
  · rw [hU]
    exact ((hT.moved hW.alike (nest_warm hW _ rfl hT.2.1)).kept G.2.2.2.1).narrow (gA_in G hA)
  · rw [hU]
    exact ((hK.warm hW).kept G.2.2.2.1).narrow (gA_in G hA)
theorem sk_runV (hC : CallFix p m c cc nL s args Ts own) (hT : tB D cy A s s.heap) (hA : ∀ q, s.heap.size ≤ q → A q) (G : gG D lay X A s.heap H locs) (hK : kS ow L ad A s s.heap) (hM : Met l y ws rm (va_Pc (.ref b :: As) (sK D cy ow L ad lay X H.size)) Qc mc ms free) (cw : CallW R s args own Cn index y bytes maxL ret ws rm mc ms n) (hrv : ∃ cell : Cell, H[b]? = some cell ∧ cell.vm.isStatics = false ∧ s.vm.findClass Cn = some cell.cls)
    (hn : As.length = n) (hls : ls.size = nL) (hst : ST = As.reverse ++ .ref b :: rest) (hW : (rest.map fun v => v.category).sum ≤ 8) (hdg : decode cc pc = .ok (.invokevirtual index, 3)) (hf : cells + mc ≤ R.cells ∧ slots + ms ≤ R.slots) :
    va_Run p l e R s m args below meth c H locs cells slots mc ms (F0 m pc ls ST) rest (Qc (.ref b :: As).toArray) free :=
  va_runV hC hM cw ⟨sK_blind, hrv, fun U hU hW => ⟨rfl, sK_next hT hK G hA hU hW⟩⟩ rfl hn hls hst (lv_room hW) hdg hf
theorem sk_runS (hC : CallFix p m c cc nL s args Ts own) (hT : tB D cy A s s.heap) (hA : ∀ q, s.heap.size ≤ q → A q) (G : gG D lay X A s.heap H locs) (hK : kS ow L ad A s s.heap) (hM : Met l y ws rm (va_Pc As (sK D cy ow L ad lay X H.size)) Qc mc ms free) (cw : CallB R s args own index y bytes maxL ret ws rm mc ms n ∧ (Cond.static y).before args s = true)
    (hn : As.length = n) (hls : ls.size = nL) (hst : ST = As.reverse ++ rest) (hW : (rest.map fun v => v.category).sum ≤ 8) (hdg : decode cc pc = .ok (.invokestatic index, 3)) (hf : cells + mc ≤ R.cells ∧ slots + ms ≤ R.slots) :
    va_Run p l e R s m args below meth c H locs cells slots mc ms (F0 m pc ls ST) rest (Qc As.toArray) free :=
  va_runS hC hM cw ⟨sK_blind, fun U hU hW => ⟨rfl, sK_next hT hK G hA hU hW⟩⟩ rfl hn hls hst (lv_room hW) hdg hf
theorem va_ldcwS (hC : CallFix p m c cc nL s args Ts own) {tx : String} {q : Nat} (hZ : vk_R own index tx q s) (hdg : decode cc pc = .ok (.ldc_w index, 3))
    (k : W p l e R s m args below meth c H locs cells slots Q (F0 m (pc + 3) ls (.ref q :: rest))) : W p l e R s m args below meth c H locs cells slots Q (F0 m pc ls rest) := by
  intro T hT X
  obtain ⟨t, a1, b1⟩ := k T hT X
  exact ⟨t, X.ldcStringW hC.1 hC.2.2.2.1 (text := tx) (a := q) hZ.1 hZ.2 (g := F0 m pc ls rest) rfl (by rw [hC.2.1]; exact hdg) t a1, b1⟩
end KSROWS
/-- the class's texts -/
def cTx : List (Nat × String × Nat) := [(364, "-", 1), (400, " on day ", 8), (405, " in ", 4), (407, ", ", 2), (543, "asked", 5), (545, "fixed", 5), (547, "played", 6), (548, "lost", 4), (550, ": ", 2), (552, ",", 1)]
/-- the class's world as a general one -/
def agX (cy : Nat → ClassId) (lay : Nat → Nat) (σ : MS) : Nat → Option va_E := fun k => if k < 87 then some (agR cy lay (σ k) k) else none
theorem agX_at {cy : Nat → ClassId} {lay : Nat → Nat} {σ : MS} {k : Nat} (h : k < 87) : agX cy lay σ k = some (agR cy lay (σ k) k) := if_pos h
theorem agX_no {cy : Nat → ClassId} {lay : Nat → Nat} {σ : MS} {k : Nat} (h : 87 ≤ k) : agX cy lay σ k = none := if_neg (by omega)
theorem ag_g {D : va_G} {cy : Nat → ClassId} {lay : Nat → Nat} {σ : MS} {A : Nat → Prop} {H0 H : Heap} {locs : List Loc} (G : agG D cy lay σ A H0 H locs) : gG D lay (agX cy lay σ) A H0 H locs := by
  have key : ∀ k e, agX cy lay σ k = some e → k < 87 ∧ e = agR cy lay (σ k) k := fun k e h => by
    by_cases c : k < 87
    · rw [agX_at c] at h
      cases h
      exact ⟨c, rfl⟩
    · rw [agX_no (by omega)] at h
      cases h
  refine ⟨fun k e _ h => ?_, ⟨fun i j e f _ _ hi hj he => ?_, fun k e _ h => ?_⟩, G.2.2⟩
  · obtain ⟨c, rfl⟩ := key k e h
    exact G.1 k _ (ag_at c rfl)
  · obtain ⟨c1, rfl⟩ := key i e hi
    obtain ⟨c2, rfl⟩ := key j f hj
    exact G.2.1.1 i j _ _ (ag_at c1 rfl) (ag_at c2 rfl) he
  · obtain ⟨c, rfl⟩ := key k e h
    exact G.2.1.2 k _ (ag_at c rfl)
theorem g_ag {D : va_G} {cy : Nat → ClassId} {lay L : Nat → Nat} {σ : MS} {X : Nat → Option va_E} {A : Nat → Prop} {H0 H : Heap} {locs : List Loc} (hX : ∀ k, k < 87 → X k = some (agR cy lay (σ k) k)) (hL : ∀ k, k < 87 → L k = lay k) (G : gG D L X A H0 H locs) : agG D cy lay σ A H0 H locs := by
  refine ⟨fun k q hq => ?_, ⟨fun i j p q hi hj he => ?_, fun k q hq => ?_⟩, G.2.2⟩
  · obtain ⟨hk, rfl⟩ := ag_of hq
    have := G.1 k _ (by omega) (hX k hk)
    rw [hL k hk] at this
    exact this
  · obtain ⟨hi2, rfl⟩ := ag_of hi
    obtain ⟨hj2, rfl⟩ := ag_of hj
    exact G.2.1.1 i j _ _ (by omega) (by omega) (hX i hi2) (hX j hj2) (by rw [hL i hi2, hL j hj2]; exact he)
  · obtain ⟨hk, rfl⟩ := ag_of hq
    have := G.2.1.2 k _ (by omega) (hX k hk)
    rw [hL k hk] at this
    exact this
theorem agX_A {cy : Nat → ClassId} {lay : Nat → Nat} {σ : MS} {n q : Nat} : agA lay n q ↔ gA lay (agX cy lay σ) n q := by
  constructor
  · rintro (⟨k, hk, rfl⟩ | h)
    · exact Or.inl ⟨k, _, by omega, agX_at hk, rfl⟩
    · exact Or.inr h
  · rintro (⟨k, e, hk, h, rfl⟩ | h)
    · by_cases c : k < 87
      · exact Or.inl ⟨k, c, rfl⟩
      · rw [agX_no (by omega)] at h
        cases h
    · exact Or.inr h
end
section
/-! TEXTS: walks of StringBuilder, String (66b.texts) -/
set_option maxHeartbeats 4000000 in
set_option maxRecDepth 100000 in
/-- has -/
theorem c_hasS (l : Launch) (D : va_G) (cy : Nat → ClassId) (lay : Nat → Nat) (X : Nat → Option va_E) {a b : Int32} (sz : Nat) : Met l yX7_has wsX7_has (rmS 0 0 0) (va_Pc [.int a, .int b] (sI D cy none lay X sz)) (va_Qi (fun (r : Int32) (Y : GY) => Y = (lay, X)) (gO D (gA lay X sz)) (gA lay X sz)) 0 0 (gA lay X sz) := by
  refine s_ofW (cc := cX7_has) (maxL := 2) (ret := (some .boolean)) (own := RX7) (Qc := fun sz => va_Qi (fun (r : Int32) (Y : GY) => Y = (lay, X)) (gO D (gA lay X sz)) (gA lay X sz)) (by decide) rfl (Nat.le_of_ble_eq_true rfl) rfl ?_
  intro p e0 s m9 args below meth c ls hC hr hlocks hname hT hX G hl
  have hl : lv_has ls 2 [(0, .int a), (1, .int b)] := hl
  have hA : ∀ q, s.heap.size ≤ q → gA lay X s.heap.size q := fun _ h => Or.inr h
  refine lv_iload_n hC.1 hC.2.1 dX7_has_0 rfl (lv_at hl 0 rfl) ?_
  refine lv_iload_n hC.1 hC.2.1 dX7_has_1 rfl (lv_at hl 1 rfl) ?_
  refine lv_ishr hC.1 hC.2.1 dX7_has_2 ?_
  refine lv_iconst (v := 1) hC.1 hC.2.1 dX7_has_3 (by decide) ?_
  refine lv_iand hC.1 hC.2.1 dX7_has_4 ?_
  refine lv_if_eq (tgt := 12) hC.1 hC.2.1 dX7_has_5 (by decide) (fun _ => ?_) (fun _ => ?_)
  · refine lv_iconst (v := 0) hC.1 hC.2.1 dX7_has_12 (by decide) ?_
    exact W.zret (v := 0) hC.1 hC.2.1 hr rfl (fun t ht hW => ⟨⟨0, (lay, X), rfl, rfl, by rw [ht]; exact G.1, G.2.1⟩, G.2.2.F ht⟩) G.2.2.2.2 dX7_has_13 hlocks
  · refine lv_iconst (v := 1) hC.1 hC.2.1 dX7_has_8 (by decide) ?_
    refine lv_goto (tgt := 13) hC.1 hC.2.1 dX7_has_9 (by decide) ?_
    exact W.zret (v := 1) hC.1 hC.2.1 hr rfl (fun t ht hW => ⟨⟨1, (lay, X), rfl, rfl, by rw [ht]; exact G.1, G.2.1⟩, G.2.2.F ht⟩) G.2.2.2.2 dX7_has_13 hlocks
theorem c_nameOf (l : Launch) (D : va_G) (cy : Nat → ClassId) (lay : Nat → Nat) (X : Nat → Option va_E) (ad : Nat → Nat) {st : Int32} (sz : Nat) : Met l yX7_nameOfState wsX7_nameOfState (rmS 0 0 0) (va_Pc [.int st] (sK D cy RX7 cTx ad lay X sz)) (va_Qr (S := GY) (fun Y => Y = (lay, X)) (fun Y a t => (∃ i, 4 ≤ i ∧ i ≤ 7 ∧ a = ad i) ∧ gO D (gA lay X sz) Y t) (gA lay X sz)) 0 0 (gA lay X sz) := by
  refine sk_ofW (cc := cX7_nameOfState) (maxL := 1) (ret := (some (.object "java/lang/String"))) (own := RX7) (Qc := fun sz => va_Qr (S := GY) (fun Y => Y = (lay, X)) (fun Y a t => (∃ i, 4 ≤ i ∧ i ≤ 7 ∧ a = ad i) ∧ gO D (gA lay X sz) Y t) (gA lay X sz)) (by decide) rfl (Nat.le_of_ble_eq_true rfl) rfl ?_
  intro p e0 s m args below meth c ls hC hr hlocks hT hK G hl
  have hl : lv_has ls 1 [(0, .int st)] := hl
  refine lv_iload_n hC.1 hC.2.1 dX7_nameOfState_0 rfl (lv_at hl 0 rfl) ?_
  by_cases c0 : st = 0
  · refine lv_tableIn (off := 27) (tgt := 28) hC.1 hC.2.1 dX7_nameOfState_1 (by rw [c0]; decide) (by rw [c0]; decide) (by rw [c0]; rfl) (by decide) ?_
    refine va_ldcwS hC (hK 4 (543, "asked", 5) rfl).1 dX7_nameOfState_28 ?_
    exact W.aret (v := .ref (ad 4)) hC.1 hC.2.1 hr (Or.inl ⟨_, rfl⟩) (Or.inr ⟨_, rfl⟩) (fun t ht hW => ⟨⟨(lay, X), ad 4, rfl, rfl, ⟨4, by omega, by omega, rfl⟩, by rw [ht]; exact G.1, G.2.1⟩, G.2.2.F ht⟩) G.2.2.2.2 dX7_nameOfState_31 hlocks
  by_cases c1 : st = 1
  · refine lv_tableIn (off := 31) (tgt := 32) hC.1 hC.2.1 dX7_nameOfState_1 (by rw [c1]; decide) (by rw [c1]; decide) (by rw [c1]; rfl) (by decide) ?_
    refine va_ldcwS hC (hK 5 (545, "fixed", 5) rfl).1 dX7_nameOfState_32 ?_
    exact W.aret (v := .ref (ad 5)) hC.1 hC.2.1 hr (Or.inl ⟨_, rfl⟩) (Or.inr ⟨_, rfl⟩) (fun t ht hW => ⟨⟨(lay, X), ad 5, rfl, rfl, ⟨5, by omega, by omega, rfl⟩, by rw [ht]; exact G.1, G.2.1⟩, G.2.2.F ht⟩) G.2.2.2.2 dX7_nameOfState_35 hlocks
  by_cases c2 : st = 2
  · refine lv_tableIn (off := 35) (tgt := 36) hC.1 hC.2.1 dX7_nameOfState_1 (by rw [c2]; decide) (by rw [c2]; decide) (by rw [c2]; rfl) (by decide) ?_
    refine va_ldcwS hC (hK 6 (547, "played", 6) rfl).1 dX7_nameOfState_36 ?_
    exact W.aret (v := .ref (ad 6)) hC.1 hC.2.1 hr (Or.inl ⟨_, rfl⟩) (Or.inr ⟨_, rfl⟩) (fun t ht hW => ⟨⟨(lay, X), ad 6, rfl, rfl, ⟨6, by omega, by omega, rfl⟩, by rw [ht]; exact G.1, G.2.1⟩, G.2.2.F ht⟩) G.2.2.2.2 dX7_nameOfState_39 hlocks
  refine lv_tableOut (tgt := 40) hC.1 hC.2.1 dX7_nameOfState_1 (tsw_out 3 rfl (by decide) (fun k hk => ?_)) (by decide) ?_
  · rcases (show k = 0 ∨ k = 1 ∨ k = 2 by omega) with rfl | rfl | rfl
    · exact c0
    · exact c1
    · exact c2
  refine va_ldcwS hC (hK 7 (548, "lost", 4) rfl).1 dX7_nameOfState_40 ?_
  exact W.aret (v := .ref (ad 7)) hC.1 hC.2.1 hr (Or.inl ⟨_, rfl⟩) (Or.inr ⟨_, rfl⟩) (fun t ht hW => ⟨⟨(lay, X), ad 7, rfl, rfl, ⟨7, by omega, by omega, rfl⟩, by rw [ht]; exact G.1, G.2.1⟩, G.2.2.F ht⟩) G.2.2.2.2 dX7_nameOfState_43 hlocks
set_option maxHeartbeats 4000000 in
set_option maxRecDepth 100000 in
/-- the players of a set, behind what is there -/
theorem c_appP (l : Launch) (D : va_G) (cy : Nat → ClassId) (lay L : Nat → Nat) (X : Nat → Option va_E) (ad : Nat → Nat) {k kb kn : Nat} (hk : k < 128) (hkb : kb < 128) (hkn : kn < 128) (hne : kb ≠ k) (hnk : kn ≠ k) (hnb : kn ≠ kb) (h0k : 0 ≠ k) (h0b : 0 ≠ kb) (h3 : X kn = none) {fs : List Value} {P : Nat} (hX0 : X 0 = some (.inr (12, fs))) (hfs : fs[6]? = some (.int (nI P))) (hP : P ≤ 10) {n m : Nat} {a : Nat → Int32} {ml v : Int32} (hL : gU lay kb (L kb) = L) (hf : sb_Fit a) (hm : capOk m) (hnm : n ≤ m) (hn : n ≤ 36) (sz : Nat) : Met l yX7_appendPlayers wsX7_appendPlayers (rmS 6 20 1400) (va_Pc [.ref (L 0), .ref (L k), .int v] (sK D cy RX7 cTx ad L (sbX cy X k kb (L kb) m a (nI n) ml) sz)) (va_Qv (fun Y : GY => ∃ n' L' m' a' ml', n' ≤ n + 3 * P ∧ sb_Fit a' ∧ capOk m' ∧ n' ≤ m' ∧ gU lay kb (L' kb) = L' ∧ Y = (L', sbX cy X k kb (L' kb) m' a' (nI n') ml')) (gO D (gA L (sbX cy X k kb (L kb) m a (nI n) ml) sz)) (gA L (sbX cy X k kb (L kb) m a (nI n) ml) sz)) 20 1400 (gA L (sbX cy X k kb (L kb) m a (nI n) ml) sz) := by
  refine sk_ofW (cc := cX7_appendPlayers) (maxL := 5) (ret := none) (own := RX7) (Qc := fun sz => va_Qv (fun Y : GY => ∃ n' L' m' a' ml', n' ≤ n + 3 * P ∧ sb_Fit a' ∧ capOk m' ∧ n' ≤ m' ∧ gU lay kb (L' kb) = L' ∧ Y = (L', sbX cy X k kb (L' kb) m' a' (nI n') ml')) (gO D (gA L (sbX cy X k kb (L kb) m a (nI n) ml) sz)) (gA L (sbX cy X k kb (L kb) m a (nI n) ml) sz)) (by decide) rfl (Nat.le_of_ble_eq_true rfl) rfl ?_
  intro p e0 s m9 args below meth c ls hC hr hlocks hT hK G hl
  have hl : lv_has ls 5 [(0, .ref (L 0)), (1, .ref (L k)), (2, .int v)] := hl
  have hA : ∀ q, s.heap.size ≤ q → gA L (sbX cy X k kb (L kb) m a (nI n) ml) s.heap.size q := fun _ h => Or.inr h
  rw [gU_out hL h0b, gU_out hL (Ne.symm hne)] at hl
  have S0 : sbW D cy lay X (gA L (sbX cy X k kb (L kb) m a (nI n) ml) s.heap.size) s.heap s.heap [] k kb n := ⟨L, m, a, ml, hf, hm, hnm, hL, G⟩
  generalize hAA : gA L (sbX cy X k kb (L kb) m a (nI n) ml) s.heap.size = A at *
  have key : ∀ (d i : Nat), i + d = P → ∀ (n1 : Nat) (v3 : Int32) (H : Heap) (locs : List Loc) (ls : Array Slot), n1 ≤ n + 3 * i → sbW D cy lay X A s.heap H locs k kb n1 → lv_has ls 5 [(4, .int (nI i)), (3, .int v3), (0, .ref (lay 0)), (1, .ref (lay k)), (2, .int v)] → W p l e0 (rmS 6 20 1400) s m9 args below meth c H locs (2 * i) (140 * i) (MQ below (va_Qv (fun Y : GY => ∃ n' L' m' a' ml', n' ≤ n + 3 * P ∧ sb_Fit a' ∧ capOk m' ∧ n' ≤ m' ∧ gU lay kb (L' kb) = L' ∧ Y = (L', sbX cy X k kb (L' kb) m' a' (nI n') ml')) (gO D A) A) args s 20 1400 A) (F0 m9 5 ls []) := by
    intro d
    induction d with
    | zero =>
      intro i hi n1 v3 H locs ls hn1 S hl
      obtain rfl : i = P := by omega
      refine lv_iload hC.1 hC.2.1 dX7_appendPlayers_5 (lv_at hl 0 rfl) ?_
      refine lv_aload_n hC.1 hC.2.1 dX7_appendPlayers_7 rfl (lv_at hl 2 rfl) ?_
      refine sb_get hC hT S (by decide) h0k h0b hX0 k_X7 (fun _ h => List.mem_cons_of_mem _ (List.mem_append_left _ (List.mem_append_left _ (List.mem_append_right _ h)))) 6 (by decide) (wm 1 rfl) hfs dX7_appendPlayers_8 ?_
      refine lv_icmp_ge (tgt := 54) hC.1 hC.2.1 dX7_appendPlayers_11 (by decide) (fun _ => ?_) (fun c1 => absurd (le_self _) c1)
      refine W.widen (k := 20) (n := 1400) (by omega) (by omega) ?_
      obtain ⟨L', m', a', ml', g1, g2, g3, g4, G⟩ := S
      subst hAA
      exact g_vret (Y := (L', sbX cy X k kb (L' kb) m' a' (nI n1) ml')) hC hr hlocks G ⟨n1, L', m', a', ml', hn1, g1, g2, g3, g4, rfl⟩ dX7_appendPlayers_54
    | succ d ih =>
      intro i hi n1 v3 H locs ls hn1 S hl
      have next : ∀ (n2 : Nat) (v4 : Int32) (H : Heap) (locs : List Loc) (ls : Array Slot), n2 ≤ n + 3 * (i + 1) → sbW D cy lay X A s.heap H locs k kb n2 → lv_has ls 5 [(4, .int (nI i)), (3, .int v4), (0, .ref (lay 0)), (1, .ref (lay k)), (2, .int v)] → W p l e0 (rmS 6 20 1400) s m9 args below meth c H locs (2 * (i + 1)) (140 * (i + 1)) (MQ below (va_Qv (fun Y : GY => ∃ n' L' m' a' ml', n' ≤ n + 3 * P ∧ sb_Fit a' ∧ capOk m' ∧ n' ≤ m' ∧ gU lay kb (L' kb) = L' ∧ Y = (L', sbX cy X k kb (L' kb) m' a' (nI n') ml')) (gO D A) A) args s 20 1400 A) (F0 m9 48 ls []) := by
        intro n2 v4 H locs ls hn2 S hl
        refine lv_iinc (k := 0) (v := nI (i + 1)) (lv' := [(4, .int (nI (i + 1))), (3, .int v4), (0, .ref (lay 0)), (1, .ref (lay k)), (2, .int v)]) hC.1 hC.2.1 dX7_appendPlayers_48 hl rfl (by rw [show Int32.ofInt 1 = 1 by decide]; exact nI_1 i) (by decide) rfl (fun ls hl => ?_)
        refine lv_goto (tgt := 5) hC.1 hC.2.1 dX7_appendPlayers_51 (by decide) ?_
        exact ih (i + 1) (by omega) n2 v4 H locs ls hn2 S hl
      refine lv_iload hC.1 hC.2.1 dX7_appendPlayers_5 (lv_at hl 0 rfl) ?_
      refine lv_aload_n hC.1 hC.2.1 dX7_appendPlayers_7 rfl (lv_at hl 2 rfl) ?_
      refine sb_get hC hT S (by decide) h0k h0b hX0 k_X7 (fun _ h => List.mem_cons_of_mem _ (List.mem_append_left _ (List.mem_append_left _ (List.mem_append_right _ h)))) 6 (by decide) (wm 1 rfl) hfs dX7_appendPlayers_8 ?_
      refine lv_icmp_ge (tgt := 54) hC.1 hC.2.1 dX7_appendPlayers_11 (by decide) (fun c1 => absurd c1 (nI_ge (by omega) (by omega))) (fun _ => ?_)
      refine lv_iload_n hC.1 hC.2.1 dX7_appendPlayers_14 rfl (lv_at hl 4 rfl) ?_
      refine lv_iload hC.1 hC.2.1 dX7_appendPlayers_15 (lv_at hl 0 rfl) ?_
      obtain ⟨L1, m1, a1, ml1, g1, g2, g3, g4, G⟩ := S
      refine g_i G hA (s_runS (As := [.int v, .int (nI i)]) (rest := []) (tx := none) hC hT hA G (fun _ h => by cases h) (c_hasS l D cy L1 (sbX cy X k kb (L1 kb) m1 a1 (nI n1) ml1) _) (va_cwS 2 hC.2.2.2.2 gX7_appendPlayers_X7_has rfl rfl rfl hdS_X7_has ⟨Nat.le_of_ble_eq_true rfl, Nat.le_of_ble_eq_true rfl⟩) rfl hl.1 rfl (Nat.le_of_ble_eq_true rfl) dX7_appendPlayers_17 ⟨by show _ ≤ 20; omega, by show _ ≤ 1400; omega⟩) (fun r Y H locs hY G => ?_)
      subst hY
      have S : sbW D cy lay X A s.heap H locs k kb n1 := ⟨L1, m1, a1, ml1, g1, g2, g3, g4, G⟩
      refine lv_if_eq (tgt := 48) hC.1 hC.2.1 dX7_appendPlayers_20 (by decide) (fun _ => ?_) (fun _ => ?_)
      · refine W.widen (k := 2 * (i + 1)) (n := 140 * (i + 1)) (by omega) (by omega) ?_
        exact next n1 v3 H locs ls (by omega) S hl
      have fin : ∀ (sa w : Nat), tX sa w A s s.heap → w ≤ 2 → W p l e0 (rmS 6 20 1400) s m9 args below meth c H locs (2 * i) (140 * i) (MQ below (va_Qv (fun Y : GY => ∃ n' L' m' a' ml', n' ≤ n + 3 * P ∧ sb_Fit a' ∧ capOk m' ∧ n' ≤ m' ∧ gU lay kb (L' kb) = L' ∧ Y = (L', sbX cy X k kb (L' kb) m' a' (nI n') ml')) (gO D A) A) args s 20 1400 A) (F0 m9 37 ls [.ref sa, .ref (lay k)]) := by
        intro sa w hw hw2
        refine sb_apS (rest := []) hC hT hA S hk hkb hkn hne hnk hnb h3 hw (by omega) (by omega) (cwV 1 hC.2.2.2.2 gX7_appendPlayers_J4_append_15ec4 rfl rfl rfl hdV_J4_append_15ec4 ⟨Nat.le_of_ble_eq_true rfl, Nat.le_of_ble_eq_true rfl⟩) hl.1 (Nat.le_of_ble_eq_true rfl) dX7_appendPlayers_37 ⟨by show _ ≤ 20; omega, by show _ ≤ 1400; omega⟩ (fun H locs S => ?_)
        refine lv_iload hC.1 hC.2.1 dX7_appendPlayers_40 (lv_at hl 0 rfl) ?_
        refine sb_apI (rest := []) hC hT hA S hk hkb hkn hne hnk hnb h3 (v := i) (by omega) (by omega) (cwV 1 hC.2.2.2.2 gX7_appendPlayers_J4_append_bf812 rfl rfl rfl hdV_J4_append_bf812 ⟨Nat.le_of_ble_eq_true rfl, Nat.le_of_ble_eq_true rfl⟩) hl.1 (Nat.le_of_ble_eq_true rfl) dX7_appendPlayers_42 ⟨by show _ ≤ 20; omega, by show _ ≤ 1400; omega⟩ (fun H locs S => ?_)
        refine lv_pop hC.1 hC.2.1 dX7_appendPlayers_45 rfl ?_
        refine lv_iconst (v := 0) hC.1 hC.2.1 dX7_appendPlayers_46 (by decide) ?_
        refine lv_istore_n (lv' := [(3, .int 0), (4, .int (nI i)), (0, .ref (lay 0)), (1, .ref (lay k)), (2, .int v)]) hC.1 hC.2.1 dX7_appendPlayers_47 rfl hl (by decide) rfl (fun ls hl => ?_)
        have hd : dg i = 1 := if_pos (by omega)
        refine W.widen (k := 2 * (i + 1)) (n := 140 * (i + 1)) (by omega) (by omega) ?_
        refine next (n1 + w + dg i) 0 H locs ls (by omega) S (lv_sub hl [1, 0, 2, 3, 4] rfl)
      refine lv_aload_n hC.1 hC.2.1 dX7_appendPlayers_23 rfl (lv_at hl 3 rfl) ?_
      refine lv_iload_n hC.1 hC.2.1 dX7_appendPlayers_24 rfl (lv_at hl 1 rfl) ?_
      refine lv_if_eq (tgt := 34) hC.1 hC.2.1 dX7_appendPlayers_25 (by decide) (fun _ => ?_) (fun _ => ?_)
      · refine va_ldcwS hC (hK 9 (552, ",", 1) rfl).1 dX7_appendPlayers_34 ?_
        exact fin _ _ (hK 9 (552, ",", 1) rfl).2 (by decide)
      refine va_ldcwS hC (hK 8 (550, ": ", 2) rfl).1 dX7_appendPlayers_28 ?_
      refine lv_goto (tgt := 37) hC.1 hC.2.1 dX7_appendPlayers_31 (by decide) ?_
      exact fin _ _ (hK 8 (550, ": ", 2) rfl).2 (by decide)
  refine lv_iconst (v := 1) hC.1 hC.2.1 dX7_appendPlayers_0 (by decide) ?_
  refine lv_istore_n (lv' := [(3, .int 1), (0, .ref (lay 0)), (1, .ref (lay k)), (2, .int v)]) hC.1 hC.2.1 dX7_appendPlayers_1 rfl hl (by decide) rfl (fun ls hl => ?_)
  refine lv_iconst (v := 0) hC.1 hC.2.1 dX7_appendPlayers_2 (by decide) ?_
  refine lv_istore (lv' := [(4, .int 0), (3, .int 1), (0, .ref (lay 0)), (1, .ref (lay k)), (2, .int v)]) hC.1 hC.2.1 dX7_appendPlayers_3 hl (by decide) rfl (fun ls hl => ?_)
  have hl : lv_has ls 5 [(4, .int (nI 0)), (3, .int 1), (0, .ref (lay 0)), (1, .ref (lay k)), (2, .int v)] := hl
  exact key P 0 (by omega) n 1 _ _ _ (by omega) S0 hl
end
section
/-! TEXTS: walks of StringBuilder, String (67b.tell) -/
/-! TEXTS: the class's methods that tell -/
def agIK (D : va_G) (cy : Nat → ClassId) (lay : Nat → Nat) (σ : MS) (ad : Nat → Nat) (sz : Nat) (U : State) : Prop := agI D cy lay σ sz U ∧ tB D cy (agA lay sz) U U.heap ∧ kS RX7 cTx ad (agA lay sz) U U.heap
theorem agIK_blind {D : va_G} {cy : Nat → ClassId} {lay : Nat → Nat} {σ : MS} {ad : Nat → Nat} {sz : Nat} {As : List Value} : FrameBlind (va_Pc As (agIK D cy lay σ ad sz)) := by
  intro a U g mk h
  obtain ⟨h0, h1, h2, h3⟩ := h
  have := agI_blind (D := D) (cy := cy) (lay := lay) (σ := σ) (sz := sz) (As := As) a U g mk ⟨h0, h1⟩
  exact ⟨this.1, this.2, tB.moved (u := U) (U := U.calling g mk a) (Vm.Alike.refl U.vm) (nest_same (u := U) (U := U.calling g mk a) rfl _ rfl h2.2.1) h2, kS.same (u := U) (U := U.calling g mk a) rfl h3⟩
section AGK
variable {p : Program} {l : Launch} {e : Env} {R : Room} {s : State} {m : MethodId} {args : Array Value} {below : List Frame} {meth : Method} {c : Code} {H : Heap} {locs : List Loc} {cells slots : Nat} {Q : State → Prop}
variable {cc bytes : ByteArray} {pc nL maxL mc ms n index : Nat} {ls : Array Slot} {ST rest As : List Value} {D : va_G} {cy : Nat → ClassId} {lay : Nat → Nat} {σ : MS} {Ts ws : List Cond} {own : String} {y : MethodName} {ret : Option FieldType} {rm : Room} {ad : Nat → Nat} {pex : String → MS → Prop}
theorem ag_ofXK {ws' : List Cond} {maxL : Nat} {sz : Nat} {Qc : Nat → Array Value → State → Outcome → State → Prop} (hy : plainName y.cls = true) (hw : ws = Cond.code y cc maxL ret :: ws') (hnl : (lg_sl As).length ≤ maxL) (hoo : y.cls = own)
    (body : ∀ (p : Program) (e : Env) (s : State) (m : MethodId) (args : Array Value) (below : List Frame) (meth : Method) (c : Code) (ls : Array Slot), CallFix p m c cc maxL s args ws own → meth.sig.returnType = ret → meth.locks = false → (∀ x ∈ c.exceptionTable.toList, False) → agT D cy lay s → tB D cy (agA lay s.heap.size) s s.heap → kS RX7 cTx ad (agA lay s.heap.size) s s.heap → agG D cy lay σ (agA lay s.heap.size) s.heap s.heap [] → lv_has ls maxL (lv_args 0 As) →
      W p l e rm s m args below meth c s.heap [] 0 0 (vx_MQ below (Qc s.heap.size) (agXC D cy lay pex s.heap.size) args s mc ms (agA lay s.heap.size)) (F0 m 0 ls [])) : vx_Met l y ws rm (va_Pc As (agIK D cy lay σ ad sz)) (Qc sz) (agXC D cy lay pex sz) mc ms (agA lay sz) := by
  refine vx_ofW (cc := cc) (maxL := maxL) (ret := ret) hy hw ?_
  intro p e s m args below meth c s₁ B hml htab hv
  obtain ⟨rfl, ⟨hsz, hT, hP, hD⟩, hB, hK⟩ := hv
  subst hsz
  have hl := lv_entry As (n := maxL) hnl
  rw [lg_entry_eq]
  have hown : s.vm.findClass y.cls = some m.cls := findClass_of_methodNamed B.named
  rw [hoo] at hown
  exact body p e s m As.toArray below meth c _ ⟨B.exec, B.bytes, hml, hown, atoms_spec (ws := ws) B.pre⟩ B.returns B.notSynchronized htab hT hB hK ⟨hP, agD_of hD, va_S.rf⟩ hl
/-- a text comes out, the class's world as it is -/
theorem ag_tret {post : MS → Prop} {q : Nat} {rt : FieldType} {locs : List Loc} (hC : CallFix p m c cc nL s args Ts own) (hr : meth.sig.returnType = some rt) (hrt : ∃ C, rt = .object C) (hlocks : meth.locks = false) (G : agG D cy lay σ (agA lay s.heap.size) s.heap H locs) (h : post σ) (hdg : decode cc pc = .ok (.areturn, 1)) :
    W p l e R s m args below meth c H locs cells slots (MQ below (va_Qr (S := MS) post (fun τ _ t => agO D cy lay τ t) (agA lay s.heap.size)) args s cells slots (agA lay s.heap.size)) (F0 m pc ls [.ref q]) :=
  W.aret (v := .ref q) hC.1 hC.2.1 hr (Or.inl hrt) (Or.inr ⟨_, rfl⟩) (fun t ht hW => ⟨⟨σ, q, rfl, h, agO_G G ht⟩, G.2.2.F ht⟩) G.2.2.2.2 hdg hlocks
end AGK
/-- a name of a state, beside a StringBuilder -/
theorem sb_nameOf {p : Program} {l : Launch} {e : Env} {R : Room} {s : State} {m : MethodId} {args : Array Value} {below : List Frame} {meth : Method} {c : Code} {H : Heap} {locs : List Loc} {cells slots : Nat} {Q : State → Prop} {cc : ByteArray} {pc nL index : Nat} {ls : Array Slot} {rest : List Value} {D : va_G} {cy : Nat → ClassId} {lay : Nat → Nat} {X : Nat → Option va_E} {A : Nat → Prop} {Ts : List Cond} {own : String} {k kb n : Nat} {ad : Nat → Nat} {st : Int32}
    (hC : CallFix p m c cc nL s args Ts own) (hT : tB D cy A s s.heap) (hK : kS RX7 cTx ad A s s.heap) (hA : ∀ q, s.heap.size ≤ q → A q) (S : sbW D cy lay X A s.heap H locs k kb n)
    (cw : CallB R s args own index yX7_nameOfState cX7_nameOfState 1 (some (.object "java/lang/String")) wsX7_nameOfState (rmS 0 0 0) 0 0 1 ∧ (Cond.static yX7_nameOfState).before args s = true) (hls : ls.size = nL) (hW : (rest.map fun v => v.category).sum ≤ 8) (hdg : decode cc pc = .ok (.invokestatic index, 3)) (hf : cells + 0 ≤ R.cells ∧ slots + 0 ≤ R.slots)
    (kk : ∀ (i : Nat) (H1 : Heap) (locs1 : List Loc), 4 ≤ i → i ≤ 7 → sbW D cy lay X A s.heap H1 locs1 k kb n → W p l e R s m args below meth c H1 locs1 (cells + 0) (slots + 0) Q (F0 m (pc + 3) ls (.ref (ad i) :: rest))) : W p l e R s m args below meth c H locs cells slots Q (F0 m pc ls (.int st :: rest)) := by
  obtain ⟨L, m1, a, ml, hf1, hm, hnm, hL, G⟩ := S
  refine va_callr (sk_runS (As := [.int st]) (rest := rest) hC hT hA G hK (c_nameOf l D cy L (sbX cy X k kb (L kb) m1 a (nI n) ml) ad _) cw rfl hls rfl hW hdg hf) G.2.2 (fun q _ h => gA_in G hA q h) (gA_in G hA) (fun u ra t H1 locs1 ht hvm hw hB hz hk hS => ?_)
  obtain ⟨⟨i, i1, i2, rfl⟩, hO⟩ := hB
  subst hw
  exact kk i H1 locs1 i1 i2 ⟨L, m1, a, ml, hf1, hm, hnm, hL, by rw [← ht]; exact hO.1, gI_weak hO.2 (gA_in G hA), hS⟩
/-- the players, beside a StringBuilder -/
theorem sb_appP {p : Program} {l : Launch} {e : Env} {R : Room} {s : State} {m : MethodId} {args : Array Value} {below : List Frame} {meth : Method} {c : Code} {H : Heap} {locs : List Loc} {cells slots : Nat} {Q : State → Prop} {cc : ByteArray} {pc nL index : Nat} {ls : Array Slot} {rest : List Value} {D : va_G} {cy : Nat → ClassId} {lay : Nat → Nat} {X : Nat → Option va_E} {A : Nat → Prop} {Ts : List Cond} {own : String} {k kb kn n P : Nat} {ad : Nat → Nat} {v : Int32} {fs : List Value}
    (hC : CallFix p m c cc nL s args Ts own) (hT : tB D cy A s s.heap) (hK : kS RX7 cTx ad A s s.heap) (hA : ∀ q, s.heap.size ≤ q → A q) (S : sbW D cy lay X A s.heap H locs k kb n) (hk : k < 128) (hkb : kb < 128) (hkn : kn < 128) (hne : kb ≠ k) (hnk : kn ≠ k) (hnb : kn ≠ kb) (h0k : 0 ≠ k) (h0b : 0 ≠ kb) (h3 : X kn = none) (hX0 : X 0 = some (.inr (12, fs))) (hfs : fs[6]? = some (.int (nI P))) (hP : P ≤ 10) (hn : n ≤ 36)
    (cw : CallW R s args own RX7 index yX7_appendPlayers cX7_appendPlayers 5 none wsX7_appendPlayers (rmS 6 20 1400) 20 1400 2) (hls : ls.size = nL) (hW : (rest.map fun v => v.category).sum ≤ 8) (hdg : decode cc pc = .ok (.invokevirtual index, 3)) (hf : cells + 20 ≤ R.cells ∧ slots + 1400 ≤ R.slots)
    (kk : ∀ (n' : Nat) (H1 : Heap) (locs1 : List Loc), n' ≤ n + 3 * P → sbW D cy lay X A s.heap H1 locs1 k kb n' → W p l e R s m args below meth c H1 locs1 (cells + 20) (slots + 1400) Q (F0 m (pc + 3) ls rest)) : W p l e R s m args below meth c H locs cells slots Q (F0 m pc ls (.int v :: .ref (lay k) :: .ref (lay 0) :: rest)) := by
  obtain ⟨L, m1, a, ml, hf1, hm, hnm, hL, G⟩ := S
  have e1 : L k = lay k := gU_out hL (Ne.symm hne)
  have e0 : L 0 = lay 0 := gU_out hL h0b
  rw [← e1, ← e0]
  refine g_v G hA (sk_runV (As := [.ref (L k), .int v]) (rest := rest) (b := L 0) hC hT hA G hK (c_appP l D cy lay L X ad hk hkb hkn hne hnk hnb h0k h0b h3 hX0 hfs hP hL hf1 hm hnm hn _) cw (s_recv hT G (by decide) ((sbX_o h0k h0b).trans hX0) k_X7) rfl hls rfl hW hdg hf) (fun Y H1 locs1 hY G1 => ?_)
  obtain ⟨n', L', m', a', ml', g0, g1, g2, g3, g4, rfl⟩ := hY
  exact kk n' H1 locs1 g0 ⟨L', m', a', ml', g1, g2, g3, g4, G1⟩
def w_T_X7_tell (post : MS → Prop) (pex : String → MS → Prop) (σ : MS) (a1 : Int32) : Prop := w_T_X7_checkWedding (fun σ1 => ∃ w d t P : Nat, w < 14 ∧ a1 = nI w ∧ d < 1000 ∧ σ1 (73 + w) 1 = nI d ∧ t < 1000 ∧ σ1 (73 + w) 2 = nI t ∧ P ≤ 10 ∧ σ1 0 6 = nI P ∧ post σ1) pex σ a1
set_option maxHeartbeats 8000000 in
set_option maxRecDepth 100000 in
theorem c_T_X7_tell (l : Launch) (hl0 : l.stackTraces = false) (D : va_G) (cy : Nat → ClassId) (lay : Nat → Nat) (ad : Nat → Nat) {σ : MS} {post : MS → Prop} {pex : String → MS → Prop} {a1 : Int32} (h : w_T_X7_tell post pex σ a1) (sz : Nat) : vx_Met l yX7_tell wsX7_tell (rmS 9 40 2400) (va_Pc [.ref (lay 0), .int a1] (agIK D cy lay σ ad sz)) (va_Qr (S := MS) post (fun τ _ t => agO D cy lay τ t) (agA lay sz)) (agXC D cy lay pex sz) 40 2400 (agA lay sz) := by
  refine ag_ofXK (cc := cX7_tell) (maxL := 4) (ret := (some (.object "java/lang/String"))) (own := RX7) (Qc := fun sz => va_Qr (S := MS) post (fun τ _ t => agO D cy lay τ t) (agA lay sz)) (by decide) rfl (Nat.le_of_ble_eq_true rfl) rfl ?_
  intro p e s m args below meth c ls hC hr hlocks htab hT hB hK G hl
  unfold w_T_X7_tell at h
  have hA : ∀ q, s.heap.size ≤ q → agA lay s.heap.size q := fun _ h => Or.inr h
  have hl : lv_has ls 4 [(0, .ref (lay 0)), (1, .int a1)] := hl
  refine lv_aload_n hC.1 hC.2.1 dX7_tell_0 rfl (lv_at hl 0 rfl) ?_
  refine lv_iload_n hC.1 hC.2.1 dX7_tell_1 rfl (lv_at hl 1 rfl) ?_
  refine ag_vT G htab hlocks (ag_runVT (As := [.int a1]) (rest := []) hC hT G (c_T_X7_checkWedding l hl0 D cy lay h _) (cwV 1 hC.2.2.2.2 gX7_tell_X7_checkWedding rfl rfl rfl hdV_X7_checkWedding ⟨Nat.le_of_ble_eq_true rfl, Nat.le_of_ble_eq_true rfl⟩) (ag_recv hT G (by decide) e_ag k_X7) rfl hl.1 rfl (Nat.le_of_ble_eq_true rfl) dX7_tell_2 ⟨Nat.le_of_ble_eq_true rfl, Nat.le_of_ble_eq_true rfl⟩) (by decide) (by decide) (fun σ1 H locs h G => ?_)
  obtain ⟨w, d, t, P, hw, rfl, hd, ed, ht, et, hP, eP, h⟩ := h
  refine lv_aload_n hC.1 hC.2.1 dX7_tell_5 rfl (lv_at hl 0 rfl) ?_
  refine ag_get hC hT G (by decide) e_ag k_X7 (fun _ h => List.mem_cons_of_mem _ (List.mem_append_left _ (List.mem_append_left _ (List.mem_append_left _ (List.mem_append_left _ (List.mem_append_right _ h)))))) 3 (by decide) (wm 1 rfl) rfl dX7_tell_6 ?_
  refine lv_iload_n hC.1 hC.2.1 dX7_tell_9 rfl (lv_at hl 1 rfl) ?_
  refine ag_aald hC hT G (by decide) _ rfl e_wds (vp_in_nI hw (by decide)) dX7_tell_10 ?_
  rw [nI_clamp (by omega)]
  refine lv_astore_n (lv' := [(2, .ref (lay (73 + w))), (0, .ref (lay 0)), (1, .int (nI w))]) hC.1 hC.2.1 dX7_tell_11 rfl hl (by decide) rfl (fun ls hl => ?_)
  have G := ag_g G
  have hXw : agX cy lay σ1 (73 + w) = some (.inr (11, L12 (σ1 (73 + w)))) := (agX_at (by omega)).trans (congrArg some (e_wd hw))
  have hX0 : agX cy lay σ1 0 = some (.inr (12, Lag lay (σ1 0))) := (agX_at (by decide)).trans rfl
  have hn90 : agX cy lay σ1 90 = none := agX_no (by decide)
  have hn91 : agX cy lay σ1 91 = none := agX_no (by decide)
  have hn92 : agX cy lay σ1 92 = none := agX_no (by decide)
  have hn93 : agX cy lay σ1 93 = none := agX_no (by decide)
  have hn94 : agX cy lay σ1 94 = none := agX_no (by decide)
  refine sb_new (k := 90) (kb := 91) (rest := []) hC hB hA G (by decide) (by decide) (by decide) hn90 hn91 (fun _ h => List.mem_cons_of_mem _ (List.mem_append_left _ (List.mem_append_left _ (List.mem_append_left _ (List.mem_append_right _ h))))) (wm 2 rfl) (wm 3 rfl) (wm 4 rfl) ⟨callB_of 0 hC.2.2.2.2 gX7_tell_J4_init_da8c8 rfl rfl rfl (hC.2.2.2.2 (.initialized RJ4) (wm 4 rfl)) (hC.2.2.2.2 (.methodLink RX7 368 yJ4_init_da8c8) (wm 17 rfl)) hdI_J4_init_da8c8 ⟨Nat.le_of_ble_eq_true rfl, Nat.le_of_ble_eq_true rfl⟩, rfl, hC.2.2.2.2 (.instanceMethod yJ4_init_da8c8) (wm 18 rfl)⟩ hl.1 (Nat.le_of_ble_eq_true rfl) dX7_tell_12 dX7_tell_15 dX7_tell_16 ⟨Nat.le_of_ble_eq_true rfl, Nat.le_of_ble_eq_true rfl⟩ (fun q H locs S => ?_)
  have eo : ∀ j, j < 87 → gU lay 90 q j = lay j := fun j hj => gU_ne (by omega)
  refine lv_astore_n (lv' := [(3, .ref (gU lay 90 q 90)), (2, .ref (lay (73 + w))), (0, .ref (lay 0)), (1, .int (nI w))]) hC.1 hC.2.1 dX7_tell_19 rfl hl (by decide) rfl (fun ls hl => ?_)
  generalize gU lay 90 q = L at eo S hl
  rw [← eo 0 (by decide), ← eo (73 + w) (by omega)] at hl
  have d1 : ∀ v, dg v ≤ 3 := fun v => by unfold dg; split <;> (try split) <;> omega
  have q1 := d1 w
  have q2 := d1 d
  have q3 := d1 t
  refine lv_aload_n hC.1 hC.2.1 dX7_tell_20 rfl (lv_at hl 0 rfl) ?_
  refine lv_iload_n hC.1 hC.2.1 dX7_tell_21 rfl (lv_at hl 3 rfl) ?_
  refine sb_apI (kn := 92) (rest := []) hC hB hA S (by decide) (by decide) (by decide) (by decide) (by decide) (by decide) hn92 (v := w) (by omega) (by omega) (cwV 1 hC.2.2.2.2 gX7_tell_J4_append_bf812 rfl rfl rfl hdV_J4_append_bf812 ⟨Nat.le_of_ble_eq_true rfl, Nat.le_of_ble_eq_true rfl⟩) hl.1 (Nat.le_of_ble_eq_true rfl) dX7_tell_22 ⟨Nat.le_of_ble_eq_true rfl, Nat.le_of_ble_eq_true rfl⟩ (fun H locs S => ?_)
  refine va_ldcwS hC (hK 1 (400, " on day ", 8) rfl).1 dX7_tell_25 ?_
  refine sb_apS (kn := 92) (rest := []) hC hB hA S (by decide) (by decide) (by decide) (by decide) (by decide) (by decide) hn92 (show tX (ad 1) 8 (agA lay s.heap.size) s s.heap from (hK 1 (400, " on day ", 8) rfl).2) (by decide) (by omega) (cwV 1 hC.2.2.2.2 gX7_tell_J4_append_15ec4 rfl rfl rfl hdV_J4_append_15ec4 ⟨Nat.le_of_ble_eq_true rfl, Nat.le_of_ble_eq_true rfl⟩) hl.1 (Nat.le_of_ble_eq_true rfl) dX7_tell_28 ⟨Nat.le_of_ble_eq_true rfl, Nat.le_of_ble_eq_true rfl⟩ (fun H locs S => ?_)
  refine lv_aload_n hC.1 hC.2.1 dX7_tell_31 rfl (lv_at hl 1 rfl) ?_
  refine sb_get hC hB S (by omega) (by omega) (by omega) hXw k_X6 (fun _ h => List.mem_cons_of_mem _ (List.mem_append_left _ (List.mem_append_left _ (List.mem_append_right _ h)))) 1 (by decide) (wm 5 rfl) rfl dX7_tell_32 ?_
  rw [ed]
  refine sb_apI (kn := 92) (rest := []) hC hB hA S (by decide) (by decide) (by decide) (by decide) (by decide) (by decide) hn92 (v := d) hd (by omega) (cwV 1 hC.2.2.2.2 gX7_tell_J4_append_bf812 rfl rfl rfl hdV_J4_append_bf812 ⟨Nat.le_of_ble_eq_true rfl, Nat.le_of_ble_eq_true rfl⟩) hl.1 (Nat.le_of_ble_eq_true rfl) dX7_tell_35 ⟨Nat.le_of_ble_eq_true rfl, Nat.le_of_ble_eq_true rfl⟩ (fun H locs S => ?_)
  refine va_ldcwS hC (hK 2 (405, " in ", 4) rfl).1 dX7_tell_38 ?_
  refine sb_apS (kn := 92) (rest := []) hC hB hA S (by decide) (by decide) (by decide) (by decide) (by decide) (by decide) hn92 (show tX (ad 2) 4 (agA lay s.heap.size) s s.heap from (hK 2 (405, " in ", 4) rfl).2) (by decide) (by omega) (cwV 1 hC.2.2.2.2 gX7_tell_J4_append_15ec4 rfl rfl rfl hdV_J4_append_15ec4 ⟨Nat.le_of_ble_eq_true rfl, Nat.le_of_ble_eq_true rfl⟩) hl.1 (Nat.le_of_ble_eq_true rfl) dX7_tell_41 ⟨Nat.le_of_ble_eq_true rfl, Nat.le_of_ble_eq_true rfl⟩ (fun H locs S => ?_)
  refine lv_aload_n hC.1 hC.2.1 dX7_tell_44 rfl (lv_at hl 1 rfl) ?_
  refine sb_get hC hB S (by omega) (by omega) (by omega) hXw k_X6 (fun _ h => List.mem_cons_of_mem _ (List.mem_append_left _ (List.mem_append_left _ (List.mem_append_right _ h)))) 2 (by decide) (wm 6 rfl) rfl dX7_tell_45 ?_
  rw [et]
  refine sb_apI (kn := 92) (rest := []) hC hB hA S (by decide) (by decide) (by decide) (by decide) (by decide) (by decide) hn92 (v := t) ht (by omega) (cwV 1 hC.2.2.2.2 gX7_tell_J4_append_bf812 rfl rfl rfl hdV_J4_append_bf812 ⟨Nat.le_of_ble_eq_true rfl, Nat.le_of_ble_eq_true rfl⟩) hl.1 (Nat.le_of_ble_eq_true rfl) dX7_tell_48 ⟨Nat.le_of_ble_eq_true rfl, Nat.le_of_ble_eq_true rfl⟩ (fun H locs S => ?_)
  refine lv_pop hC.1 hC.2.1 dX7_tell_51 rfl ?_
  refine lv_aload_n hC.1 hC.2.1 dX7_tell_52 rfl (lv_at hl 0 rfl) ?_
  refine va_ldcwS hC (hK 3 (407, ", ", 2) rfl).1 dX7_tell_53 ?_
  refine sb_apS (kn := 92) (rest := []) hC hB hA S (by decide) (by decide) (by decide) (by decide) (by decide) (by decide) hn92 (show tX (ad 3) 2 (agA lay s.heap.size) s s.heap from (hK 3 (407, ", ", 2) rfl).2) (by decide) (by omega) (cwV 1 hC.2.2.2.2 gX7_tell_J4_append_15ec4 rfl rfl rfl hdV_J4_append_15ec4 ⟨Nat.le_of_ble_eq_true rfl, Nat.le_of_ble_eq_true rfl⟩) hl.1 (Nat.le_of_ble_eq_true rfl) dX7_tell_56 ⟨Nat.le_of_ble_eq_true rfl, Nat.le_of_ble_eq_true rfl⟩ (fun H locs S => ?_)
  refine lv_aload_n hC.1 hC.2.1 dX7_tell_59 rfl (lv_at hl 1 rfl) ?_
  refine sb_get hC hB S (by omega) (by omega) (by omega) hXw k_X6 (fun _ h => List.mem_cons_of_mem _ (List.mem_append_left _ (List.mem_append_left _ (List.mem_append_right _ h)))) 7 (by decide) (wm 7 rfl) rfl dX7_tell_60 ?_
  refine sb_nameOf (ad := ad) (rest := [.ref (L 90)]) hC hB hK hA S (va_cwS 1 hC.2.2.2.2 gX7_tell_X7_nameOfState rfl rfl rfl hdS_X7_nameOfState ⟨Nat.le_of_ble_eq_true rfl, Nat.le_of_ble_eq_true rfl⟩) hl.1 (Nat.le_of_ble_eq_true rfl) dX7_tell_63 ⟨Nat.le_of_ble_eq_true rfl, Nat.le_of_ble_eq_true rfl⟩ (fun i H locs i1 i2 S => ?_)
  obtain ⟨w8, hw8, hX8⟩ : ∃ w8, w8 ≤ 6 ∧ tX (ad i) w8 (agA lay s.heap.size) s s.heap := by
    rcases (show i = 4 ∨ i = 5 ∨ i = 6 ∨ i = 7 by omega) with rfl | rfl | rfl | rfl
    · exact ⟨5, by decide, (hK 4 (543, "asked", 5) rfl).2⟩
    · exact ⟨5, by decide, (hK 5 (545, "fixed", 5) rfl).2⟩
    · exact ⟨6, by decide, (hK 6 (547, "played", 6) rfl).2⟩
    · exact ⟨4, by decide, (hK 7 (548, "lost", 4) rfl).2⟩
  refine sb_apS (kn := 92) (rest := []) hC hB hA S (by decide) (by decide) (by decide) (by decide) (by decide) (by decide) hn92 hX8 (by omega) (by omega) (cwV 1 hC.2.2.2.2 gX7_tell_J4_append_15ec4 rfl rfl rfl hdV_J4_append_15ec4 ⟨Nat.le_of_ble_eq_true rfl, Nat.le_of_ble_eq_true rfl⟩) hl.1 (Nat.le_of_ble_eq_true rfl) dX7_tell_66 ⟨Nat.le_of_ble_eq_true rfl, Nat.le_of_ble_eq_true rfl⟩ (fun H locs S => ?_)
  refine lv_pop hC.1 hC.2.1 dX7_tell_69 rfl ?_
  refine W.widen (k := 18) (n := 900) (by decide) (by decide) ?_
  have hn40 : 0 + dg w + 8 + dg d + 4 + dg t + 2 + w8 ≤ 36 := by omega
  generalize 0 + dg w + 8 + dg d + 4 + dg t + 2 + w8 = n at hn40 S
  have fin : ∀ (n' : Nat) (H : Heap) (locs : List Loc) (ls : Array Slot), n' ≤ 70 → sbW D cy L (agX cy lay σ1) (agA lay s.heap.size) s.heap H locs 90 91 n' → lv_has ls 4 [(3, .ref (L 90)), (2, .ref (L (73 + w))), (0, .ref (L 0)), (1, .int (nI w))] → W p l e (rmS 9 40 2400) s m args below meth c H locs 38 2300 (vx_MQ below (va_Qr (S := MS) post (fun τ _ t => agO D cy lay τ t) (agA lay s.heap.size)) (agXC D cy lay pex s.heap.size) args s 40 2400 (agA lay s.heap.size)) (F0 m 95 ls []) := by
    intro n' H locs ls hn' S hl
    refine lv_aload_n hC.1 hC.2.1 dX7_tell_95 rfl (lv_at hl 0 rfl) ?_
    refine sb_toS (ks := 93) (kr := 94) (rest := []) hC hB hA S (by decide) (by decide) (by decide) (by decide) (by decide) (by decide) (by decide) (by decide) (by decide) (by decide) hn93 hn94 (cwV 0 hC.2.2.2.2 gX7_tell_J4_toString_0e30d rfl rfl rfl hdV_J4_toString_0e30d ⟨Nat.le_of_ble_eq_true rfl, Nat.le_of_ble_eq_true rfl⟩) hl.1 (Nat.le_of_ble_eq_true rfl) dX7_tell_96 ⟨Nat.le_of_ble_eq_true rfl, Nat.le_of_ble_eq_true rfl⟩ (fun qs L' X' H locs hk G => ?_)
    refine W.widen (k := 40) (n := 2400) (by decide) (by decide) ?_
    have G := g_ag (σ := σ1) (lay := lay) (cy := cy) (fun k hk87 => ((hk k (by omega) (by omega) (by omega) (by omega)).2).trans (agX_at hk87)) (fun k hk87 => ((hk k (by omega) (by omega) (by omega) (by omega)).1).trans (eo k hk87)) G
    exact vx_ret (ag_tret hC hr ⟨_, rfl⟩ hlocks G h dX7_tell_99)
  have app : W p l e (rmS 9 40 2400) s m args below meth c H locs 18 900 (vx_MQ below (va_Qr (S := MS) post (fun τ _ t => agO D cy lay τ t) (agA lay s.heap.size)) (agXC D cy lay pex s.heap.size) args s 40 2400 (agA lay s.heap.size)) (F0 m 86 ls []) := by
    refine lv_aload_n hC.1 hC.2.1 dX7_tell_86 rfl (lv_at hl 2 rfl) ?_
    refine lv_aload_n hC.1 hC.2.1 dX7_tell_87 rfl (lv_at hl 0 rfl) ?_
    refine lv_aload_n hC.1 hC.2.1 dX7_tell_88 rfl (lv_at hl 1 rfl) ?_
    refine sb_get hC hB S (by omega) (by omega) (by omega) hXw k_X6 (fun _ h => List.mem_cons_of_mem _ (List.mem_append_left _ (List.mem_append_left _ (List.mem_append_right _ h)))) 8 (by decide) (wm 8 rfl) rfl dX7_tell_89 ?_
    refine sb_appP (kn := 92) (ad := ad) (P := P) (rest := []) hC hB hK hA S (by decide) (by decide) (by decide) (by decide) (by decide) (by decide) (by decide) (by decide) hn92 hX0 (by show some (Value.int (σ1 0 6)) = _; rw [eP]) hP hn40 (cwV 2 hC.2.2.2.2 gX7_tell_X7_appendPlayers rfl rfl rfl hdV_X7_appendPlayers ⟨Nat.le_of_ble_eq_true rfl, Nat.le_of_ble_eq_true rfl⟩) hl.1 (Nat.le_of_ble_eq_true rfl) dX7_tell_92 ⟨Nat.le_of_ble_eq_true rfl, Nat.le_of_ble_eq_true rfl⟩ (fun n' H locs hn' S => ?_)
    exact fin n' H locs ls (by omega) S hl
  refine lv_aload_n hC.1 hC.2.1 dX7_tell_70 rfl (lv_at hl 1 rfl) ?_
  refine sb_get hC hB S (by omega) (by omega) (by omega) hXw k_X6 (fun _ h => List.mem_cons_of_mem _ (List.mem_append_left _ (List.mem_append_left _ (List.mem_append_right _ h)))) 7 (by decide) (wm 7 rfl) rfl dX7_tell_71 ?_
  refine lv_iconst (v := 1) hC.1 hC.2.1 dX7_tell_74 (by decide) ?_
  refine lv_icmp_eq (tgt := 86) hC.1 hC.2.1 dX7_tell_75 (by decide) (fun _ => app) (fun _ => ?_)
  refine lv_aload_n hC.1 hC.2.1 dX7_tell_78 rfl (lv_at hl 1 rfl) ?_
  refine sb_get hC hB S (by omega) (by omega) (by omega) hXw k_X6 (fun _ h => List.mem_cons_of_mem _ (List.mem_append_left _ (List.mem_append_left _ (List.mem_append_right _ h)))) 7 (by decide) (wm 7 rfl) rfl dX7_tell_79 ?_
  refine lv_iconst (v := 2) hC.1 hC.2.1 dX7_tell_82 (by decide) ?_
  refine lv_icmp_ne (tgt := 95) hC.1 hC.2.1 dX7_tell_83 (by decide) (fun _ => ?_) (fun _ => app)
  refine W.widen (k := 38) (n := 2300) (by decide) (by decide) ?_
  exact fin n H locs ls (by omega) S hl
end
section
/-! TEXTS: walks of StringBuilder, String (68.songs) -/
def w_T_X7_songs (post : MS → Prop) (pex : String → MS → Prop) (σ : MS) (a1 : Int32) : Prop := w_T_X7_checkWedding (fun σ1 => ∃ w : Nat, w < 14 ∧ a1 = nI w ∧ w_X7_playableFor (fun r σ2 => w_X1_choose (fun σ3 => ∃ N : Nat, N ≤ 16 ∧ σ3 10 1 = nI N ∧ (∀ j, j < N → ∃ v : Nat, v < 1000 ∧ σ3 11 j = nI v) ∧ post σ3) σ2 r) σ1 (σ1 (73 + w) 8)) pex σ a1
set_option maxHeartbeats 8000000 in
set_option maxRecDepth 100000 in
theorem c_T_X7_songs (l : Launch) (hl0 : l.stackTraces = false) (D : va_G) (cy : Nat → ClassId) (lay : Nat → Nat) (ad : Nat → Nat) {σ : MS} {post : MS → Prop} {pex : String → MS → Prop} {a1 : Int32} (h : w_T_X7_songs post pex σ a1) (sz : Nat) : vx_Met l yX7_songs wsX7_songs (rmS 9 40 2400) (va_Pc [.ref (lay 0), .int a1] (agIK D cy lay σ ad sz)) (va_Qr (S := MS) post (fun τ _ t => agO D cy lay τ t) (agA lay sz)) (agXC D cy lay pex sz) 40 2400 (agA lay sz) := by
  refine ag_ofXK (cc := cX7_songs) (maxL := 4) (ret := (some (.object "java/lang/String"))) (own := RX7) (Qc := fun sz => (va_Qr (S := MS) post (fun τ _ t => agO D cy lay τ t) (agA lay sz))) (by decide) rfl (Nat.le_of_ble_eq_true rfl) rfl ?_
  intro p e s m args below meth c ls hC hr hlocks htab hT hB hK G hl
  unfold w_T_X7_songs at h
  have hA : ∀ q, s.heap.size ≤ q → agA lay s.heap.size q := fun _ h => Or.inr h
  have hl : lv_has ls 4 [(0, .ref (lay 0)), (1, .int a1)] := hl
  refine lv_aload_n hC.1 hC.2.1 dX7_songs_0 rfl (lv_at hl 0 rfl) ?_
  refine lv_iload_n hC.1 hC.2.1 dX7_songs_1 rfl (lv_at hl 1 rfl) ?_
  refine ag_vT G htab hlocks (ag_runVT (As := [.int a1]) (rest := []) hC hT G (c_T_X7_checkWedding l hl0 D cy lay h _) (cwV 1 hC.2.2.2.2 gX7_songs_X7_checkWedding rfl rfl rfl hdV_X7_checkWedding ⟨Nat.le_of_ble_eq_true rfl, Nat.le_of_ble_eq_true rfl⟩) (ag_recv hT G (by decide) e_ag k_X7) rfl hl.1 rfl (Nat.le_of_ble_eq_true rfl) dX7_songs_2 ⟨Nat.le_of_ble_eq_true rfl, Nat.le_of_ble_eq_true rfl⟩) (by decide) (by decide) (fun σ1 H locs h G => ?_)
  obtain ⟨w, hw, ea, h1⟩ := h
  subst ea
  refine lv_aload_n hC.1 hC.2.1 dX7_songs_5 rfl (lv_at hl 0 rfl) ?_
  refine ag_get hC hT G (by decide) e_ag k_X7 (fun _ h => List.mem_cons_of_mem _ (List.mem_append_left _ (List.mem_append_left _ (List.mem_append_left _ (List.mem_append_left _ (List.mem_append_left _ (List.mem_append_left _ (List.mem_append_left _ (List.mem_append_right _ h))))))))) 14 (by decide) (wm 1 rfl) rfl dX7_songs_6 ?_
  refine lv_aload_n hC.1 hC.2.1 dX7_songs_9 rfl (lv_at hl 0 rfl) ?_
  refine ag_get hC hT G (by decide) e_ag k_X7 (fun _ h => List.mem_cons_of_mem _ (List.mem_append_left _ (List.mem_append_left _ (List.mem_append_left _ (List.mem_append_left _ (List.mem_append_left _ (List.mem_append_left _ (List.mem_append_left _ (List.mem_append_right _ h))))))))) 1 (by decide) (wm 2 rfl) rfl dX7_songs_10 ?_
  refine lv_aload_n hC.1 hC.2.1 dX7_songs_13 rfl (lv_at hl 0 rfl) ?_
  refine lv_aload_n hC.1 hC.2.1 dX7_songs_14 rfl (lv_at hl 0 rfl) ?_
  refine ag_get hC hT G (by decide) e_ag k_X7 (fun _ h => List.mem_cons_of_mem _ (List.mem_append_left _ (List.mem_append_left _ (List.mem_append_left _ (List.mem_append_left _ (List.mem_append_left _ (List.mem_append_left _ (List.mem_append_left _ (List.mem_append_right _ h))))))))) 3 (by decide) (wm 3 rfl) rfl dX7_songs_15 ?_
  refine lv_iload_n hC.1 hC.2.1 dX7_songs_18 rfl (lv_at hl 1 rfl) ?_
  refine ag_aald hC hT G (by decide) _ rfl e_wds (vp_in_nI hw (by decide)) dX7_songs_19 ?_
  rw [nI_clamp (by omega)]
  refine ag_get hC hT G (k_wd hw) (e_wd hw) k_X6 (fun _ h => List.mem_cons_of_mem _ (List.mem_append_left _ (List.mem_append_left _ (List.mem_append_left _ (List.mem_append_left _ (List.mem_append_left _ (List.mem_append_left _ (List.mem_append_right _ h)))))))) 8 (by decide) (wm 4 rfl) rfl dX7_songs_20 ?_
  refine ag_i G (ag_runV (As := [.int (σ1 (73 + w) 8)]) (rest := [.ref (lay 2), .ref (lay 10)]) hC hT G (c_X7_playableFor l D cy lay h1 _) (cwV 1 hC.2.2.2.2 gX7_songs_X7_playableFor rfl rfl rfl hdV_X7_playableFor ⟨Nat.le_of_ble_eq_true rfl, Nat.le_of_ble_eq_true rfl⟩) (ag_recv hT G (by decide) e_ag k_X7) rfl hl.1 rfl (Nat.le_of_ble_eq_true rfl) dX7_songs_23 ⟨Nat.le_of_ble_eq_true rfl, Nat.le_of_ble_eq_true rfl⟩) (fun r σ2 H locs h G => ?_)
  (try dsimp only at h)
  refine ag_v G (ag_runV (As := [.ref (lay 2), .int r]) (rest := []) hC hT G (c_X1_choose l D cy lay h _) (cwV 2 hC.2.2.2.2 gX7_songs_X1_choose rfl rfl rfl hdV_X1_choose ⟨Nat.le_of_ble_eq_true rfl, Nat.le_of_ble_eq_true rfl⟩) (ag_recv hT G (by decide) e_bs k_X1) rfl hl.1 rfl (Nat.le_of_ble_eq_true rfl) dX7_songs_26 ⟨Nat.le_of_ble_eq_true rfl, Nat.le_of_ble_eq_true rfl⟩) (fun σ3 H locs h G => ?_)
  obtain ⟨N, hN, eN, hv, h⟩ := h
  refine lv_aload_n hC.1 hC.2.1 dX7_songs_29 rfl (lv_at hl 0 rfl) ?_
  refine ag_get hC hT G (by decide) e_ag k_X7 (fun _ h => List.mem_cons_of_mem _ (List.mem_append_left _ (List.mem_append_left _ (List.mem_append_left _ (List.mem_append_left _ (List.mem_append_left _ (List.mem_append_left _ (List.mem_append_left _ (List.mem_append_right _ h))))))))) 14 (by decide) (wm 1 rfl) rfl dX7_songs_30 ?_
  refine ag_get hC hT G (by decide) e_bs k_X1 (fun _ h => List.mem_cons_of_mem _ (List.mem_append_left _ (List.mem_append_left _ (List.mem_append_left _ (List.mem_append_left _ (List.mem_append_left _ (List.mem_append_right _ h))))))) 1 (by decide) (wm 5 rfl) rfl dX7_songs_33 ?_
  refine lv_if_ne (tgt := 43) hC.1 hC.2.1 dX7_songs_36 (by decide) (fun _ => ?_) (fun _ => ?_)
  rotate_left
  · refine va_ldcwS hC (hK 0 (364, "-", 1) rfl).1 dX7_songs_39 ?_
    refine W.widen (k := 40) (n := 2400) (by decide) (by decide) ?_
    exact vx_ret (ag_tret hC hr ⟨_, rfl⟩ hlocks G h dX7_songs_42)
  have G := ag_g G
  have hX0 : agX cy lay σ3 0 = some (.inr (12, Lag lay (σ3 0))) := (agX_at (by decide)).trans rfl
  have hX10 : agX cy lay σ3 10 = some (.inr (6, Lbs lay (σ3 10))) := (agX_at (by decide)).trans rfl
  have hX11 : agX cy lay σ3 11 = some (.inl (cy 0, 16, .inl (σ3 11))) := (agX_at (by decide)).trans rfl
  have hn90 : agX cy lay σ3 90 = none := agX_no (by decide)
  have hn91 : agX cy lay σ3 91 = none := agX_no (by decide)
  have hn92 : agX cy lay σ3 92 = none := agX_no (by decide)
  have hn93 : agX cy lay σ3 93 = none := agX_no (by decide)
  have hn94 : agX cy lay σ3 94 = none := agX_no (by decide)
  refine sb_new (k := 90) (kb := 91) (rest := []) hC hB hA G (by decide) (by decide) (by decide) hn90 hn91 (fun _ h => List.mem_cons_of_mem _ (List.mem_append_left _ (List.mem_append_left _ (List.mem_append_left _ (List.mem_append_left _ (List.mem_append_right _ h)))))) (wm 6 rfl) (wm 7 rfl) (wm 8 rfl) ⟨callB_of 0 hC.2.2.2.2 gX7_songs_J4_init_da8c8 rfl rfl rfl (hC.2.2.2.2 (.initialized RJ4) (wm 8 rfl)) (hC.2.2.2.2 (.methodLink RX7 368 yJ4_init_da8c8) (wm 71 rfl)) hdI_J4_init_da8c8 ⟨Nat.le_of_ble_eq_true rfl, Nat.le_of_ble_eq_true rfl⟩, rfl, hC.2.2.2.2 (.instanceMethod yJ4_init_da8c8) (wm 72 rfl)⟩ hl.1 (Nat.le_of_ble_eq_true rfl) dX7_songs_43 dX7_songs_46 dX7_songs_47 ⟨Nat.le_of_ble_eq_true rfl, Nat.le_of_ble_eq_true rfl⟩ (fun q H locs S => ?_)
  have eo : ∀ j, j < 87 → gU lay 90 q j = lay j := fun j hj => gU_ne (by omega)
  refine lv_astore_n (lv' := [(2, .ref (gU lay 90 q 90)), (0, .ref (lay 0)), (1, .int (nI w))]) hC.1 hC.2.1 dX7_songs_50 rfl hl (by decide) rfl (fun ls hl => ?_)
  generalize gU lay 90 q = L at eo S hl
  rw [← eo 0 (by decide)] at hl
  refine lv_iconst (v := 0) hC.1 hC.2.1 dX7_songs_51 (by decide) ?_
  refine lv_istore_n (lv' := [(3, .int 0), (2, .ref (L 90)), (0, .ref (L 0)), (1, .int (nI w))]) hC.1 hC.2.1 dX7_songs_52 rfl hl (by decide) rfl (fun ls hl => ?_)
  have d1 : ∀ v, dg v ≤ 3 := fun v => by unfold dg; split <;> (try split) <;> omega
  have key : ∀ (d i : Nat), i + d = N → ∀ (n1 : Nat) (H : Heap) (locs : List Loc) (ls : Array Slot), n1 ≤ 4 * i → sbW D cy L (agX cy lay σ3) (agA lay s.heap.size) s.heap H locs 90 91 n1 → lv_has ls 4 [(3, .int (nI i)), (2, .ref (L 90)), (0, .ref (L 0)), (1, .int (nI w))] → W p l e (rmS 9 40 2400) s m args below meth c H locs (3 + 2 * i) (30 + 140 * i) (vx_MQ below (va_Qr (S := MS) post (fun τ _ t => agO D cy lay τ t) (agA lay s.heap.size)) (agXC D cy lay pex s.heap.size) args s 40 2400 (agA lay s.heap.size)) (F0 m 53 ls []) := by
    intro d
    induction d with
    | zero =>
      intro i hi n1 H locs ls hn1 S hl
      obtain rfl : i = N := by omega
      refine lv_iload_n hC.1 hC.2.1 dX7_songs_53 rfl (lv_at hl 0 rfl) ?_
      refine lv_aload_n hC.1 hC.2.1 dX7_songs_54 rfl (lv_at hl 2 rfl) ?_
      refine sb_get hC hB S (by decide) (by decide) (by decide) hX0 k_X7 (fun _ h => List.mem_cons_of_mem _ (List.mem_append_left _ (List.mem_append_left _ (List.mem_append_left _ (List.mem_append_left _ (List.mem_append_left _ (List.mem_append_left _ (List.mem_append_left _ (List.mem_append_right _ h))))))))) 14 (by decide) (wm 1 rfl) rfl dX7_songs_55 ?_
      rw [← eo 10 (by decide)]
      refine sb_get hC hB S (by decide) (by decide) (by decide) hX10 k_X1 (fun _ h => List.mem_cons_of_mem _ (List.mem_append_left _ (List.mem_append_left _ (List.mem_append_left _ (List.mem_append_left _ (List.mem_append_left _ (List.mem_append_right _ h))))))) 1 (by decide) (wm 5 rfl) rfl dX7_songs_58 ?_
      rw [eN]
      refine lv_icmp_ge (tgt := 95) hC.1 hC.2.1 dX7_songs_61 (by decide) (fun _ => ?_) (fun c1 => absurd (le_self _) c1)
      refine lv_aload_n hC.1 hC.2.1 dX7_songs_95 rfl (lv_at hl 1 rfl) ?_
      refine sb_toS (ks := 93) (kr := 94) (rest := []) hC hB hA S (by decide) (by decide) (by decide) (by decide) (by decide) (by decide) (by decide) (by decide) (by decide) (by decide) hn93 hn94 (cwV 0 hC.2.2.2.2 gX7_songs_J4_toString_0e30d rfl rfl rfl hdV_J4_toString_0e30d ⟨Nat.le_of_ble_eq_true rfl, Nat.le_of_ble_eq_true rfl⟩) hl.1 (Nat.le_of_ble_eq_true rfl) dX7_songs_96 ⟨by show _ ≤ 40; omega, by show _ ≤ 2400; omega⟩ (fun qs L' X' H locs hk G => ?_)
      refine W.widen (k := 40) (n := 2400) (by omega) (by omega) ?_
      have G := g_ag (σ := σ3) (lay := lay) (cy := cy) (fun k hk87 => ((hk k (by omega) (by omega) (by omega) (by omega)).2).trans (agX_at hk87)) (fun k hk87 => ((hk k (by omega) (by omega) (by omega) (by omega)).1).trans (eo k hk87)) G
      exact vx_ret (ag_tret hC hr ⟨_, rfl⟩ hlocks G h dX7_songs_99)
    | succ d ih =>
      intro i hi n1 H locs ls hn1 S hl
      refine lv_iload_n hC.1 hC.2.1 dX7_songs_53 rfl (lv_at hl 0 rfl) ?_
      refine lv_aload_n hC.1 hC.2.1 dX7_songs_54 rfl (lv_at hl 2 rfl) ?_
      refine sb_get hC hB S (by decide) (by decide) (by decide) hX0 k_X7 (fun _ h => List.mem_cons_of_mem _ (List.mem_append_left _ (List.mem_append_left _ (List.mem_append_left _ (List.mem_append_left _ (List.mem_append_left _ (List.mem_append_left _ (List.mem_append_left _ (List.mem_append_right _ h))))))))) 14 (by decide) (wm 1 rfl) rfl dX7_songs_55 ?_
      rw [← eo 10 (by decide)]
      refine sb_get hC hB S (by decide) (by decide) (by decide) hX10 k_X1 (fun _ h => List.mem_cons_of_mem _ (List.mem_append_left _ (List.mem_append_left _ (List.mem_append_left _ (List.mem_append_left _ (List.mem_append_left _ (List.mem_append_right _ h))))))) 1 (by decide) (wm 5 rfl) rfl dX7_songs_58 ?_
      rw [eN]
      refine lv_icmp_ge (tgt := 95) hC.1 hC.2.1 dX7_songs_61 (by decide) (fun c1 => absurd c1 (nI_ge (by omega) (by omega))) (fun _ => ?_)
      obtain ⟨v, hv1, ev⟩ := hv i (by omega)
      have num : ∀ (n2 : Nat) (H : Heap) (locs : List Loc), n2 ≤ 4 * i + 1 → sbW D cy L (agX cy lay σ3) (agA lay s.heap.size) s.heap H locs 90 91 n2 → W p l e (rmS 9 40 2400) s m args below meth c H locs (3 + 2 * i + 1) (30 + 140 * i + 70) (vx_MQ below (va_Qr (S := MS) post (fun τ _ t => agO D cy lay τ t) (agA lay s.heap.size)) (agXC D cy lay pex s.heap.size) args s 40 2400 (agA lay s.heap.size)) (F0 m 75 ls []) := by
        intro n2 H locs hn2 S
        refine lv_aload_n hC.1 hC.2.1 dX7_songs_75 rfl (lv_at hl 1 rfl) ?_
        refine lv_aload_n hC.1 hC.2.1 dX7_songs_76 rfl (lv_at hl 2 rfl) ?_
        refine sb_get hC hB S (by decide) (by decide) (by decide) hX0 k_X7 (fun _ h => List.mem_cons_of_mem _ (List.mem_append_left _ (List.mem_append_left _ (List.mem_append_left _ (List.mem_append_left _ (List.mem_append_left _ (List.mem_append_left _ (List.mem_append_left _ (List.mem_append_right _ h))))))))) 14 (by decide) (wm 1 rfl) rfl dX7_songs_77 ?_
        rw [← eo 10 (by decide)]
        refine sb_get hC hB S (by decide) (by decide) (by decide) hX10 k_X1 (fun _ h => List.mem_cons_of_mem _ (List.mem_append_left _ (List.mem_append_left _ (List.mem_append_left _ (List.mem_append_left _ (List.mem_append_left _ (List.mem_append_right _ h))))))) 0 (by decide) (wm 9 rfl) rfl dX7_songs_80 ?_
        rw [← eo 11 (by decide)]
        refine lv_iload_n hC.1 hC.2.1 dX7_songs_83 rfl (lv_at hl 0 rfl) ?_
        refine sb_iald hC hB S (by decide) (by decide) (by decide) hX11 (vp_in_nI (by omega) (by decide)) dX7_songs_84 ?_
        rw [nI_clamp (by omega), ev]
        have hd := d1 v
        refine sb_apI (kn := 92) (rest := []) hC hB hA S (by decide) (by decide) (by decide) (by decide) (by decide) (by decide) hn92 (v := v) hv1 (by omega) (cwV 1 hC.2.2.2.2 gX7_songs_J4_append_bf812 rfl rfl rfl hdV_J4_append_bf812 ⟨Nat.le_of_ble_eq_true rfl, Nat.le_of_ble_eq_true rfl⟩) hl.1 (Nat.le_of_ble_eq_true rfl) dX7_songs_85 ⟨by show _ ≤ 40; omega, by show _ ≤ 2400; omega⟩ (fun H locs S => ?_)
        refine lv_pop hC.1 hC.2.1 dX7_songs_88 rfl ?_
        refine lv_iinc (k := 0) (v := nI (i + 1)) (lv' := [(3, .int (nI (i + 1))), (2, .ref (L 90)), (0, .ref (L 0)), (1, .int (nI w))]) hC.1 hC.2.1 dX7_songs_89 hl rfl (by rw [show Int32.ofInt 1 = 1 by decide]; exact nI_1 i) (by decide) rfl (fun ls hl => ?_)
        refine lv_goto (tgt := 53) hC.1 hC.2.1 dX7_songs_92 (by decide) ?_
        refine W.widen (k := 3 + 2 * (i + 1)) (n := 30 + 140 * (i + 1)) (by omega) (by omega) ?_
        exact ih (i + 1) (by omega) (n2 + dg v) H locs ls (by omega) S hl
      refine lv_iload_n hC.1 hC.2.1 dX7_songs_64 rfl (lv_at hl 0 rfl) ?_
      refine lv_if_le (tgt := 75) hC.1 hC.2.1 dX7_songs_65 (by decide) (fun _ => ?_) (fun _ => ?_)
      · refine W.widen (k := 3 + 2 * i + 1) (n := 30 + 140 * i + 70) (by omega) (by omega) ?_
        exact num n1 H locs (by omega) S
      refine lv_aload_n hC.1 hC.2.1 dX7_songs_68 rfl (lv_at hl 1 rfl) ?_
      refine lv_bipush (v := 32) hC.1 hC.2.1 dX7_songs_69 (by decide) ?_
      refine sb_apC (kn := 92) (rest := []) hC hB hA S (by decide) (by decide) (by decide) (by decide) (by decide) (by decide) hn92 (by decide) (by omega) (cwV 1 hC.2.2.2.2 gX7_songs_J4_append_cf468 rfl rfl rfl hdV_J4_append_cf468 ⟨Nat.le_of_ble_eq_true rfl, Nat.le_of_ble_eq_true rfl⟩) hl.1 (Nat.le_of_ble_eq_true rfl) dX7_songs_71 ⟨by show _ ≤ 40; omega, by show _ ≤ 2400; omega⟩ (fun H locs S => ?_)
      refine lv_pop hC.1 hC.2.1 dX7_songs_74 rfl ?_
      exact num (n1 + 1) H locs (by omega) S
  have hl : lv_has ls 4 [(3, .int (nI 0)), (2, .ref (L 90)), (0, .ref (L 0)), (1, .int (nI w))] := hl
  refine W.widen (k := 3 + 2 * 0) (n := 30 + 140 * 0) (by decide) (by decide) ?_
  exact key N 0 (by omega) 0 _ _ _ (by omega) S hl
end
section
/-! TEXTS: the reference's methods that tell -/
def mTx : List (Nat × String × Nat) := [(323, "", 0), (330, " ", 1), (339, "-", 1), (354, "asked", 5), (356, "fixed", 5), (358, "played", 6), (360, "lost", 4), (362, " on day ", 8), (364, " in ", 4), (366, ", ", 2), (368, ",", 1), (370, ": ", 2)]
def rIT (D : va_G) (cy : Nat → ClassId) (lay : Nat → Nat) (Γ : RG) (σ : MS) (ad : Nat → Nat) (sz : Nat) (U : State) : Prop := rI D cy lay Γ σ sz U ∧ tB D cy (rA cy lay Γ sz) U U.heap ∧ kS RX11 mTx ad (rA cy lay Γ sz) U U.heap
theorem rIT_blind {D : va_G} {cy : Nat → ClassId} {lay : Nat → Nat} {Γ : RG} {σ : MS} {ad : Nat → Nat} {sz : Nat} {As : List Value} : FrameBlind (va_Pc As (rIT D cy lay Γ σ ad sz)) := by
  intro a U g mk h
  obtain ⟨h0, h1, h2, h3⟩ := h
  have := rI_blind (D := D) (cy := cy) (lay := lay) (Γ := Γ) (σ := σ) (sz := sz) (As := As) a U g mk ⟨h0, h1⟩
  exact ⟨this.1, this.2, tB.moved (u := U) (U := U.calling g mk a) (Vm.Alike.refl U.vm) (nest_same (u := U) (U := U.calling g mk a) rfl _ rfl h2.2.1) h2, kS.same (u := U) (U := U.calling g mk a) rfl h3⟩
section RGT
variable {p : Program} {l : Launch} {e : Env} {R : Room} {s : State} {m : MethodId} {args : Array Value} {below : List Frame} {meth : Method} {c : Code} {H : Heap} {locs : List Loc} {cells slots : Nat} {Q : State → Prop}
variable {cc bytes : ByteArray} {pc nL maxL mc ms n index k kb : Nat} {ls : Array Slot} {ST rest As : List Value} {D : va_G} {cy : Nat → ClassId} {lay : Nat → Nat} {Γ : RG} {σ : MS} {X : Nat → Option va_E} {A : Nat → Prop} {Ts ws : List Cond} {own host : String} {y : MethodName} {ret : Option FieldType} {rm : Room} {ad : Nat → Nat}
theorem rg_ofT {ws' : List Cond} {maxL : Nat} {sz : Nat} {Qc : Nat → Array Value → State → Outcome → State → Prop} (hy : plainName y.cls = true) (hw : ws = Cond.code y cc maxL ret :: ws') (hnl : (lg_sl As).length ≤ maxL) (hoo : y.cls = own)
    (body : ∀ (p : Program) (e : Env) (s : State) (m : MethodId) (args : Array Value) (below : List Frame) (meth : Method) (c : Code) (ls : Array Slot), CallFix p m c cc maxL s args ws own → meth.sig.returnType = ret → meth.locks = false → rT D cy lay Γ s → tB D cy (rA cy lay Γ s.heap.size) s s.heap → kS RX11 mTx ad (rA cy lay Γ s.heap.size) s s.heap → rG D cy lay Γ tn σ (rA cy lay Γ s.heap.size) s.heap s.heap [] → lv_has ls maxL (lv_args 0 As) →
      W p l e rm s m args below meth c s.heap [] 0 0 (MQ below (Qc s.heap.size) args s mc ms (rA cy lay Γ s.heap.size)) (F0 m 0 ls [])) : Met l y ws rm (va_Pc As (rIT D cy lay Γ σ ad sz)) (Qc sz) mc ms (rA cy lay Γ sz) := by
  refine Met.ofW (cc := cc) (maxL := maxL) (ret := ret) hy hw ?_
  intro p e s m args below meth c s₁ B hml hv
  obtain ⟨rfl, ⟨hsz, hT, hP, hD⟩, hB, hK⟩ := hv
  subst hsz
  have hl := lv_entry As (n := maxL) hnl
  rw [lg_entry_eq]
  have hown : s.vm.findClass y.cls = some m.cls := findClass_of_methodNamed B.named
  rw [hoo] at hown
  exact body p e s m As.toArray below meth c _ ⟨B.exec, B.bytes, hml, hown, atoms_spec (ws := ws) B.pre⟩ B.returns B.notSynchronized hT hB hK ⟨hP, rI_of hD, va_S.rf⟩ hl
theorem rg_tret {post : MS → Prop} {q : Nat} {rt : FieldType} {locs : List Loc} (hC : CallFix p m c cc nL s args Ts own) (hr : meth.sig.returnType = some rt) (hrt : ∃ C, rt = .object C) (hlocks : meth.locks = false) (G : rG D cy lay Γ tn σ (rA cy lay Γ s.heap.size) s.heap H locs) (h : post σ) (hdg : decode cc pc = .ok (.areturn, 1)) :
    W p l e R s m args below meth c H locs cells slots (MQ below (va_Qr (S := MS) post (fun τ _ t => rO D cy lay Γ τ t) (rA cy lay Γ s.heap.size)) args s cells slots (rA cy lay Γ s.heap.size)) (F0 m pc ls [.ref q]) :=
  W.aret (v := .ref q) hC.1 hC.2.1 hr (Or.inl hrt) (Or.inr ⟨_, rfl⟩) (fun t ht hW => ⟨⟨σ, q, rfl, h, by rw [ht]; exact G.1, gI_weak G.2.1 (fun _ _ => trivial)⟩, G.2.2.F ht⟩) G.2.2.2.2 hdg hlocks
theorem sb_getN {C : String} {T : u_T} {N ci j : Nat} {ty : Nat → FieldType} (hC : CallFix p m c cc nL s args Ts own) (hT : tB D cy A s s.heap) (hN : rN s) (S : sbW D cy lay X A s.heap H locs k kb n) (hj : j < 128) (hjk : j ≠ k) (hjb : j ≠ kb) {fs : List Value} (he : X j = some (.inr (ci, fs))) (hcl : agCl C T N ci ty) (hin : ∀ w ∈ u_ws C T N, w ∈ Ts) (i : Nat) (hi : i < N) (q : Nat) (hl : nestR[q]? = some (Cond.fieldLinkNest own index (T i).1 (T i).2.1 (T i).2.2.1 host)) {v : Value} (hv : fs[i]? = some v) (hdg : decode cc pc = .ok (.getfield index, 3))
    (kk : W p l e R s m args below meth c H locs cells slots Q (F0 m (pc + 3) ls (v :: rest))) : W p l e R s m args below meth c H locs cells slots Q (F0 m pc ls (.ref (lay j) :: rest)) := by
  obtain ⟨L, m1, a, ml, hf1, hm, hnm, hL, G⟩ := S
  rw [← gU_out hL hjb]
  exact g_getN hC hT.1 G hj ((sbX_o hjk hjb).trans he) hcl hin i hi (nest_use _ (nestR_ok _ (wm q hl)) (hN.1 _ (wm q hl))) hv hdg kk
/-- a list's size, beside a StringBuilder -/
theorem sb_size {j : Nat} {mo v : Int32} {o : Value} (hC : CallFix p m c cc nL s args Ts own) (hT : tB D cy A s s.heap) (hN : rN s) (hA : ∀ q, s.heap.size ≤ q → A q) (S : sbW D cy lay X A s.heap H locs k kb n) (hj : j < 128) (hjk : j ≠ k) (hjb : j ≠ kb) (he : X j = some (.inr (4, [.int mo, o, .int v])))
    (cw : CallW R s args own RJx4a65c index yJx4a65c_size_8abf5 cJx4a65c_size_8abf5 1 (some .int) wsJx4a65c_size_8abf5 rm_gsz 0 0 0) (hls : ls.size = nL) (hW : (rest.map fun v => v.category).sum ≤ 8) (hdg : decode cc pc = .ok (.invokevirtual index, 3)) (hf : cells + 0 ≤ R.cells ∧ slots + 0 ≤ R.slots)
    (kk : ∀ (H1 : Heap) (locs1 : List Loc), sbW D cy lay X A s.heap H1 locs1 k kb n → W p l e R s m args below meth c H1 locs1 (cells + 0) (slots + 0) Q (F0 m (pc + 3) ls (.int v :: rest))) : W p l e R s m args below meth c H locs cells slots Q (F0 m pc ls (.ref (lay j) :: rest)) := by
  obtain ⟨L, m1, a, ml, hf1, hm, hnm, hL, G⟩ := S
  rw [← gU_out hL hjb]
  refine g_i G hA (h_runV (As := []) (rest := rest) (b := L j) hC ⟨hT.1, hN⟩ G (c_gsz l D cy L (sbX cy X k kb (L kb) m1 a (nI n) ml) hj ((sbX_o hjk hjb).trans he) _) cw (h_recv ⟨hT.1, hN⟩ G hj ((sbX_o hjk hjb).trans he) k_AL) rfl hls rfl hW hdg hf) (fun r Y H1 locs1 hY G1 => ?_)
  obtain ⟨rfl, rfl⟩ := hY
  exact kk H1 locs1 ⟨L, m1, a, ml, hf1, hm, hnm, hL, G1⟩
end RGT
/-- back to the reference's world: cells from 64 on fall away -/
theorem g_rg {D : va_G} {cy : Nat → ClassId} {lay L : Nat → Nat} {Γ : RG} {σ : MS} {X : Nat → Option va_E} {A : Nat → Prop} {H0 H : Heap} {locs : List Loc} (hX : ∀ k, k < 64 → X k = rX cy lay Γ tn σ k) (hL : ∀ k, k < 64 → L k = lay k) (G : gG D L X A H0 H locs) : rG D cy lay Γ tn σ A H0 H locs := by
  have key : ∀ k e, rX cy lay Γ tn σ k = some e → k < 64 ∧ X k = some e := fun k e h => by
    by_cases c : k < 64
    · exact ⟨c, (hX k c).trans h⟩
    · rw [r_tm (by omega)] at h
      cases h
  refine ⟨fun k e hk h => ?_, ⟨fun i j e f hi hj h1 h2 he => ?_, fun k e hk h => ?_⟩, G.2.2⟩
  · obtain ⟨c, h⟩ := key k e h
    have := G.1 k e hk h
    rw [hL k c] at this
    exact this
  · obtain ⟨c1, h1⟩ := key i e h1
    obtain ⟨c2, h2⟩ := key j f h2
    exact G.2.1.1 i j e f hi hj h1 h2 (by rw [hL i c1, hL j c2]; exact he)
  · obtain ⟨c, h⟩ := key k e h
    have := G.2.1.2 k e hk h
    rw [hL k c] at this
    exact this
end
section
/-! TEXTS: walks of StringBuilder, String (69b.rtell) -/
set_option maxHeartbeats 4000000 in
set_option maxRecDepth 100000 in
/-- isIn -/
theorem c_isInS (l : Launch) (D : va_G) (cy : Nat → ClassId) (lay : Nat → Nat) (X : Nat → Option va_E) {a b : Int32} (sz : Nat) : Met l yX11_isIn wsX11_isIn (rmS 0 0 0) (va_Pc [.int a, .int b] (sI D cy none lay X sz)) (va_Qi (fun (r : Int32) (Y : GY) => Y = (lay, X)) (gO D (gA lay X sz)) (gA lay X sz)) 0 0 (gA lay X sz) := by
  refine s_ofW (cc := cX11_isIn) (maxL := 2) (ret := (some .boolean)) (own := RX11) (Qc := fun sz => va_Qi (fun (r : Int32) (Y : GY) => Y = (lay, X)) (gO D (gA lay X sz)) (gA lay X sz)) (by decide) rfl (Nat.le_of_ble_eq_true rfl) rfl ?_
  intro p e0 s m9 args below meth c ls hC hr hlocks hname hT hX G hl
  have hl : lv_has ls 2 [(0, .int a), (1, .int b)] := hl
  have hA : ∀ q, s.heap.size ≤ q → gA lay X s.heap.size q := fun _ h => Or.inr h
  refine lv_iload_n hC.1 hC.2.1 dX11_isIn_0 rfl (lv_at hl 0 rfl) ?_
  refine lv_iload_n hC.1 hC.2.1 dX11_isIn_1 rfl (lv_at hl 1 rfl) ?_
  refine lv_ishr hC.1 hC.2.1 dX11_isIn_2 ?_
  refine lv_iconst (v := 1) hC.1 hC.2.1 dX11_isIn_3 (by decide) ?_
  refine lv_iand hC.1 hC.2.1 dX11_isIn_4 ?_
  refine lv_iconst (v := 1) hC.1 hC.2.1 dX11_isIn_5 (by decide) ?_
  refine lv_icmp_ne (tgt := 13) hC.1 hC.2.1 dX11_isIn_6 (by decide) (fun _ => ?_) (fun _ => ?_)
  · refine lv_iconst (v := 0) hC.1 hC.2.1 dX11_isIn_13 (by decide) ?_
    exact W.zret (v := 0) hC.1 hC.2.1 hr rfl (fun t ht hW => ⟨⟨0, (lay, X), rfl, rfl, by rw [ht]; exact G.1, G.2.1⟩, G.2.2.F ht⟩) G.2.2.2.2 dX11_isIn_14 hlocks
  · refine lv_iconst (v := 1) hC.1 hC.2.1 dX11_isIn_9 (by decide) ?_
    refine lv_goto (tgt := 14) hC.1 hC.2.1 dX11_isIn_10 (by decide) ?_
    exact W.zret (v := 1) hC.1 hC.2.1 hr rfl (fun t ht hW => ⟨⟨1, (lay, X), rfl, rfl, by rw [ht]; exact G.1, G.2.1⟩, G.2.2.F ht⟩) G.2.2.2.2 dX11_isIn_14 hlocks
def w_X11_tell (Γ : RG) (post : MS → Prop) (σ : MS) (a1 : Int32) : Prop := w_X11_isWedding Γ (fun r σ1 => (r = 0 → post (up2 σ1 0 0 1)) ∧ (¬ r = 0 → w_lw_Jx4a65c_get_915e3 Γ (fun j σ2 => (j < 14 ∧ j < Γ.2.2.1) ∧ ∃ w d t : Nat, w < 1000 ∧ a1 = nI w ∧ d < 1000 ∧ σ2 (33 + j) 1 = nI d ∧ t < 1000 ∧ σ2 (33 + j) 2 = nI t ∧ σ2 1 2 = nI Γ.1 ∧ post σ2) (up2 σ1 0 0 0) a1)) σ a1
set_option maxHeartbeats 8000000 in
set_option maxRecDepth 100000 in
theorem c_X11_tell (l : Launch) (D : va_G) (cy : Nat → ClassId) (lay : Nat → Nat) (Γ : RG) (ad : Nat → Nat) {σ : MS} {post : MS → Prop} {a1 : Int32} (h : w_X11_tell Γ post σ a1) (sz : Nat) : Met l yX11_tell wsX11_tell (rmS 9 40 2400) (va_Pc [.ref (lay 0), .int a1] (rIT D cy lay Γ σ ad sz)) (va_Qr (S := MS) post (fun τ _ t => rO D cy lay Γ τ t) (rA cy lay Γ sz)) 40 2400 (rA cy lay Γ sz) := by
  refine rg_ofT (cc := cX11_tell) (maxL := 7) (ret := (some (.object "java/lang/String"))) (own := RX11) (Qc := fun sz => (va_Qr (S := MS) post (fun τ _ t => rO D cy lay Γ τ t) (rA cy lay Γ sz))) (by decide) rfl (Nat.le_of_ble_eq_true rfl) rfl ?_
  intro p e s m args below meth c ls hC hr hlocks hT hB hK G hl
  unfold w_X11_tell at h
  have hA : ∀ q, s.heap.size ≤ q → rA cy lay Γ s.heap.size q := fun _ h => Or.inr h
  have hl : lv_has ls 7 [(0, .ref (lay 0)), (1, .int a1)] := hl
  refine lv_aload_n hC.1 hC.2.1 dX11_tell_0 rfl (lv_at hl 0 rfl) ?_
  refine lv_aload_n hC.1 hC.2.1 dX11_tell_1 rfl (lv_at hl 0 rfl) ?_
  refine lv_iload_n hC.1 hC.2.1 dX11_tell_2 rfl (lv_at hl 1 rfl) ?_
  refine rg_i G (rg_runV (As := [.int a1]) (rest := [.ref (lay 0)]) hC hT G (c_X11_isWedding l D cy lay Γ h _) (cwV 1 hC.2.2.2.2 gX11_tell_X11_isWedding rfl rfl rfl hdV_X11_isWedding ⟨Nat.le_of_ble_eq_true rfl, Nat.le_of_ble_eq_true rfl⟩) (rg_recv hT G (by decide) r_mo k_X11) rfl hl.1 rfl (Nat.le_of_ble_eq_true rfl) dX11_tell_3 ⟨Nat.le_of_ble_eq_true rfl, Nat.le_of_ble_eq_true rfl⟩) (fun r σ1 H locs h1 G => ?_)
  refine lv_if_eq (tgt := 13) hC.1 hC.2.1 dX11_tell_6 (by decide) (fun c1 => ?_) (fun c1 => ?_)
  · replace h1 := h1.1 c1
    refine lv_iconst (v := 1) hC.1 hC.2.1 dX11_tell_13 (by decide) ?_
    refine rg_put hC hT G (by decide) r_mo k_X11 (fun _ h => List.mem_cons_of_mem _ (List.mem_append_left _ (List.mem_append_left _ (List.mem_append_left _ (List.mem_append_left _ (List.mem_append_right _ h)))))) 0 (by decide) (wm 1 rfl) rfl rfl (by simp) r_mo (by rw [up2_eq]; rfl) dX11_tell_14 (fun H locs G => ?_)
    refine lv_aload_n hC.1 hC.2.1 dX11_tell_17 rfl (lv_at hl 0 rfl) ?_
    refine rg_get hC hT G (by decide) r_mo k_X11 (fun _ h => List.mem_cons_of_mem _ (List.mem_append_left _ (List.mem_append_left _ (List.mem_append_left _ (List.mem_append_left _ (List.mem_append_right _ h)))))) 0 (by decide) (wm 1 rfl) rfl dX11_tell_18 ?_
    refine lv_if_le (tgt := 28) hC.1 hC.2.1 dX11_tell_21 (by decide) (fun c2 => absurd (show (up2 σ1 0 0 1) 0 0 ≤ 0 from c2) (by rw [up2_same]; decide)) (fun _ => ?_)
    refine va_ldcwS hC (hK 0 (323, "", 0) rfl).1 dX11_tell_24 ?_
    refine W.widen (k := 40) (n := 2400) (by decide) (by decide) ?_
    exact rg_tret hC hr ⟨_, rfl⟩ hlocks G h1 dX11_tell_27
  replace h1 := h1.2 c1
  refine lv_iconst (v := 0) hC.1 hC.2.1 dX11_tell_9 (by decide) ?_
  refine lv_goto (tgt := 14) hC.1 hC.2.1 dX11_tell_10 (by decide) ?_
  refine rg_put hC hT G (by decide) r_mo k_X11 (fun _ h => List.mem_cons_of_mem _ (List.mem_append_left _ (List.mem_append_left _ (List.mem_append_left _ (List.mem_append_left _ (List.mem_append_right _ h)))))) 0 (by decide) (wm 1 rfl) rfl rfl (by simp) r_mo (by rw [up2_eq]; rfl) dX11_tell_14 (fun H locs G => ?_)
  refine lv_aload_n hC.1 hC.2.1 dX11_tell_17 rfl (lv_at hl 0 rfl) ?_
  refine rg_get hC hT G (by decide) r_mo k_X11 (fun _ h => List.mem_cons_of_mem _ (List.mem_append_left _ (List.mem_append_left _ (List.mem_append_left _ (List.mem_append_left _ (List.mem_append_right _ h)))))) 0 (by decide) (wm 1 rfl) rfl dX11_tell_18 ?_
  refine lv_if_le (tgt := 28) hC.1 hC.2.1 dX11_tell_21 (by decide) (fun _ => ?_) (fun c2 => absurd (show (up2 σ1 0 0 0) 0 0 ≤ 0 by rw [up2_same]; decide) c2)
  refine lv_aload_n hC.1 hC.2.1 dX11_tell_28 rfl (lv_at hl 0 rfl) ?_
  refine rg_get hC hT G (by decide) r_mo k_X11 (fun _ h => List.mem_cons_of_mem _ (List.mem_append_left _ (List.mem_append_left _ (List.mem_append_left _ (List.mem_append_left _ (List.mem_append_right _ h)))))) 5 (by decide) (wm 2 rfl) rfl dX11_tell_29 ?_
  refine lv_iload_n hC.1 hC.2.1 dX11_tell_32 rfl (lv_at hl 1 rfl) ?_
  refine rg_r (f := fun i => lay (33 + i)) G (rg_runV (As := [.int a1]) (rest := []) hC hT G (c_lw_Jx4a65c_get_915e3 l D cy lay Γ h1 _) (cwV 1 hC.2.2.2.2 gX11_tell_Jx4a65c_get_915e3 rfl rfl rfl hdV_Jx4a65c_get_915e3 ⟨Nat.le_of_ble_eq_true rfl, Nat.le_of_ble_eq_true rfl⟩) (rg_recv hT G (by decide) r_lw k_AL) rfl hl.1 rfl (Nat.le_of_ble_eq_true rfl) dX11_tell_33 ⟨Nat.le_of_ble_eq_true rfl, Nat.le_of_ble_eq_true rfl⟩) (fun j σ2 H locs h2 G => ?_)
  obtain ⟨hj, w, d, t, hw, ea, hd, ed, ht, et, eP, h2⟩ := h2
  subst ea
  refine rg_cast hC hT k_X10 (wm 3 rfl) (rg_recv hT G (rk_wd hj) (r_wd hj) k_X10) dX11_tell_36 ?_
  refine lv_astore_n (lv' := [(2, .ref (lay (33 + j))), (0, .ref (lay 0)), (1, .int (nI w))]) hC.1 hC.2.1 dX11_tell_39 rfl hl (by decide) rfl (fun ls hl => ?_)
  have go : ∀ (ix w8 : Nat) (H : Heap) (locs : List Loc) (ls : Array Slot), w8 ≤ 6 → tX (ad ix) w8 (rA cy lay Γ s.heap.size) s s.heap → rG D cy lay Γ tn σ2 (rA cy lay Γ s.heap.size) s.heap H locs → lv_has ls 7 [(2, .ref (lay (33 + j))), (0, .ref (lay 0)), (1, .int (nI w))] → W p l e (rmS 9 40 2400) s m args below meth c H locs 0 0 (MQ below (va_Qr (S := MS) post (fun τ _ t => rO D cy lay Γ τ t) (rA cy lay Γ s.heap.size)) args s 40 2400 (rA cy lay Γ s.heap.size)) (F0 m 84 ls [.ref (ad ix)]) := by
    intro ix w8 H locs ls hw8 hX8 G hl
    refine lv_astore_n (lv' := [(3, .ref (ad ix)), (2, .ref (lay (33 + j))), (0, .ref (lay 0)), (1, .int (nI w))]) hC.1 hC.2.1 dX11_tell_84 rfl hl (by decide) rfl (fun ls hl => ?_)
    have G : gG D lay (rX cy lay Γ tn σ2) (rA cy lay Γ s.heap.size) s.heap H locs := G
    have hXw : rX cy lay Γ tn σ2 (33 + j) = some (.inr (15, L12 (σ2 (33 + j)))) := r_wd hj
    have hX0 : rX cy lay Γ tn σ2 0 = some (.inr (16, Lmo lay (σ2 0))) := r_mo
    have hX1 : rX cy lay Γ tn σ2 1 = some (.inr (4, [.int (σ2 1 0), .ref (if Γ.1 = 0 then Γ.2.2.2.1 else lay 4), .int (σ2 1 2)])) := r_lp
    have hn100 : rX cy lay Γ tn σ2 100 = none := r_tm (by decide)
    have hn101 : rX cy lay Γ tn σ2 101 = none := r_tm (by decide)
    have hn102 : rX cy lay Γ tn σ2 102 = none := r_tm (by decide)
    have hn103 : rX cy lay Γ tn σ2 103 = none := r_tm (by decide)
    have hn104 : rX cy lay Γ tn σ2 104 = none := r_tm (by decide)
    refine sb_new (k := 100) (kb := 101) (rest := []) hC hB hA G (by decide) (by decide) (by decide) hn100 hn101 (fun _ h => List.mem_cons_of_mem _ (List.mem_append_left _ (List.mem_append_left _ (List.mem_append_right _ h)))) (wm 4 rfl) (wm 5 rfl) (wm 6 rfl) ⟨callB_of 0 hC.2.2.2.2 gX11_tell_J4_init_da8c8 rfl rfl rfl (hC.2.2.2.2 (.initialized RJ4) (wm 6 rfl)) (hC.2.2.2.2 (.methodLink RX11 327 yJ4_init_da8c8) (wm 39 rfl)) hdI_J4_init_da8c8 ⟨Nat.le_of_ble_eq_true rfl, Nat.le_of_ble_eq_true rfl⟩, rfl, hC.2.2.2.2 (.instanceMethod yJ4_init_da8c8) (wm 40 rfl)⟩ hl.1 (Nat.le_of_ble_eq_true rfl) dX11_tell_85 dX11_tell_88 dX11_tell_89 ⟨Nat.le_of_ble_eq_true rfl, Nat.le_of_ble_eq_true rfl⟩ (fun q H locs S => ?_)
    have eo : ∀ j, j < 64 → gU lay 100 q j = lay j := fun j hj => gU_ne (by omega)
    refine lv_astore (lv' := [(4, .ref (gU lay 100 q 100)), (3, .ref (ad ix)), (2, .ref (lay (33 + j))), (0, .ref (lay 0)), (1, .int (nI w))]) hC.1 hC.2.1 dX11_tell_92 hl (by decide) rfl (fun ls hl => ?_)
    have hr0 : lay 0 = gU lay 100 q 0 := (eo 0 (by decide)).symm
    generalize gU lay 100 q = L at eo S hl hr0
    rw [hr0, ← eo (33 + j) (by omega)] at hl
    have d1 : ∀ v, dg v ≤ 3 := fun v => by unfold dg; split <;> (try split) <;> omega
    have q1 := d1 w
    have q2 := d1 d
    have q3 := d1 t
    refine lv_aload hC.1 hC.2.1 dX11_tell_94 (lv_at hl 0 rfl) ?_
    refine lv_iload_n hC.1 hC.2.1 dX11_tell_96 rfl (lv_at hl 4 rfl) ?_
    refine sb_apI (kn := 102) (rest := []) hC hB hA S (by decide) (by decide) (by decide) (by decide) (by decide) (by decide) hn102 (v := w) hw (by omega) (cwV 1 hC.2.2.2.2 gX11_tell_J4_append_bf812 rfl rfl rfl hdV_J4_append_bf812 ⟨Nat.le_of_ble_eq_true rfl, Nat.le_of_ble_eq_true rfl⟩) hl.1 (Nat.le_of_ble_eq_true rfl) dX11_tell_97 ⟨Nat.le_of_ble_eq_true rfl, Nat.le_of_ble_eq_true rfl⟩ (fun H locs S => ?_)
    refine va_ldcwS hC (hK 7 (362, " on day ", 8) rfl).1 dX11_tell_100 ?_
    refine sb_apS (kn := 102) (rest := []) hC hB hA S (by decide) (by decide) (by decide) (by decide) (by decide) (by decide) hn102 (show tX (ad 7) 8 (rA cy lay Γ s.heap.size) s s.heap from (hK 7 (362, " on day ", 8) rfl).2) (by decide) (by omega) (cwV 1 hC.2.2.2.2 gX11_tell_J4_append_15ec4 rfl rfl rfl hdV_J4_append_15ec4 ⟨Nat.le_of_ble_eq_true rfl, Nat.le_of_ble_eq_true rfl⟩) hl.1 (Nat.le_of_ble_eq_true rfl) dX11_tell_103 ⟨Nat.le_of_ble_eq_true rfl, Nat.le_of_ble_eq_true rfl⟩ (fun H locs S => ?_)
    refine lv_aload_n hC.1 hC.2.1 dX11_tell_106 rfl (lv_at hl 2 rfl) ?_
    refine sb_getN hC hB hT.2.1 S (by omega) (by omega) (by omega) hXw k_X10 (fun _ h => List.mem_cons_of_mem _ (List.mem_append_left _ (List.mem_append_left _ (List.mem_append_left _ (List.mem_append_right _ h))))) 1 (by decide) 11 rfl rfl dX11_tell_107 ?_
    rw [ed]
    refine sb_apI (kn := 102) (rest := []) hC hB hA S (by decide) (by decide) (by decide) (by decide) (by decide) (by decide) hn102 (v := d) hd (by omega) (cwV 1 hC.2.2.2.2 gX11_tell_J4_append_bf812 rfl rfl rfl hdV_J4_append_bf812 ⟨Nat.le_of_ble_eq_true rfl, Nat.le_of_ble_eq_true rfl⟩) hl.1 (Nat.le_of_ble_eq_true rfl) dX11_tell_110 ⟨Nat.le_of_ble_eq_true rfl, Nat.le_of_ble_eq_true rfl⟩ (fun H locs S => ?_)
    refine va_ldcwS hC (hK 8 (364, " in ", 4) rfl).1 dX11_tell_113 ?_
    refine sb_apS (kn := 102) (rest := []) hC hB hA S (by decide) (by decide) (by decide) (by decide) (by decide) (by decide) hn102 (show tX (ad 8) 4 (rA cy lay Γ s.heap.size) s s.heap from (hK 8 (364, " in ", 4) rfl).2) (by decide) (by omega) (cwV 1 hC.2.2.2.2 gX11_tell_J4_append_15ec4 rfl rfl rfl hdV_J4_append_15ec4 ⟨Nat.le_of_ble_eq_true rfl, Nat.le_of_ble_eq_true rfl⟩) hl.1 (Nat.le_of_ble_eq_true rfl) dX11_tell_116 ⟨Nat.le_of_ble_eq_true rfl, Nat.le_of_ble_eq_true rfl⟩ (fun H locs S => ?_)
    refine lv_aload_n hC.1 hC.2.1 dX11_tell_119 rfl (lv_at hl 2 rfl) ?_
    refine sb_getN hC hB hT.2.1 S (by omega) (by omega) (by omega) hXw k_X10 (fun _ h => List.mem_cons_of_mem _ (List.mem_append_left _ (List.mem_append_left _ (List.mem_append_left _ (List.mem_append_right _ h))))) 2 (by decide) 12 rfl rfl dX11_tell_120 ?_
    rw [et]
    refine sb_apI (kn := 102) (rest := []) hC hB hA S (by decide) (by decide) (by decide) (by decide) (by decide) (by decide) hn102 (v := t) ht (by omega) (cwV 1 hC.2.2.2.2 gX11_tell_J4_append_bf812 rfl rfl rfl hdV_J4_append_bf812 ⟨Nat.le_of_ble_eq_true rfl, Nat.le_of_ble_eq_true rfl⟩) hl.1 (Nat.le_of_ble_eq_true rfl) dX11_tell_123 ⟨Nat.le_of_ble_eq_true rfl, Nat.le_of_ble_eq_true rfl⟩ (fun H locs S => ?_)
    refine va_ldcwS hC (hK 9 (366, ", ", 2) rfl).1 dX11_tell_126 ?_
    refine sb_apS (kn := 102) (rest := []) hC hB hA S (by decide) (by decide) (by decide) (by decide) (by decide) (by decide) hn102 (show tX (ad 9) 2 (rA cy lay Γ s.heap.size) s s.heap from (hK 9 (366, ", ", 2) rfl).2) (by decide) (by omega) (cwV 1 hC.2.2.2.2 gX11_tell_J4_append_15ec4 rfl rfl rfl hdV_J4_append_15ec4 ⟨Nat.le_of_ble_eq_true rfl, Nat.le_of_ble_eq_true rfl⟩) hl.1 (Nat.le_of_ble_eq_true rfl) dX11_tell_129 ⟨Nat.le_of_ble_eq_true rfl, Nat.le_of_ble_eq_true rfl⟩ (fun H locs S => ?_)
    refine lv_aload_n hC.1 hC.2.1 dX11_tell_132 rfl (lv_at hl 1 rfl) ?_
    refine sb_apS (kn := 102) (rest := []) hC hB hA S (by decide) (by decide) (by decide) (by decide) (by decide) (by decide) hn102 hX8 (by omega) (by omega) (cwV 1 hC.2.2.2.2 gX11_tell_J4_append_15ec4 rfl rfl rfl hdV_J4_append_15ec4 ⟨Nat.le_of_ble_eq_true rfl, Nat.le_of_ble_eq_true rfl⟩) hl.1 (Nat.le_of_ble_eq_true rfl) dX11_tell_133 ⟨Nat.le_of_ble_eq_true rfl, Nat.le_of_ble_eq_true rfl⟩ (fun H locs S => ?_)
    refine lv_pop hC.1 hC.2.1 dX11_tell_136 rfl ?_
    refine W.widen (k := 18) (n := 900) (by decide) (by decide) ?_
    have hn36 : 0 + dg w + 8 + dg d + 4 + dg t + 2 + w8 ≤ 36 := by omega
    generalize 0 + dg w + 8 + dg d + 4 + dg t + 2 + w8 = n at hn36 S
    have finA : ∀ (n' : Nat) (H : Heap) (locs : List Loc) (ls : Array Slot), n' ≤ 70 → sbW D cy L (rX cy lay Γ tn σ2) (rA cy lay Γ s.heap.size) s.heap H locs 100 101 n' → lv_has ls 7 [(4, .ref (L 100)), (3, .ref (ad ix)), (2, .ref (L (33 + j))), (0, .ref (L 0)), (1, .int (nI w))] → W p l e (rmS 9 40 2400) s m args below meth c H locs 38 2300 (MQ below (va_Qr (S := MS) post (fun τ _ t => rO D cy lay Γ τ t) (rA cy lay Γ s.heap.size)) args s 40 2400 (rA cy lay Γ s.heap.size)) (F0 m 153 ls []) := by
      intro n' H locs ls hn' S hl
      refine lv_aload hC.1 hC.2.1 dX11_tell_153 (lv_at hl 0 rfl) ?_
      refine sb_toS (ks := 103) (kr := 104) (rest := []) hC hB hA S (by decide) (by decide) (by decide) (by decide) (by decide) (by decide) (by decide) (by decide) (by decide) (by decide) hn103 hn104 (cwV 0 hC.2.2.2.2 gX11_tell_J4_toString_0e30d rfl rfl rfl hdV_J4_toString_0e30d ⟨Nat.le_of_ble_eq_true rfl, Nat.le_of_ble_eq_true rfl⟩) hl.1 (Nat.le_of_ble_eq_true rfl) dX11_tell_155 ⟨Nat.le_of_ble_eq_true rfl, Nat.le_of_ble_eq_true rfl⟩ (fun qs L' X' H locs hk G => ?_)
      refine W.widen (k := 40) (n := 2400) (by decide) (by decide) ?_
      have G := g_rg (fun k hk64 => ((hk k (by omega) (by omega) (by omega) (by omega)).2)) (fun k hk64 => ((hk k (by omega) (by omega) (by omega) (by omega)).1).trans (eo k hk64)) G
      exact rg_tret hC hr ⟨_, rfl⟩ hlocks G h2 dX11_tell_158
    have finB : ∀ (n' : Nat) (H : Heap) (locs : List Loc) (ls : Array Slot), n' ≤ 70 → sbW D cy L (rX cy lay Γ tn σ2) (rA cy lay Γ s.heap.size) s.heap H locs 100 101 n' → lv_has ls 7 [(4, .ref (L 100)), (3, .ref (ad ix)), (2, .ref (L (33 + j))), (0, .ref (L 0)), (1, .int (nI w))] → W p l e (rmS 9 40 2400) s m args below meth c H locs 38 2300 (MQ below (va_Qr (S := MS) post (fun τ _ t => rO D cy lay Γ τ t) (rA cy lay Γ s.heap.size)) args s 40 2400 (rA cy lay Γ s.heap.size)) (F0 m 226 ls []) := by
      intro n' H locs ls hn' S hl
      refine lv_aload hC.1 hC.2.1 dX11_tell_226 (lv_at hl 0 rfl) ?_
      refine sb_toS (ks := 103) (kr := 104) (rest := []) hC hB hA S (by decide) (by decide) (by decide) (by decide) (by decide) (by decide) (by decide) (by decide) (by decide) (by decide) hn103 hn104 (cwV 0 hC.2.2.2.2 gX11_tell_J4_toString_0e30d rfl rfl rfl hdV_J4_toString_0e30d ⟨Nat.le_of_ble_eq_true rfl, Nat.le_of_ble_eq_true rfl⟩) hl.1 (Nat.le_of_ble_eq_true rfl) dX11_tell_228 ⟨Nat.le_of_ble_eq_true rfl, Nat.le_of_ble_eq_true rfl⟩ (fun qs L' X' H locs hk G => ?_)
      refine W.widen (k := 40) (n := 2400) (by decide) (by decide) ?_
      have G := g_rg (fun k hk64 => ((hk k (by omega) (by omega) (by omega) (by omega)).2)) (fun k hk64 => ((hk k (by omega) (by omega) (by omega) (by omega)).1).trans (eo k hk64)) G
      exact rg_tret hC hr ⟨_, rfl⟩ hlocks G h2 dX11_tell_231
    have hP10 := hT.2.2.2.1
    have loop : ∀ (dd i : Nat), i + dd = Γ.1 → ∀ (n1 : Nat) (v5 : Int32) (H : Heap) (locs : List Loc) (ls : Array Slot), n1 ≤ n + 3 * i → sbW D cy L (rX cy lay Γ tn σ2) (rA cy lay Γ s.heap.size) s.heap H locs 100 101 n1 → lv_has ls 7 [(6, .int (nI i)), (5, .int v5), (4, .ref (L 100)), (3, .ref (ad ix)), (2, .ref (L (33 + j))), (0, .ref (L 0)), (1, .int (nI w))] → W p l e (rmS 9 40 2400) s m args below meth c H locs (18 + 2 * i) (900 + 140 * i) (MQ below (va_Qr (S := MS) post (fun τ _ t => rO D cy lay Γ τ t) (rA cy lay Γ s.heap.size)) args s 40 2400 (rA cy lay Γ s.heap.size)) (F0 m 165 ls []) := by
      intro dd
      induction dd with
      | zero =>
        intro i hi n1 v5 H locs ls hn1 S hl
        refine lv_iload hC.1 hC.2.1 dX11_tell_165 (lv_at hl 0 rfl) ?_
        refine lv_aload_n hC.1 hC.2.1 dX11_tell_167 rfl (lv_at hl 5 rfl) ?_
        refine sb_get hC hB S (by decide) (by decide) (by decide) hX0 k_X11 (fun _ h => List.mem_cons_of_mem _ (List.mem_append_left _ (List.mem_append_left _ (List.mem_append_left _ (List.mem_append_left _ (List.mem_append_right _ h)))))) 3 (by decide) (wm 7 rfl) rfl dX11_tell_168 ?_
        rw [← eo 1 (by decide)]
        refine sb_size (rest := [.int (nI i)]) hC hB hT.2.1 hA S (by decide) (by decide) (by decide) hX1 (cwV 0 hC.2.2.2.2 gX11_tell_Jx4a65c_size_8abf5 rfl rfl rfl hdV_Jx4a65c_size_8abf5 ⟨Nat.le_of_ble_eq_true rfl, Nat.le_of_ble_eq_true rfl⟩) hl.1 (Nat.le_of_ble_eq_true rfl) dX11_tell_171 ⟨by show _ ≤ 40; omega, by show _ ≤ 2400; omega⟩ (fun H locs S => ?_)
        rw [eP]
        refine lv_icmp_ge (tgt := 226) hC.1 hC.2.1 dX11_tell_174 (by decide) (fun _ => ?_) (fun c1 => absurd (nI_le (show Γ.1 ≤ i by omega) (by omega)) c1)
        refine W.widen (k := 38) (n := 2300) (by omega) (by omega) ?_
        exact finB n1 H locs ls (by omega) S (lv_sub hl [2, 3, 4, 5, 6] rfl)
      | succ dd ih =>
        intro i hi n1 v5 H locs ls hn1 S hl
        have next : ∀ (n2 : Nat) (v6 : Int32) (H : Heap) (locs : List Loc) (ls : Array Slot), n2 ≤ n + 3 * (i + 1) → sbW D cy L (rX cy lay Γ tn σ2) (rA cy lay Γ s.heap.size) s.heap H locs 100 101 n2 → lv_has ls 7 [(6, .int (nI i)), (5, .int v6), (4, .ref (L 100)), (3, .ref (ad ix)), (2, .ref (L (33 + j))), (0, .ref (L 0)), (1, .int (nI w))] → W p l e (rmS 9 40 2400) s m args below meth c H locs (18 + 2 * (i + 1)) (900 + 140 * (i + 1)) (MQ below (va_Qr (S := MS) post (fun τ _ t => rO D cy lay Γ τ t) (rA cy lay Γ s.heap.size)) args s 40 2400 (rA cy lay Γ s.heap.size)) (F0 m 220 ls []) := by
          intro n2 v6 H locs ls hn2 S hl
          refine lv_iinc (k := 0) (v := nI (i + 1)) (lv' := [(6, .int (nI (i + 1))), (5, .int v6), (4, .ref (L 100)), (3, .ref (ad ix)), (2, .ref (L (33 + j))), (0, .ref (L 0)), (1, .int (nI w))]) hC.1 hC.2.1 dX11_tell_220 hl rfl (by rw [show Int32.ofInt 1 = 1 by decide]; exact nI_1 i) (by decide) rfl (fun ls hl => ?_)
          refine lv_goto (tgt := 165) hC.1 hC.2.1 dX11_tell_223 (by decide) ?_
          exact ih (i + 1) (by omega) n2 v6 H locs ls hn2 S hl
        refine lv_iload hC.1 hC.2.1 dX11_tell_165 (lv_at hl 0 rfl) ?_
        refine lv_aload_n hC.1 hC.2.1 dX11_tell_167 rfl (lv_at hl 5 rfl) ?_
        refine sb_get hC hB S (by decide) (by decide) (by decide) hX0 k_X11 (fun _ h => List.mem_cons_of_mem _ (List.mem_append_left _ (List.mem_append_left _ (List.mem_append_left _ (List.mem_append_left _ (List.mem_append_right _ h)))))) 3 (by decide) (wm 7 rfl) rfl dX11_tell_168 ?_
        rw [← eo 1 (by decide)]
        refine sb_size (rest := [.int (nI i)]) hC hB hT.2.1 hA S (by decide) (by decide) (by decide) hX1 (cwV 0 hC.2.2.2.2 gX11_tell_Jx4a65c_size_8abf5 rfl rfl rfl hdV_Jx4a65c_size_8abf5 ⟨Nat.le_of_ble_eq_true rfl, Nat.le_of_ble_eq_true rfl⟩) hl.1 (Nat.le_of_ble_eq_true rfl) dX11_tell_171 ⟨by show _ ≤ 40; omega, by show _ ≤ 2400; omega⟩ (fun H locs S => ?_)
        rw [eP]
        refine lv_icmp_ge (tgt := 226) hC.1 hC.2.1 dX11_tell_174 (by decide) (fun c1 => absurd c1 (nI_ge (by omega) (by omega))) (fun _ => ?_)
        refine lv_aload_n hC.1 hC.2.1 dX11_tell_177 rfl (lv_at hl 4 rfl) ?_
        refine sb_getN hC hB hT.2.1 S (by omega) (by omega) (by omega) hXw k_X10 (fun _ h => List.mem_cons_of_mem _ (List.mem_append_left _ (List.mem_append_left _ (List.mem_append_left _ (List.mem_append_right _ h))))) 8 (by decide) 18 rfl rfl dX11_tell_178 ?_
        refine lv_iload hC.1 hC.2.1 dX11_tell_181 (lv_at hl 0 rfl) ?_
        obtain ⟨L1, m1, a2, ml1, g1, g2, g3, g4, G⟩ := S
        refine g_i G hA (s_runS (As := [.int (σ2 (33 + j) 8), .int (nI i)]) (rest := []) (tx := none) hC hB hA G (fun _ h => by cases h) (c_isInS l D cy L1 (sbX cy (rX cy lay Γ tn σ2) 100 101 (L1 101) m1 a2 (nI n1) ml1) _) (va_cwS 2 hC.2.2.2.2 gX11_tell_X11_isIn rfl rfl rfl hdS_X11_isIn ⟨Nat.le_of_ble_eq_true rfl, Nat.le_of_ble_eq_true rfl⟩) rfl hl.1 rfl (Nat.le_of_ble_eq_true rfl) dX11_tell_183 ⟨by show _ ≤ 40; omega, by show _ ≤ 2400; omega⟩) (fun r Y H locs hY G => ?_)
        subst hY
        have S : sbW D cy L (rX cy lay Γ tn σ2) (rA cy lay Γ s.heap.size) s.heap H locs 100 101 n1 := ⟨L1, m1, a2, ml1, g1, g2, g3, g4, G⟩
        refine lv_if_ne (tgt := 192) hC.1 hC.2.1 dX11_tell_186 (by decide) (fun _ => ?_) (fun _ => ?_)
        rotate_left
        · refine lv_goto (tgt := 220) hC.1 hC.2.1 dX11_tell_189 (by decide) ?_
          refine W.widen (k := 18 + 2 * (i + 1)) (n := 900 + 140 * (i + 1)) (by omega) (by omega) ?_
          exact next n1 v5 H locs ls (by omega) S hl
        have fin : ∀ (sa w9 : Nat), tX sa w9 (rA cy lay Γ s.heap.size) s s.heap → w9 ≤ 2 → W p l e (rmS 9 40 2400) s m args below meth c H locs (18 + 2 * i) (900 + 140 * i) (MQ below (va_Qr (S := MS) post (fun τ _ t => rO D cy lay Γ τ t) (rA cy lay Γ s.heap.size)) args s 40 2400 (rA cy lay Γ s.heap.size)) (F0 m 208 ls [.ref sa, .ref (L 100)]) := by
          intro sa w9 hw9 hw92
          refine sb_apS (kn := 102) (rest := []) hC hB hA S (by decide) (by decide) (by decide) (by decide) (by decide) (by decide) hn102 hw9 (by omega) (by omega) (cwV 1 hC.2.2.2.2 gX11_tell_J4_append_15ec4 rfl rfl rfl hdV_J4_append_15ec4 ⟨Nat.le_of_ble_eq_true rfl, Nat.le_of_ble_eq_true rfl⟩) hl.1 (Nat.le_of_ble_eq_true rfl) dX11_tell_208 ⟨by show _ ≤ 40; omega, by show _ ≤ 2400; omega⟩ (fun H locs S => ?_)
          refine lv_iload hC.1 hC.2.1 dX11_tell_211 (lv_at hl 0 rfl) ?_
          refine sb_apI (kn := 102) (rest := []) hC hB hA S (by decide) (by decide) (by decide) (by decide) (by decide) (by decide) hn102 (v := i) (by omega) (by omega) (cwV 1 hC.2.2.2.2 gX11_tell_J4_append_bf812 rfl rfl rfl hdV_J4_append_bf812 ⟨Nat.le_of_ble_eq_true rfl, Nat.le_of_ble_eq_true rfl⟩) hl.1 (Nat.le_of_ble_eq_true rfl) dX11_tell_213 ⟨by show _ ≤ 40; omega, by show _ ≤ 2400; omega⟩ (fun H locs S => ?_)
          refine lv_pop hC.1 hC.2.1 dX11_tell_216 rfl ?_
          refine lv_iconst (v := 1) hC.1 hC.2.1 dX11_tell_217 (by decide) ?_
          refine lv_istore (lv' := [(5, .int 1), (6, .int (nI i)), (4, .ref (L 100)), (3, .ref (ad ix)), (2, .ref (L (33 + j))), (0, .ref (L 0)), (1, .int (nI w))]) hC.1 hC.2.1 dX11_tell_218 hl (by decide) rfl (fun ls hl => ?_)
          have hd9 : dg i = 1 := if_pos (by omega)
          refine W.widen (k := 18 + 2 * (i + 1)) (n := 900 + 140 * (i + 1)) (by omega) (by omega) ?_
          exact next (n1 + w9 + dg i) 1 H locs ls (by omega) S (lv_sub hl [1, 0, 2, 3, 4, 5, 6] rfl)
        refine lv_aload hC.1 hC.2.1 dX11_tell_192 (lv_at hl 2 rfl) ?_
        refine lv_iload hC.1 hC.2.1 dX11_tell_194 (lv_at hl 1 rfl) ?_
        refine lv_if_eq (tgt := 205) hC.1 hC.2.1 dX11_tell_196 (by decide) (fun _ => ?_) (fun _ => ?_)
        · refine va_ldcwS hC (hK 11 (370, ": ", 2) rfl).1 dX11_tell_205 ?_
          exact fin _ _ (hK 11 (370, ": ", 2) rfl).2 (by decide)
        refine va_ldcwS hC (hK 10 (368, ",", 1) rfl).1 dX11_tell_199 ?_
        refine lv_goto (tgt := 208) hC.1 hC.2.1 dX11_tell_202 (by decide) ?_
        exact fin _ _ (hK 10 (368, ",", 1) rfl).2 (by decide)
    have app : W p l e (rmS 9 40 2400) s m args below meth c H locs 18 900 (MQ below (va_Qr (S := MS) post (fun τ _ t => rO D cy lay Γ τ t) (rA cy lay Γ s.heap.size)) args s 40 2400 (rA cy lay Γ s.heap.size)) (F0 m 159 ls []) := by
      refine lv_iconst (v := 0) hC.1 hC.2.1 dX11_tell_159 (by decide) ?_
      refine lv_istore (lv' := [(5, .int 0), (4, .ref (L 100)), (3, .ref (ad ix)), (2, .ref (L (33 + j))), (0, .ref (L 0)), (1, .int (nI w))]) hC.1 hC.2.1 dX11_tell_160 hl (by decide) rfl (fun ls hl => ?_)
      refine lv_iconst (v := 0) hC.1 hC.2.1 dX11_tell_162 (by decide) ?_
      refine lv_istore (lv' := [(6, .int 0), (5, .int 0), (4, .ref (L 100)), (3, .ref (ad ix)), (2, .ref (L (33 + j))), (0, .ref (L 0)), (1, .int (nI w))]) hC.1 hC.2.1 dX11_tell_163 hl (by decide) rfl (fun ls hl => ?_)
      refine W.widen (k := 18 + 2 * 0) (n := 900 + 140 * 0) (by decide) (by decide) ?_
      exact loop Γ.1 0 (by omega) n _ _ _ _ (by omega) S hl
    refine lv_aload_n hC.1 hC.2.1 dX11_tell_137 rfl (lv_at hl 2 rfl) ?_
    refine sb_getN hC hB hT.2.1 S (by omega) (by omega) (by omega) hXw k_X10 (fun _ h => List.mem_cons_of_mem _ (List.mem_append_left _ (List.mem_append_left _ (List.mem_append_left _ (List.mem_append_right _ h))))) 7 (by decide) 17 rfl rfl dX11_tell_138 ?_
    refine lv_iconst (v := 1) hC.1 hC.2.1 dX11_tell_141 (by decide) ?_
    refine lv_icmp_eq (tgt := 159) hC.1 hC.2.1 dX11_tell_142 (by decide) (fun _ => app) (fun _ => ?_)
    refine lv_aload_n hC.1 hC.2.1 dX11_tell_145 rfl (lv_at hl 2 rfl) ?_
    refine sb_getN hC hB hT.2.1 S (by omega) (by omega) (by omega) hXw k_X10 (fun _ h => List.mem_cons_of_mem _ (List.mem_append_left _ (List.mem_append_left _ (List.mem_append_left _ (List.mem_append_right _ h))))) 7 (by decide) 17 rfl rfl dX11_tell_146 ?_
    refine lv_iconst (v := 2) hC.1 hC.2.1 dX11_tell_149 (by decide) ?_
    refine lv_icmp_eq (tgt := 159) hC.1 hC.2.1 dX11_tell_150 (by decide) (fun _ => app) (fun _ => ?_)
    refine W.widen (k := 38) (n := 2300) (by decide) (by decide) ?_
    exact finA n H locs ls (by omega) S hl
  refine lv_aload_n hC.1 hC.2.1 dX11_tell_40 rfl (lv_at hl 0 rfl) ?_
  refine rg_getN hC hT G (rk_wd hj) (r_wd hj) k_X10 (fun _ h => List.mem_cons_of_mem _ (List.mem_append_left _ (List.mem_append_left _ (List.mem_append_left _ (List.mem_append_right _ h))))) 7 (by decide) 17 rfl rfl dX11_tell_41 ?_
  refine lv_if_ne (tgt := 53) hC.1 hC.2.1 dX11_tell_44 (by decide) (fun _ => ?_) (fun _ => ?_)
  rotate_left
  · refine va_ldcwS hC (hK 3 (354, "asked", 5) rfl).1 dX11_tell_47 ?_
    refine lv_goto (tgt := 84) hC.1 hC.2.1 dX11_tell_50 (by decide) ?_
    exact go 3 5 H locs ls (by decide) (hK 3 (354, "asked", 5) rfl).2 G hl
  refine lv_aload_n hC.1 hC.2.1 dX11_tell_53 rfl (lv_at hl 0 rfl) ?_
  refine rg_getN hC hT G (rk_wd hj) (r_wd hj) k_X10 (fun _ h => List.mem_cons_of_mem _ (List.mem_append_left _ (List.mem_append_left _ (List.mem_append_left _ (List.mem_append_right _ h))))) 7 (by decide) 17 rfl rfl dX11_tell_54 ?_
  refine lv_iconst (v := 1) hC.1 hC.2.1 dX11_tell_57 (by decide) ?_
  refine lv_icmp_ne (tgt := 67) hC.1 hC.2.1 dX11_tell_58 (by decide) (fun _ => ?_) (fun _ => ?_)
  rotate_left
  · refine va_ldcwS hC (hK 4 (356, "fixed", 5) rfl).1 dX11_tell_61 ?_
    refine lv_goto (tgt := 84) hC.1 hC.2.1 dX11_tell_64 (by decide) ?_
    exact go 4 5 H locs ls (by decide) (hK 4 (356, "fixed", 5) rfl).2 G hl
  refine lv_aload_n hC.1 hC.2.1 dX11_tell_67 rfl (lv_at hl 0 rfl) ?_
  refine rg_getN hC hT G (rk_wd hj) (r_wd hj) k_X10 (fun _ h => List.mem_cons_of_mem _ (List.mem_append_left _ (List.mem_append_left _ (List.mem_append_left _ (List.mem_append_right _ h))))) 7 (by decide) 17 rfl rfl dX11_tell_68 ?_
  refine lv_iconst (v := 2) hC.1 hC.2.1 dX11_tell_71 (by decide) ?_
  refine lv_icmp_ne (tgt := 81) hC.1 hC.2.1 dX11_tell_72 (by decide) (fun _ => ?_) (fun _ => ?_)
  rotate_left
  · refine va_ldcwS hC (hK 5 (358, "played", 6) rfl).1 dX11_tell_75 ?_
    refine lv_goto (tgt := 84) hC.1 hC.2.1 dX11_tell_78 (by decide) ?_
    exact go 5 6 H locs ls (by decide) (hK 5 (358, "played", 6) rfl).2 G hl
  refine va_ldcwS hC (hK 6 (360, "lost", 4) rfl).1 dX11_tell_81 ?_
  exact go 6 4 H locs ls (by decide) (hK 6 (360, "lost", 4) rfl).2 G hl
end
section
/-! TEXTS: the reference's calls beside a StringBuilder -/
section RGS
variable {p : Program} {l : Launch} {e : Env} {R : Room} {s : State} {m : MethodId} {args : Array Value} {below : List Frame} {meth : Method} {c : Code} {H H1 : Heap} {locs locs1 : List Loc} {cells slots : Nat} {Q : State → Prop}
variable {cc bytes : ByteArray} {pc nL maxL mc ms n index k kb ob : Nat} {ls : Array Slot} {ST rest As : List Value} {D : va_G} {cy : Nat → ClassId} {lay : Nat → Nat} {Γ : RG} {σ σ' : MS} {A : Nat → Prop} {Ts ws : List Cond} {own host : String} {y : MethodName} {ret : Option FieldType} {rm : Room}
theorem sb_sub (S : sbW D cy (gU lay k ob) (rX cy lay Γ tn σ) A s.heap H locs k kb n) (hk : 64 ≤ k) (hkb : 64 ≤ kb) : rG D cy lay Γ tn σ A s.heap H locs := by
  obtain ⟨L, m1, a, ml, hf1, hm, hnm, hL, G⟩ := S
  exact g_rg (fun i hi => sbX_o (by omega) (by omega)) (fun i hi => by rw [gU_out hL (by omega), gU_ne (by omega)]) G
/-- a call of the reference's, the StringBuilder stays -/
theorem sb_back0 (S : sbW D cy (gU lay k ob) (rX cy lay Γ tn σ) A s.heap H locs k kb n) (hk : 64 ≤ k) (hkb : 64 ≤ kb) (hk2 : k < 128) (hkb2 : kb < 128) (hne : kb ≠ k) {t : State} (hO : rO D cy lay Γ σ' t) (ht : t.heap = H1) (hkeep : ∀ q : Nat, q < H.size → ¬ rA cy lay Γ H.size q → H1[q]? = H[q]?) (hS : va_S A s.heap H1 locs1) :
    ∃ (L : Nat → Nat) (m : Nat) (a : Nat → Int32) (ml : Int32), sb_Fit a ∧ capOk m ∧ n ≤ m ∧ gU (gU lay k ob) kb (L kb) = L ∧ gG D L (sbX cy (rX cy lay Γ tn σ') k kb (L kb) m a (nI n) ml) A s.heap H1 locs1 ∧ ∀ i e, i < 128 → sbX cy (rX cy lay Γ tn σ') k kb (L kb) m a (nI n) ml i = some e → L i < H.size := by
  obtain ⟨L, m1, a, ml, hf1, hm, hnm, hL, G⟩ := S
  have lo : ∀ i, i < 64 → L i = lay i := fun i hi => by rw [gU_out hL (by omega), gU_ne (by omega)]
  have old : ∀ i e, sbX cy (rX cy lay Γ tn σ') k kb (L kb) m1 a (nI n) ml i = some e → ((i = k ∨ i = kb) ∧ sbX cy (rX cy lay Γ tn σ) k kb (L kb) m1 a (nI n) ml i = some e) ∨ (i < 64 ∧ rX cy lay Γ tn σ' i = some e ∧ ∃ e0, sbX cy (rX cy lay Γ tn σ) k kb (L kb) m1 a (nI n) ml i = some e0) := fun i e h => by
    by_cases c1 : i = k
    · subst c1
      rw [sbX_k] at h
      exact Or.inl ⟨Or.inl rfl, by rw [sbX_k]; exact h⟩
    · by_cases c2 : i = kb
      · subst c2
        rw [sbX_b hne] at h
        exact Or.inl ⟨Or.inr rfl, by rw [sbX_b hne]; exact h⟩
      · rw [sbX_o c1 c2] at h
        by_cases c3 : i < 64
        · refine Or.inr ⟨c3, h, ?_⟩
          rw [sbX_o c1 c2]
          have h1 : (rX cy lay Γ tn σ i).isSome = true := by
            rw [r_some (lay' := lay) (tm' := tn) (σ' := σ') c3, h]
            rfl
          exact Option.isSome_iff_exists.mp h1
        · rw [r_tm (by omega)] at h
          cases h
  have was : ∀ i e, sbX cy (rX cy lay Γ tn σ') k kb (L kb) m1 a (nI n) ml i = some e → ∃ e0, sbX cy (rX cy lay Γ tn σ) k kb (L kb) m1 a (nI n) ml i = some e0 := fun i e h => by
    rcases old i e h with ⟨_, h⟩ | ⟨_, _, h⟩
    · exact ⟨e, h⟩
    · exact h
  refine ⟨L, m1, a, ml, hf1, hm, hnm, hL, ⟨fun i e hi h => ?_, ⟨fun i j e f hi hj h1 h2 he => ?_, fun i e hi h => ?_⟩, hS⟩, fun i e hi h => ?_⟩
  · rcases old i e h with ⟨ci, h0⟩ | ⟨ci, h0, _⟩
    · have hat := G.1 i e hi h0
      refine hat.kept (hkeep _ hat.lt ?_)
      rintro (⟨j, hj, hx, hq⟩ | hq)
      · rw [r_some (lay' := lay) (tm' := tn) (σ' := σ) hj] at hx
        obtain ⟨e1, he1⟩ := Option.isSome_iff_exists.mp hx
        have := G.2.1.1 i j e e1 hi (by omega) h0 ((sbX_o (by omega) (by omega)).trans he1) (by rw [lo j hj]; exact hq)
        omega
      · have hlt : L i < H.size := hat.lt
        omega
    · have hat := hO.1 i e hi h0
      rw [ht] at hat
      rw [lo i ci]
      exact hat
  · obtain ⟨e0, h1⟩ := was i e h1
    obtain ⟨f0, h2⟩ := was j f h2
    exact G.2.1.1 i j e0 f0 hi hj h1 h2 he
  · obtain ⟨e0, h⟩ := was i e h
    exact G.2.1.2 i e0 hi h
  · obtain ⟨e0, h⟩ := was i e h
    exact (G.1 i e0 hi h).lt
/-- an element of a list, beside a StringBuilder -/
theorem sb_rr {post : Nat → MS → Prop} {f : Nat → Nat} {as : Array Value} (S : sbW D cy (gU lay k ob) (rX cy lay Γ tn σ) (rA cy lay Γ s.heap.size) s.heap H locs k kb n) (hk : 64 ≤ k) (hkb : 64 ≤ kb) (hk2 : k < 128) (hkb2 : kb < 128) (hne : kb ≠ k) (hr : va_Run p l e R s m args below meth c H locs cells slots mc ms (F0 m pc ls ST) rest (rQ post f D cy lay Γ (rA cy lay Γ H.size) as) (rA cy lay Γ H.size))
    (kk : ∀ (i : Nat) (σ' : MS) (H1 : Heap) (locs1 : List Loc), post i σ' → sbW D cy (gU lay k ob) (rX cy lay Γ tn σ') (rA cy lay Γ s.heap.size) s.heap H1 locs1 k kb n → W p l e R s m args below meth c H1 locs1 (cells + mc) (slots + ms) Q (F0 m (pc + 3) ls (.ref (f i) :: rest))) : W p l e R s m args below meth c H locs cells slots Q (F0 m pc ls ST) := by
  have hSS : va_S (rA cy lay Γ s.heap.size) s.heap H locs := (sb_sub S hk hkb).2.2
  refine va_callr hr hSS (fun q _ h => rA_le hSS.1 q h) (rA_le hSS.1) (fun u ra t H1 locs1 ht hvm hw hB hz hk3 hS => ?_)
  obtain ⟨e1, hO⟩ := hB
  rw [e1]
  obtain ⟨L, m1, a, ml, g1, g2, g3, g4, g5, -⟩ := sb_back0 S hk hkb hk2 hkb2 hne hO ht hk3 hS
  exact kk u.1 u.2 H1 locs1 hw ⟨L, m1, a, ml, g1, g2, g3, g4, g5⟩
/-- a new row, beside a StringBuilder -/
theorem sb_rA {post : Nat → (Nat → Int32) → MS → Prop} {as : Array Value} (S : sbW D cy (gU lay k ob) (rX cy lay Γ tn σ) (rA cy lay Γ s.heap.size) s.heap H locs k kb n) (hk : 64 ≤ k) (hkb : 64 ≤ kb) (hk2 : k < 128) (hkb2 : kb < 128) (hne : kb ≠ k) {kr : Nat} (hkr : 64 ≤ kr) (hkr2 : kr < 128) (hr1 : kr ≠ k) (hr2 : kr ≠ kb) (hr : va_Run p l e R s m args below meth c H locs cells slots mc ms (F0 m pc ls ST) rest (rQA post D cy lay Γ H.size (rA cy lay Γ H.size) as) (rA cy lay Γ H.size))
    (kk : ∀ (N : Nat) (f : Nat → Int32) (σ' : MS) (q : Nat) (H1 : Heap) (locs1 : List Loc), post N f σ' → sbW D cy (gU (gU lay k ob) kr q) (gU (rX cy lay Γ tn σ') kr (some (.inl (cy 0, N, .inl f)))) (rA cy lay Γ s.heap.size) s.heap H1 locs1 k kb n → W p l e R s m args below meth c H1 locs1 (cells + mc) (slots + ms) Q (F0 m (pc + 3) ls (.ref q :: rest))) : W p l e R s m args below meth c H locs cells slots Q (F0 m pc ls ST) := by
  have hSS : va_S (rA cy lay Γ s.heap.size) s.heap H locs := (sb_sub S hk hkb).2.2
  refine va_callr hr hSS (fun q _ h => rA_le hSS.1 q h) (rA_le hSS.1) (fun u ra t H1 locs1 ht hvm hw hB hz hk3 hS => ?_)
  obtain ⟨⟨hra, hat⟩, hO⟩ := hB
  obtain ⟨L, m1, a, ml, g1, g2, g3, g4, G, g6⟩ := sb_back0 S hk hkb hk2 hkb2 hne hO ht hk3 hS
  rw [ht] at hat
  refine kk u.1.1 u.1.2 u.2 ra H1 locs1 hw ⟨gU L kr ra, m1, a, ml, g1, g2, g3, ?_, ?_⟩
  · rw [gU_ne (Ne.symm hr2)]
    funext i
    by_cases c1 : i = kr
    · subst c1
      rw [gU_ne hr2, gU_eq, gU_eq]
    · rw [gU_ne c1]
      by_cases c2 : i = kb
      · subst c2
        rw [gU_eq]
      · rw [gU_ne c2, gU_ne c1, gU_out g4 c2]
  · rw [gU_ne (Ne.symm hr2)]
    have hX : ∀ i, i ≠ kr → sbX cy (gU (rX cy lay Γ tn u.2) kr (some (.inl (cy 0, u.1.1, .inl u.1.2)))) k kb (L kb) m1 a (nI n) ml i = sbX cy (rX cy lay Γ tn u.2) k kb (L kb) m1 a (nI n) ml i := fun i hi => by
      by_cases c1 : i = k
      · subst c1; rw [sbX_k, sbX_k]
      · by_cases c2 : i = kb
        · subst c2; rw [sbX_b hne, sbX_b hne]
        · rw [sbX_o c1 c2, sbX_o c1 c2, gU_ne hi]
    have hXr : sbX cy (gU (rX cy lay Γ tn u.2) kr (some (.inl (cy 0, u.1.1, .inl u.1.2)))) k kb (L kb) m1 a (nI n) ml kr = some (.inl (cy 0, u.1.1, .inl u.1.2)) := (sbX_o hr1 hr2).trans gU_eq
    refine ⟨fun i e hi h => ?_, ⟨fun i j e f hi hj h1 h2 he => ?_, fun i e hi h => ?_⟩, G.2.2⟩
    · by_cases c1 : i = kr
      · subst c1
        rw [hXr] at h
        cases h
        rw [gU_eq]
        exact hat
      · rw [hX i c1] at h
        rw [gU_ne c1]
        exact G.1 i e hi h
    · by_cases c1 : i = kr
      · by_cases c2 : j = kr
        · omega
        · subst c1
          rw [hX j c2] at h2
          rw [gU_eq, gU_ne c2] at he
          have := g6 j f hj h2
          omega
      · rw [hX i c1] at h1
        by_cases c2 : j = kr
        · subst c2
          rw [gU_eq, gU_ne c1] at he
          have := g6 i e hi h1
          omega
        · rw [hX j c2] at h2
          rw [gU_ne c1, gU_ne c2] at he
          exact G.2.1.1 i j e f hi hj h1 h2 he
    · by_cases c1 : i = kr
      · subst c1
        rw [gU_eq]
        exact rA_le hSS.1 ra (Or.inr hra)
      · rw [hX i c1] at h
        rw [gU_ne c1]
        exact G.2.1.2 i e hi h
theorem sb_alen {X : Nat → Option va_E} {j N : Nat} (hC : CallFix p m c cc nL s args Ts own) (hT : tB D cy A s s.heap) (S : sbW D cy lay X A s.heap H locs k kb n) (hj : j < 128) (hjk : j ≠ k) (hjb : j ≠ kb) {f : Nat → Int32} (he : X j = some (.inl (cy 0, N, .inl f))) (hdg : decode cc pc = .ok (.arraylength, 1))
    (kk : W p l e R s m args below meth c H locs cells slots Q (F0 m (pc + 1) ls (.int (nI N) :: rest))) : W p l e R s m args below meth c H locs cells slots Q (F0 m pc ls (.ref (lay j) :: rest)) := by
  obtain ⟨L, m1, a, ml, hf1, hm, hnm, hL, G⟩ := S
  rw [← gU_out hL hjb]
  obtain ⟨q0, hq⟩ := gW_pos (lay := L) hj ((sbX_o hjk hjb).trans he)
  exact va_alen hC.1 hC.2.1 hT.1 (gP_list G.1) q0 0 hq rfl rfl hdg kk
end RGS
end
section
/-! TEXTS: walks of StringBuilder, String (69d.rsongs) -/
def w_X11_songs (Γ : RG) (post : MS → Prop) (σ : MS) (a1 : Int32) : Prop := w_X11_isWedding Γ (fun r σ1 => (r = 0 → post (up2 σ1 0 0 1)) ∧ (¬ r = 0 → w_lw_Jx4a65c_get_915e3 Γ (fun j σ2 => (j < 14 ∧ j < Γ.2.2.1) ∧ w_X11_bestSet Γ (fun N f σ3 => N ≤ 16 ∧ (∀ i, i < N → ∃ v : Nat, v < 1000 ∧ f i = nI v) ∧ post σ3) σ2 (σ2 (33 + j) 8)) (up2 σ1 0 0 0) a1)) σ a1
set_option maxHeartbeats 8000000 in
set_option maxRecDepth 100000 in
theorem c_X11_songs (l : Launch) (D : va_G) (cy : Nat → ClassId) (lay : Nat → Nat) (Γ : RG) (ad : Nat → Nat) {σ : MS} {post : MS → Prop} {a1 : Int32} (h : w_X11_songs Γ post σ a1) (sz : Nat) : Met l yX11_songs wsX11_songs (rmS 9 40 2400) (va_Pc [.ref (lay 0), .int a1] (rIT D cy lay Γ σ ad sz)) (va_Qr (S := MS) post (fun τ _ t => rO D cy lay Γ τ t) (rA cy lay Γ sz)) 40 2400 (rA cy lay Γ sz) := by
  refine rg_ofT (cc := cX11_songs) (maxL := 7) (ret := (some (.object "java/lang/String"))) (own := RX11) (Qc := fun sz => (va_Qr (S := MS) post (fun τ _ t => rO D cy lay Γ τ t) (rA cy lay Γ sz))) (by decide) rfl (Nat.le_of_ble_eq_true rfl) rfl ?_
  intro p e s m args below meth c ls hC hr hlocks hT hB hK G hl
  unfold w_X11_songs at h
  have hA : ∀ q, s.heap.size ≤ q → rA cy lay Γ s.heap.size q := fun _ h => Or.inr h
  have hl : lv_has ls 7 [(0, .ref (lay 0)), (1, .int a1)] := hl
  refine lv_aload_n hC.1 hC.2.1 dX11_songs_0 rfl (lv_at hl 0 rfl) ?_
  refine lv_aload_n hC.1 hC.2.1 dX11_songs_1 rfl (lv_at hl 0 rfl) ?_
  refine lv_iload_n hC.1 hC.2.1 dX11_songs_2 rfl (lv_at hl 1 rfl) ?_
  refine rg_i G (rg_runV (As := [.int a1]) (rest := [.ref (lay 0)]) hC hT G (c_X11_isWedding l D cy lay Γ h _) (cwV 1 hC.2.2.2.2 gX11_songs_X11_isWedding rfl rfl rfl hdV_X11_isWedding ⟨Nat.le_of_ble_eq_true rfl, Nat.le_of_ble_eq_true rfl⟩) (rg_recv hT G (by decide) r_mo k_X11) rfl hl.1 rfl (Nat.le_of_ble_eq_true rfl) dX11_songs_3 ⟨Nat.le_of_ble_eq_true rfl, Nat.le_of_ble_eq_true rfl⟩) (fun r σ1 H locs h1 G => ?_)
  refine lv_if_eq (tgt := 13) hC.1 hC.2.1 dX11_songs_6 (by decide) (fun c1 => ?_) (fun c1 => ?_)
  · replace h1 := h1.1 c1
    refine lv_iconst (v := 1) hC.1 hC.2.1 dX11_songs_13 (by decide) ?_
    refine rg_put hC hT G (by decide) r_mo k_X11 (fun _ h => List.mem_cons_of_mem _ (List.mem_append_left _ (List.mem_append_left _ (List.mem_append_left _ (List.mem_append_left _ (List.mem_append_left _ (List.mem_append_right _ h))))))) 0 (by decide) (wm 1 rfl) rfl rfl (by simp) r_mo (by rw [up2_eq]; rfl) dX11_songs_14 (fun H locs G => ?_)
    refine lv_aload_n hC.1 hC.2.1 dX11_songs_17 rfl (lv_at hl 0 rfl) ?_
    refine rg_get hC hT G (by decide) r_mo k_X11 (fun _ h => List.mem_cons_of_mem _ (List.mem_append_left _ (List.mem_append_left _ (List.mem_append_left _ (List.mem_append_left _ (List.mem_append_left _ (List.mem_append_right _ h))))))) 0 (by decide) (wm 1 rfl) rfl dX11_songs_18 ?_
    refine lv_if_le (tgt := 28) hC.1 hC.2.1 dX11_songs_21 (by decide) (fun c2 => absurd (show (up2 σ1 0 0 1) 0 0 ≤ 0 from c2) (by rw [up2_same]; decide)) (fun _ => ?_)
    refine va_ldcwS hC (hK 0 (323, "", 0) rfl).1 dX11_songs_24 ?_
    refine W.widen (k := 40) (n := 2400) (by decide) (by decide) ?_
    exact rg_tret hC hr ⟨_, rfl⟩ hlocks G h1 dX11_songs_27
  replace h1 := h1.2 c1
  refine lv_iconst (v := 0) hC.1 hC.2.1 dX11_songs_9 (by decide) ?_
  refine lv_goto (tgt := 14) hC.1 hC.2.1 dX11_songs_10 (by decide) ?_
  refine rg_put hC hT G (by decide) r_mo k_X11 (fun _ h => List.mem_cons_of_mem _ (List.mem_append_left _ (List.mem_append_left _ (List.mem_append_left _ (List.mem_append_left _ (List.mem_append_left _ (List.mem_append_right _ h))))))) 0 (by decide) (wm 1 rfl) rfl rfl (by simp) r_mo (by rw [up2_eq]; rfl) dX11_songs_14 (fun H locs G => ?_)
  refine lv_aload_n hC.1 hC.2.1 dX11_songs_17 rfl (lv_at hl 0 rfl) ?_
  refine rg_get hC hT G (by decide) r_mo k_X11 (fun _ h => List.mem_cons_of_mem _ (List.mem_append_left _ (List.mem_append_left _ (List.mem_append_left _ (List.mem_append_left _ (List.mem_append_left _ (List.mem_append_right _ h))))))) 0 (by decide) (wm 1 rfl) rfl dX11_songs_18 ?_
  refine lv_if_le (tgt := 28) hC.1 hC.2.1 dX11_songs_21 (by decide) (fun _ => ?_) (fun c2 => absurd (show (up2 σ1 0 0 0) 0 0 ≤ 0 by rw [up2_same]; decide) c2)
  have G : gG D lay (rX cy lay Γ tn (up2 σ1 0 0 0)) (rA cy lay Γ s.heap.size) s.heap H locs := G
  have hn : ∀ (τ : MS) (j : Nat), 64 ≤ j → rX cy lay Γ tn τ j = none := fun τ j hj => r_tm hj
  have hn100 := hn (up2 σ1 0 0 0) 100 (by decide)
  have hn101 := hn (up2 σ1 0 0 0) 101 (by decide)
  refine sb_new (k := 100) (kb := 101) (rest := []) hC hB hA G (by decide) (by decide) (by decide) hn100 hn101 (fun _ h => List.mem_cons_of_mem _ (List.mem_append_left _ (List.mem_append_left _ (List.mem_append_left _ (List.mem_append_left _ (List.mem_append_right _ h)))))) (wm 2 rfl) (wm 3 rfl) (wm 4 rfl) ⟨callB_of 0 hC.2.2.2.2 gX11_songs_J4_init_da8c8 rfl rfl rfl (hC.2.2.2.2 (.initialized RJ4) (wm 4 rfl)) (hC.2.2.2.2 (.methodLink RX11 327 yJ4_init_da8c8) (wm 21 rfl)) hdI_J4_init_da8c8 ⟨Nat.le_of_ble_eq_true rfl, Nat.le_of_ble_eq_true rfl⟩, rfl, hC.2.2.2.2 (.instanceMethod yJ4_init_da8c8) (wm 22 rfl)⟩ hl.1 (Nat.le_of_ble_eq_true rfl) dX11_songs_28 dX11_songs_31 dX11_songs_32 ⟨Nat.le_of_ble_eq_true rfl, Nat.le_of_ble_eq_true rfl⟩ (fun q H locs S => ?_)
  have eo : ∀ j, j < 64 → gU lay 100 q j = lay j := fun j hj => gU_ne (by omega)
  have hr0 : lay 0 = gU lay 100 q 0 := (eo 0 (by decide)).symm
  refine lv_astore_n (lv' := [(2, .ref (gU lay 100 q 100)), (0, .ref (lay 0)), (1, .int a1)]) hC.1 hC.2.1 dX11_songs_35 rfl hl (by decide) rfl (fun ls hl => ?_)
  refine lv_aload_n hC.1 hC.2.1 dX11_songs_36 rfl (lv_at hl 1 rfl) ?_
  refine lv_aload_n hC.1 hC.2.1 dX11_songs_37 rfl (lv_at hl 1 rfl) ?_
  rw [hr0]
  refine sb_get hC hB S (by decide) (by decide) (by decide) r_mo k_X11 (fun _ h => List.mem_cons_of_mem _ (List.mem_append_left _ (List.mem_append_left _ (List.mem_append_left _ (List.mem_append_left _ (List.mem_append_left _ (List.mem_append_right _ h))))))) 5 (by decide) (wm 5 rfl) rfl dX11_songs_38 ?_
  rw [← hr0]
  refine lv_iload_n hC.1 hC.2.1 dX11_songs_41 rfl (lv_at hl 2 rfl) ?_
  have G := sb_sub S (by decide) (by decide)
  refine sb_rr (f := fun i => lay (33 + i)) S (by decide) (by decide) (by decide) (by decide) (by decide) (rg_runV (As := [.int a1]) (rest := [.ref (lay 0)]) hC hT G (c_lw_Jx4a65c_get_915e3 l D cy lay Γ h1 _) (cwV 1 hC.2.2.2.2 gX11_songs_Jx4a65c_get_915e3 rfl rfl rfl hdV_Jx4a65c_get_915e3 ⟨Nat.le_of_ble_eq_true rfl, Nat.le_of_ble_eq_true rfl⟩) (rg_recv hT G (by decide) r_lw k_AL) rfl hl.1 rfl (Nat.le_of_ble_eq_true rfl) dX11_songs_42 ⟨Nat.le_of_ble_eq_true rfl, Nat.le_of_ble_eq_true rfl⟩) (fun j σ2 H locs h2 S => ?_)
  obtain ⟨hj, h2⟩ := h2
  have G := sb_sub S (by decide) (by decide)
  refine rg_cast hC hT k_X10 (wm 6 rfl) (rg_recv hT G (rk_wd hj) (r_wd hj) k_X10) dX11_songs_45 ?_
  rw [← eo (33 + j) (by omega)]
  refine sb_getN hC hB hT.2.1 S (by omega) (by omega) (by omega) (r_wd hj) k_X10 (fun _ h => List.mem_cons_of_mem _ (List.mem_append_left _ (List.mem_append_left _ (List.mem_append_left _ (List.mem_append_right _ h))))) 8 (by decide) 18 rfl rfl dX11_songs_48 ?_
  refine sb_rA S (by decide) (by decide) (by decide) (by decide) (by decide) (kr := 110) (by decide) (by decide) (by decide) (by decide) (rg_runV (As := [.int (σ2 (33 + j) 8)]) (rest := []) hC hT G (c_X11_bestSet l D cy lay Γ h2 _) (cwV 1 hC.2.2.2.2 gX11_songs_X11_bestSet rfl rfl rfl hdV_X11_bestSet ⟨Nat.le_of_ble_eq_true rfl, Nat.le_of_ble_eq_true rfl⟩) (rg_recv hT G (by decide) r_mo k_X11) rfl hl.1 rfl (Nat.le_of_ble_eq_true rfl) dX11_songs_51 ⟨Nat.le_of_ble_eq_true rfl, Nat.le_of_ble_eq_true rfl⟩) (fun N f σ3 q2 H locs h3 S => ?_)
  obtain ⟨hN, hv, h3⟩ := h3
  refine lv_astore_n (lv' := [(3, .ref q2), (2, .ref (gU lay 100 q 100)), (0, .ref (lay 0)), (1, .int a1)]) hC.1 hC.2.1 dX11_songs_54 rfl hl (by decide) rfl (fun ls hl => ?_)
  have eo2 : ∀ j, j < 64 → gU (gU lay 100 q) 110 q2 j = lay j := fun j hj => (gU_ne (by omega)).trans (eo j hj)
  have e100 : gU (gU lay 100 q) 110 q2 100 = gU lay 100 q 100 := gU_ne (by decide)
  have e110 : gU (gU lay 100 q) 110 q2 110 = q2 := gU_eq
  have hX0 : gU (rX cy lay Γ tn σ3) 110 (some (.inl (cy 0, N, .inl f))) 110 = some (.inl (cy 0, N, .inl f)) := gU_eq
  have hXr : ∀ j, j < 64 → gU (rX cy lay Γ tn σ3) 110 (some (.inl (cy 0, N, .inl f))) j = rX cy lay Γ tn σ3 j := fun j hj => gU_ne (by omega)
  have hn102 : gU (rX cy lay Γ tn σ3) 110 (some (.inl (cy 0, N, .inl f))) 102 = none := (gU_ne (by decide)).trans (hn σ3 102 (by decide))
  have hn103 : gU (rX cy lay Γ tn σ3) 110 (some (.inl (cy 0, N, .inl f))) 103 = none := (gU_ne (by decide)).trans (hn σ3 103 (by decide))
  have hn104 : gU (rX cy lay Γ tn σ3) 110 (some (.inl (cy 0, N, .inl f))) 104 = none := (gU_ne (by decide)).trans (hn σ3 104 (by decide))
  generalize gU (gU lay 100 q) 110 q2 = L at S eo2 e100 e110
  rw [← e100, ← e110] at hl
  generalize gU (rX cy lay Γ tn σ3) 110 (some (.inl (cy 0, N, .inl f))) = X at S hX0 hXr hn102 hn103 hn104
  refine lv_aload_n hC.1 hC.2.1 dX11_songs_55 rfl (lv_at hl 0 rfl) ?_
  refine sb_alen hC hB S (by decide) (by decide) (by decide) hX0 dX11_songs_56 ?_
  refine lv_istore (lv' := [(4, .int (nI N)), (3, .ref (L 110)), (2, .ref (L 100)), (0, .ref (lay 0)), (1, .int a1)]) hC.1 hC.2.1 dX11_songs_57 hl (by decide) rfl (fun ls hl => ?_)
  refine lv_iconst (v := 0) hC.1 hC.2.1 dX11_songs_59 (by decide) ?_
  refine lv_istore (lv' := [(5, .int 0), (4, .int (nI N)), (3, .ref (L 110)), (2, .ref (L 100)), (0, .ref (lay 0)), (1, .int a1)]) hC.1 hC.2.1 dX11_songs_60 hl (by decide) rfl (fun ls hl => ?_)
  have d1 : ∀ v, dg v ≤ 3 := fun v => by unfold dg; split <;> (try split) <;> omega
  have fin : ∀ (n1 : Nat) (H : Heap) (locs : List Loc) (ls : Array Slot), n1 ≤ 70 → sbW D cy L X (rA cy lay Γ s.heap.size) s.heap H locs 100 101 n1 → lv_has ls 7 [(4, .int (nI N)), (3, .ref (L 110)), (2, .ref (L 100)), (0, .ref (lay 0)), (1, .int a1)] → W p l e (rmS 9 40 2400) s m args below meth c H locs 38 2324 (MQ below (va_Qr (S := MS) post (fun τ _ t => rO D cy lay Γ τ t) (rA cy lay Γ s.heap.size)) args s 40 2400 (rA cy lay Γ s.heap.size)) (F0 m 107 ls []) := by
    intro n1 H locs ls hn1 S hl
    refine lv_aload_n hC.1 hC.2.1 dX11_songs_107 rfl (lv_at hl 2 rfl) ?_
    refine sb_len (rest := []) hC hB hA S (by decide) (by decide) (cwV 0 hC.2.2.2.2 gX11_songs_J4_length_8abf5 rfl rfl rfl hdV_J4_length_8abf5 ⟨Nat.le_of_ble_eq_true rfl, Nat.le_of_ble_eq_true rfl⟩) hl.1 (Nat.le_of_ble_eq_true rfl) dX11_songs_108 ⟨Nat.le_of_ble_eq_true rfl, Nat.le_of_ble_eq_true rfl⟩ (fun H locs S => ?_)
    refine lv_if_ne (tgt := 120) hC.1 hC.2.1 dX11_songs_111 (by decide) (fun _ => ?_) (fun _ => ?_)
    rotate_left
    · refine va_ldcwS hC (hK 2 (339, "-", 1) rfl).1 dX11_songs_114 ?_
      refine lv_goto (tgt := 124) hC.1 hC.2.1 dX11_songs_117 (by decide) ?_
      refine W.widen (k := 40) (n := 2400) (by decide) (by decide) ?_
      obtain ⟨L', m1, a2, ml1, g1, g2, g3, g4, G⟩ := S
      have G := g_rg (fun k hk64 => (sbX_o (by omega) (by omega)).trans (hXr k hk64)) (fun k hk64 => (gU_out g4 (by omega)).trans (eo2 k hk64)) G
      exact rg_tret hC hr ⟨_, rfl⟩ hlocks G h3 dX11_songs_124
    refine lv_aload_n hC.1 hC.2.1 dX11_songs_120 rfl (lv_at hl 2 rfl) ?_
    refine sb_toS (ks := 103) (kr := 104) (rest := []) hC hB hA S (by decide) (by decide) (by decide) (by decide) (by decide) (by decide) (by decide) (by decide) (by decide) (by decide) hn103 hn104 (cwV 0 hC.2.2.2.2 gX11_songs_J4_toString_0e30d rfl rfl rfl hdV_J4_toString_0e30d ⟨Nat.le_of_ble_eq_true rfl, Nat.le_of_ble_eq_true rfl⟩) hl.1 (Nat.le_of_ble_eq_true rfl) dX11_songs_121 ⟨Nat.le_of_ble_eq_true rfl, Nat.le_of_ble_eq_true rfl⟩ (fun qs L' X' H locs hk G => ?_)
    refine W.widen (k := 40) (n := 2400) (by decide) (by decide) ?_
    have G := g_rg (fun k hk64 => ((hk k (by omega) (by omega) (by omega) (by omega)).2).trans (hXr k hk64)) (fun k hk64 => ((hk k (by omega) (by omega) (by omega) (by omega)).1).trans (eo2 k hk64)) G
    exact rg_tret hC hr ⟨_, rfl⟩ hlocks G h3 dX11_songs_124
  have key : ∀ (dd i : Nat), i + dd = N → ∀ (n1 : Nat) (H : Heap) (locs : List Loc) (ls : Array Slot), n1 ≤ 4 * i → sbW D cy L X (rA cy lay Γ s.heap.size) s.heap H locs 100 101 n1 → lv_has ls 7 [(5, .int (nI i)), (4, .int (nI N)), (3, .ref (L 110)), (2, .ref (L 100)), (0, .ref (lay 0)), (1, .int a1)] → W p l e (rmS 9 40 2400) s m args below meth c H locs (6 + 2 * i) (84 + 140 * i) (MQ below (va_Qr (S := MS) post (fun τ _ t => rO D cy lay Γ τ t) (rA cy lay Γ s.heap.size)) args s 40 2400 (rA cy lay Γ s.heap.size)) (F0 m 62 ls []) := by
    intro dd
    induction dd with
    | zero =>
      intro i hi n1 H locs ls hn1 S hl
      refine lv_iload hC.1 hC.2.1 dX11_songs_62 (lv_at hl 0 rfl) ?_
      refine lv_iload hC.1 hC.2.1 dX11_songs_64 (lv_at hl 1 rfl) ?_
      refine lv_icmp_ge (tgt := 107) hC.1 hC.2.1 dX11_songs_66 (by decide) (fun _ => ?_) (fun c1 => absurd (nI_le (show N ≤ i by omega) (by omega)) c1)
      refine W.widen (k := 38) (n := 2324) (by omega) (by omega) ?_
      exact fin n1 H locs ls (by omega) S (lv_sub hl [1, 2, 3, 4, 5] rfl)
    | succ dd ih =>
      intro i hi n1 H locs ls hn1 S hl
      refine lv_iload hC.1 hC.2.1 dX11_songs_62 (lv_at hl 0 rfl) ?_
      refine lv_iload hC.1 hC.2.1 dX11_songs_64 (lv_at hl 1 rfl) ?_
      refine lv_icmp_ge (tgt := 107) hC.1 hC.2.1 dX11_songs_66 (by decide) (fun c1 => absurd c1 (nI_ge (by omega) (by omega))) (fun _ => ?_)
      obtain ⟨v, hv1, ev⟩ := hv i (by omega)
      refine lv_aload_n hC.1 hC.2.1 dX11_songs_69 rfl (lv_at hl 2 rfl) ?_
      refine lv_iload hC.1 hC.2.1 dX11_songs_70 (lv_at hl 0 rfl) ?_
      refine sb_iald hC hB S (by decide) (by decide) (by decide) hX0 (vp_in_nI (by omega) (by omega)) dX11_songs_72 ?_
      rw [nI_clamp (by omega), ev]
      refine lv_istore (lv' := [(6, .int (nI v)), (5, .int (nI i)), (4, .int (nI N)), (3, .ref (L 110)), (2, .ref (L 100)), (0, .ref (lay 0)), (1, .int a1)]) hC.1 hC.2.1 dX11_songs_73 hl (by decide) rfl (fun ls hl => ?_)
      refine lv_aload_n hC.1 hC.2.1 dX11_songs_75 rfl (lv_at hl 4 rfl) ?_
      refine lv_aload_n hC.1 hC.2.1 dX11_songs_76 rfl (lv_at hl 4 rfl) ?_
      refine sb_len (rest := [.ref (L 100)]) hC hB hA S (by decide) (by decide) (cwV 0 hC.2.2.2.2 gX11_songs_J4_length_8abf5 rfl rfl rfl hdV_J4_length_8abf5 ⟨Nat.le_of_ble_eq_true rfl, Nat.le_of_ble_eq_true rfl⟩) hl.1 (Nat.le_of_ble_eq_true rfl) dX11_songs_77 ⟨by show _ ≤ 40; omega, by show _ ≤ 2400; omega⟩ (fun H locs S => ?_)
      have rest : ∀ (sa w9 : Nat), tX sa w9 (rA cy lay Γ s.heap.size) s s.heap → w9 ≤ 1 → W p l e (rmS 9 40 2400) s m args below meth c H locs (6 + 2 * i) (84 + 140 * i) (MQ below (va_Qr (S := MS) post (fun τ _ t => rO D cy lay Γ τ t) (rA cy lay Γ s.heap.size)) args s 40 2400 (rA cy lay Γ s.heap.size)) (F0 m 92 ls [.ref sa, .ref (L 100)]) := by
        intro sa w9 hw9 hw91
        have hd := d1 v
        refine sb_apS (kn := 102) (rest := []) hC hB hA S (by decide) (by decide) (by decide) (by decide) (by decide) (by decide) hn102 hw9 (by omega) (by omega) (cwV 1 hC.2.2.2.2 gX11_songs_J4_append_15ec4 rfl rfl rfl hdV_J4_append_15ec4 ⟨Nat.le_of_ble_eq_true rfl, Nat.le_of_ble_eq_true rfl⟩) hl.1 (Nat.le_of_ble_eq_true rfl) dX11_songs_92 ⟨by show _ ≤ 40; omega, by show _ ≤ 2400; omega⟩ (fun H locs S => ?_)
        refine lv_iload hC.1 hC.2.1 dX11_songs_95 (lv_at hl 0 rfl) ?_
        refine sb_apI (kn := 102) (rest := []) hC hB hA S (by decide) (by decide) (by decide) (by decide) (by decide) (by decide) hn102 (v := v) hv1 (by omega) (cwV 1 hC.2.2.2.2 gX11_songs_J4_append_bf812 rfl rfl rfl hdV_J4_append_bf812 ⟨Nat.le_of_ble_eq_true rfl, Nat.le_of_ble_eq_true rfl⟩) hl.1 (Nat.le_of_ble_eq_true rfl) dX11_songs_97 ⟨by show _ ≤ 40; omega, by show _ ≤ 2400; omega⟩ (fun H locs S => ?_)
        refine lv_pop hC.1 hC.2.1 dX11_songs_100 rfl ?_
        refine lv_iinc (k := 1) (v := nI (i + 1)) (lv' := [(5, .int (nI (i + 1))), (6, .int (nI v)), (4, .int (nI N)), (3, .ref (L 110)), (2, .ref (L 100)), (0, .ref (lay 0)), (1, .int a1)]) hC.1 hC.2.1 dX11_songs_101 hl rfl (by rw [show Int32.ofInt 1 = 1 by decide]; exact nI_1 i) (by decide) rfl (fun ls hl => ?_)
        refine lv_goto (tgt := 62) hC.1 hC.2.1 dX11_songs_104 (by decide) ?_
        refine W.widen (k := 6 + 2 * (i + 1)) (n := 84 + 140 * (i + 1)) (by omega) (by omega) ?_
        exact ih (i + 1) (by omega) (n1 + w9 + dg v) H locs ls (by omega) S (lv_sub hl [0, 2, 3, 4, 5, 6] rfl)
      refine lv_if_le (tgt := 89) hC.1 hC.2.1 dX11_songs_80 (by decide) (fun _ => ?_) (fun _ => ?_)
      · refine va_ldcwS hC (hK 0 (323, "", 0) rfl).1 dX11_songs_89 ?_
        exact rest _ _ (hK 0 (323, "", 0) rfl).2 (by decide)
      refine va_ldcwS hC (hK 1 (330, " ", 1) rfl).1 dX11_songs_83 ?_
      refine lv_goto (tgt := 92) hC.1 hC.2.1 dX11_songs_86 (by decide) ?_
      exact rest _ _ (hK 1 (330, " ", 1) rfl).2 (by decide)
  refine W.widen (k := 6 + 2 * 0) (n := 84 + 140 * 0) (by decide) (by decide) ?_
  exact key N 0 (by omega) 0 _ _ _ (by omega) S hl
end
section
/-! LAWS of the class: tell, songs -/
theorem vp_nI {x : Int32} {N : Nat} (h : vp_in x N) (hN : N ≤ 1000) : ∃ n, n < N ∧ n < 1000 ∧ x = nI n := by
  obtain ⟨n, hn, e⟩ := nI_of (fun c => h (Or.inl c))
  have := vlt h
  rw [e, nI_clamp hn] at this
  exact ⟨n, this, by omega, e⟩
theorem law_T_tell {post : MS → Prop} {pex : String → MS → Prop} {σ : MS} {P B W T : Nat} {a : Int32} (O : Ok σ P B W T) (hx : (∀ w, w < W → a ≠ nI w) → pex xIO σ) (h : ∀ w, w < W → a = nI w → post σ) : w_T_X7_tell post pex σ a := by
  have hW := O.hW
  unfold w_T_X7_tell
  refine law_T_checkWedding O (fun w hw e => ?_) hx
  obtain ⟨d, _, hd, ed⟩ := vp_nI (O.day w (by omega)) (by decide)
  obtain ⟨t, _, ht, et⟩ := vp_nI (O.town w (by omega)) (by decide)
  exact ⟨w, d, t, P, by omega, e, hd, ed, ht, et, O.hP, O.h6, h w hw e⟩
theorem law_T_songs {post : MS → Prop} {pex : String → MS → Prop} {σ : MS} {P B W T : Nat} {a : Int32} (O : Ok σ P B W T) (hx : (∀ w, w < W → a ≠ nI w) → pex xIO σ) (h : ∀ w, w < W → a = nI w → post (setS σ (σ (73 + w) 8) P)) : w_T_X7_songs post pex σ a := by
  have hW := O.hW
  unfold w_T_X7_songs
  refine law_T_checkWedding O (fun w hw e => ?_) hx
  refine ⟨w, by omega, e, law_playableFor O.h6 O.hP (law_choose ?_)⟩
  obtain ⟨l, hl, e1, e2⟩ := cho_row σ (playF σ (σ (73 + w) 8) P)
  refine ⟨l, hl, e1, fun j hj => ?_, h w hw e⟩
  obtain ⟨v, _, hv, ev⟩ := vp_nI (e2 j hj) (by decide)
  exact ⟨v, hv, ev⟩
end
