/-! TEXTS: methods that load texts of their class's own -/
/-- the texts of a class: place, letters, how many; where they lie -/
def kS (own : String) (L : List (Nat × String × Nat)) (ad : Nat → Nat) (A : Nat → Prop) (U : State) (H : Heap) : Prop := ∀ i q, L[i]? = some q → vk_R own q.1 q.2.1 (ad i) U ∧ tX (ad i) q.2.2 A U H
theorem kS.kept {own : String} {L : List (Nat × String × Nat)} {ad : Nat → Nat} {A : Nat → Prop} {U : State} {H H1 : Heap} (h : kS own L ad A U H) (hq : ∀ a : Nat, a < H.size → ¬ A a → H1[a]? = H[a]?) : kS own L ad A U H1 := fun i q hi => ⟨(h i q hi).1, (h i q hi).2.kept hq⟩
theorem kS.narrow {own : String} {L : List (Nat × String × Nat)} {ad : Nat → Nat} {A B : Nat → Prop} {U : State} {H : Heap} (h : kS own L ad A U H) (hB : ∀ q, B q → A q) : kS own L ad B U H := fun i q hi => ⟨(h i q hi).1, (h i q hi).2.narrow hB⟩
theorem kS.warm {own : String} {L : List (Nat × String × Nat)} {ad : Nat → Nat} {A : Nat → Prop} {s U : State} {H : Heap} (hW : s.WarmedH U.vm) (h : kS own L ad A s H) : kS own L ad A U H := fun i q hi => ⟨vk_R.warm hW (h i q hi).1, (h i q hi).2.moved hW.alike⟩
theorem kS.same {own : String} {L : List (Nat × String × Nat)} {ad : Nat → Nat} {A : Nat → Prop} {u U : State} {H : Heap} (hv : U.vm = u.vm) (h : kS own L ad A u H) : kS own L ad A U H := fun i q hi => ⟨vk_R.same hv (h i q hi).1, (h i q hi).2.moved (by rw [hv]; exact Vm.Alike.refl _)⟩
def sK (D : va_G) (cy : Nat → ClassId) (own : String) (L : List (Nat × String × Nat)) (ad : Nat → Nat) (lay : Nat → Nat) (X : Nat → Option va_E) (sz : Nat) (U : State) : Prop :=
  U.heap.size = sz ∧ tB D cy (gA lay X sz) U U.heap ∧ kS own L ad (gA lay X sz) U U.heap ∧ gP D lay X U.heap ∧ gI (fun _ => True) lay X
theorem sK_blind {D : va_G} {cy : Nat → ClassId} {own : String} {L : List (Nat × String × Nat)} {ad : Nat → Nat} {lay : Nat → Nat} {X : Nat → Option va_E} {sz : Nat} {As : List Value} : FrameBlind (va_Pc As (sK D cy own L ad lay X sz)) := by
  intro a U g mk h
  obtain ⟨h0, h1, h2, h3, h4, h5⟩ := h
  exact ⟨h0, h1, tB.moved (u := U) (U := U.calling g mk a) (Vm.Alike.refl U.vm) (nest_same (u := U) (U := U.calling g mk a) rfl _ rfl h2.2.1) h2, kS.same (u := U) (U := U.calling g mk a) rfl h3, h4, h5⟩
section KSROWS
variable {p : Program} {l : Launch} {e : Env} {R : Room} {s : State} {m : MethodId} {args : Array Value} {below : List Frame} {meth : Method} {c : Code} {H : Heap} {locs : List Loc} {cells slots : Nat} {Q : State → Prop}
variable {cc bytes : ByteArray} {pc nL maxL mc ms n index count : Nat} {ls : Array Slot} {ST rest As : List Value} {D : va_G} {cy : Nat → ClassId} {lay : Nat → Nat} {X : Nat → Option va_E} {A : Nat → Prop} {H0 : Heap} {Ts ws : List Cond} {own ow Cn owner host : String} {x y : MethodName} {ret : Option FieldType} {rm : Room} {b : Addr} {tys : List (ClassId × FieldType)} {L : List (Nat × String × Nat)} {ad : Nat → Nat}
variable {Qc : Array Value → State → Outcome → State → Prop} {free : Addr → Prop}
theorem sk_ofW {ws' : List Cond} {maxL : Nat} {sz : Nat} {Qc : Nat → Array Value → State → Outcome → State → Prop} (hy : plainName y.cls = true) (hw : ws = Cond.code y cc maxL ret :: ws') (hnl : (lg_sl As).length ≤ maxL) (hoo : y.cls = own)
    (body : ∀ (p : Program) (e : Env) (s : State) (m : MethodId) (args : Array Value) (below : List Frame) (meth : Method) (c : Code) (ls : Array Slot), CallFix p m c cc maxL s args ws own → meth.sig.returnType = ret → meth.locks = false → tB D cy (gA lay X s.heap.size) s s.heap → kS own L ad (gA lay X s.heap.size) s s.heap → gG D lay X (gA lay X s.heap.size) s.heap s.heap [] → lv_has ls maxL (lv_args 0 As) →
      W p l e rm s m args below meth c s.heap [] 0 0 (MQ below (Qc s.heap.size) args s mc ms (gA lay X s.heap.size)) (F0 m 0 ls [])) : Met l y ws rm (va_Pc As (sK D cy own L ad lay X sz)) (Qc sz) mc ms (gA lay X sz) := by
  refine Met.ofW (cc := cc) (maxL := maxL) (ret := ret) hy hw ?_
  intro p e s m args below meth c s₁ B hml hv
  obtain ⟨rfl, hsz, hT, hK, hP, hI⟩ := hv
  subst hsz
  have hl := lv_entry As (n := maxL) hnl
  rw [lg_entry_eq]
  have hown : s.vm.findClass y.cls = some m.cls := findClass_of_methodNamed B.named
  rw [hoo] at hown
  exact body p e s m As.toArray below meth c _ ⟨B.exec, B.bytes, hml, hown, atoms_spec (ws := ws) B.pre⟩ B.returns B.notSynchronized hT hK ⟨hP, gI_self hI, va_S.rf⟩ hl
theorem sK_next {U : State} (hT : tB D cy A s s.heap) (hK : kS ow L ad A s s.heap) (G : gG D lay X A s.heap H locs) (hA : ∀ q, s.heap.size ≤ q → A q) (hU : U.heap = H) (hW : s.WarmedH U.vm) : sK D cy ow L ad lay X H.size U := by
  refine ⟨by rw [hU], ?_, ?_, by rw [hU]; exact G.1, gI_weak G.2.1 (fun _ _ => trivial)⟩
  · rw [hU]
    exact ((hT.moved hW.alike (nest_warm hW _ rfl hT.2.1)).kept G.2.2.2.1).narrow (gA_in G hA)
  · rw [hU]
    exact ((hK.warm hW).kept G.2.2.2.1).narrow (gA_in G hA)
theorem sk_runV (hC : CallFix p m c cc nL s args Ts own) (hT : tB D cy A s s.heap) (hA : ∀ q, s.heap.size ≤ q → A q) (G : gG D lay X A s.heap H locs) (hK : kS ow L ad A s s.heap) (hM : Met l y ws rm (va_Pc (.ref b :: As) (sK D cy ow L ad lay X H.size)) Qc mc ms free) (cw : CallW R s args own Cn index y bytes maxL ret ws rm mc ms n) (hrv : ∃ cell : Cell, H[b]? = some cell ∧ cell.vm.isStatics = false ∧ s.vm.findClass Cn = some cell.cls)
    (hn : As.length = n) (hls : ls.size = nL) (hst : ST = As.reverse ++ .ref b :: rest) (hW : (rest.map fun v => v.category).sum ≤ 8) (hdg : decode cc pc = .ok (.invokevirtual index, 3)) (hf : cells + mc ≤ R.cells ∧ slots + ms ≤ R.slots) :
    va_Run p l e R s m args below meth c H locs cells slots mc ms (F0 m pc ls ST) rest (Qc (.ref b :: As).toArray) free :=
  va_runV hC hM cw ⟨sK_blind, hrv, fun U hU hW => ⟨rfl, sK_next hT hK G hA hU hW⟩⟩ rfl hn hls hst (lv_room hW) hdg hf
theorem sk_runS (hC : CallFix p m c cc nL s args Ts own) (hT : tB D cy A s s.heap) (hA : ∀ q, s.heap.size ≤ q → A q) (G : gG D lay X A s.heap H locs) (hK : kS ow L ad A s s.heap) (hM : Met l y ws rm (va_Pc As (sK D cy ow L ad lay X H.size)) Qc mc ms free) (cw : CallB R s args own index y bytes maxL ret ws rm mc ms n ∧ (Cond.static y).before args s = true)
    (hn : As.length = n) (hls : ls.size = nL) (hst : ST = As.reverse ++ rest) (hW : (rest.map fun v => v.category).sum ≤ 8) (hdg : decode cc pc = .ok (.invokestatic index, 3)) (hf : cells + mc ≤ R.cells ∧ slots + ms ≤ R.slots) :
    va_Run p l e R s m args below meth c H locs cells slots mc ms (F0 m pc ls ST) rest (Qc As.toArray) free :=
  va_runS hC hM cw ⟨sK_blind, fun U hU hW => ⟨rfl, sK_next hT hK G hA hU hW⟩⟩ rfl hn hls hst (lv_room hW) hdg hf
theorem va_ldcwS (hC : CallFix p m c cc nL s args Ts own) {tx : String} {q : Nat} (hZ : vk_R own index tx q s) (hdg : decode cc pc = .ok (.ldc_w index, 3))
    (k : W p l e R s m args below meth c H locs cells slots Q (F0 m (pc + 3) ls (.ref q :: rest))) : W p l e R s m args below meth c H locs cells slots Q (F0 m pc ls rest) := by
  intro T hT X
  obtain ⟨t, a1, b1⟩ := k T hT X
  exact ⟨t, X.ldcStringW hC.1 hC.2.2.2.1 (text := tx) (a := q) hZ.1 hZ.2 (g := F0 m pc ls rest) rfl (by rw [hC.2.1]; exact hdg) t a1, b1⟩
end KSROWS
/-- the class's texts -/
def cTx : List (Nat × String × Nat) := [(364, "-", 1), (400, " on day ", 8), (405, " in ", 4), (407, ", ", 2), (543, "asked", 5), (545, "fixed", 5), (547, "played", 6), (548, "lost", 4), (550, ": ", 2), (552, ",", 1)]
/-- the class's world as a general one -/
def agX (cy : Nat → ClassId) (lay : Nat → Nat) (σ : MS) : Nat → Option va_E := fun k => if k < 87 then some (agR cy lay (σ k) k) else none
theorem agX_at {cy : Nat → ClassId} {lay : Nat → Nat} {σ : MS} {k : Nat} (h : k < 87) : agX cy lay σ k = some (agR cy lay (σ k) k) := if_pos h
theorem agX_no {cy : Nat → ClassId} {lay : Nat → Nat} {σ : MS} {k : Nat} (h : 87 ≤ k) : agX cy lay σ k = none := if_neg (by omega)
theorem ag_g {D : va_G} {cy : Nat → ClassId} {lay : Nat → Nat} {σ : MS} {A : Nat → Prop} {H0 H : Heap} {locs : List Loc} (G : agG D cy lay σ A H0 H locs) : gG D lay (agX cy lay σ) A H0 H locs := by
  have key : ∀ k e, agX cy lay σ k = some e → k < 87 ∧ e = agR cy lay (σ k) k := fun k e h => by
    by_cases c : k < 87
    · rw [agX_at c] at h
      cases h
      exact ⟨c, rfl⟩
    · rw [agX_no (by omega)] at h
      cases h
  refine ⟨fun k e _ h => ?_, ⟨fun i j e f _ _ hi hj he => ?_, fun k e _ h => ?_⟩, G.2.2⟩
  · obtain ⟨c, rfl⟩ := key k e h
    exact G.1 k _ (ag_at c rfl)
  · obtain ⟨c1, rfl⟩ := key i e hi
    obtain ⟨c2, rfl⟩ := key j f hj
    exact G.2.1.1 i j _ _ (ag_at c1 rfl) (ag_at c2 rfl) he
  · obtain ⟨c, rfl⟩ := key k e h
    exact G.2.1.2 k _ (ag_at c rfl)
theorem g_ag {D : va_G} {cy : Nat → ClassId} {lay L : Nat → Nat} {σ : MS} {X : Nat → Option va_E} {A : Nat → Prop} {H0 H : Heap} {locs : List Loc} (hX : ∀ k, k < 87 → X k = some (agR cy lay (σ k) k)) (hL : ∀ k, k < 87 → L k = lay k) (G : gG D L X A H0 H locs) : agG D cy lay σ A H0 H locs := by
  refine ⟨fun k q hq => ?_, ⟨fun i j p q hi hj he => ?_, fun k q hq => ?_⟩, G.2.2⟩
  · obtain ⟨hk, rfl⟩ := ag_of hq
    have := G.1 k _ (by omega) (hX k hk)
    rw [hL k hk] at this
    exact this
  · obtain ⟨hi2, rfl⟩ := ag_of hi
    obtain ⟨hj2, rfl⟩ := ag_of hj
    exact G.2.1.1 i j _ _ (by omega) (by omega) (hX i hi2) (hX j hj2) (by rw [hL i hi2, hL j hj2]; exact he)
  · obtain ⟨hk, rfl⟩ := ag_of hq
    have := G.2.1.2 k _ (by omega) (hX k hk)
    rw [hL k hk] at this
    exact this
theorem agX_A {cy : Nat → ClassId} {lay : Nat → Nat} {σ : MS} {n q : Nat} : agA lay n q ↔ gA lay (agX cy lay σ) n q := by
  constructor
  · rintro (⟨k, hk, rfl⟩ | h)
    · exact Or.inl ⟨k, _, by omega, agX_at hk, rfl⟩
    · exact Or.inr h
  · rintro (⟨k, e, hk, h, rfl⟩ | h)
    · by_cases c : k < 87
      · exact Or.inl ⟨k, c, rfl⟩
      · rw [agX_no (by omega)] at h
        cases h
    · exact Or.inr h
