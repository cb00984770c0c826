theorem va_AOA.moved {ty : FieldType} {u U : State} (hvm : u.vm.Alike U.vm) (h : va_AOA ty u) : va_AOA ty U := by
  unfold va_AOA Cond.before Cond.holds at h ⊢
  simp only [Cond.value] at h ⊢
  rw [hvm.findClass, hvm.findClass]
  have hb : U.vm.bare = u.vm.bare := by first | exact hvm.bare_eq | exact hvm.bare_eq.symm
  have hi : ∀ P : Class → Bool, (∀ vm : Vm, vm.bare.classes.findIdx? P = vm.classes.findIdx? P) → U.vm.classes.findIdx? P = u.vm.classes.findIdx? P := fun P hP => (hP U.vm).symm.trans ((congrArg (fun v : Vm => v.classes.findIdx? P) hb).trans (hP u.vm))
  cases hc : u.vm.findClass (FieldType.array ty).toString with
  | none => rw [hc] at h; simp at h
  | some comp =>
    rw [hc] at h
    simp only [Option.bind_some] at h ⊢
    rw [hi _ (fun vm => by simp only [Vm.bare, Array.findIdx?_map]; rfl)]
    generalize (Array.findIdx? _ u.vm.classes) = ix at h ⊢
    cases ix with
    | none => simp at h
    | some c =>
      simp only [Option.bind_some] at h ⊢
      cases hk : u.vm.classes[c]? with
      | none => rw [hk] at h; simp at h
      | some k =>
        obtain ⟨k', hk', he⟩ := hvm.2.2 _ _ hk
        rw [hk] at h
        rw [hk']
        simp only [Option.map_some] at h ⊢
        rw [he]
        exact h
def newL : List String := ["FirstdanceAgency$Player", "FirstdanceAgency$Song", "FirstdanceAgency$Band", "FirstdanceAgency$Wedding", "java/lang/Object"]
/-- what the tables say, for bodies that make objects and rows -/
def gT (D : va_G) (cy : Nat → ClassId) (U : State) : Prop := va_K D vwCl (fdT cy) U ∧ (∀ w ∈ nestL, va_Nw w U) ∧ (∀ C ∈ newL, va_AO C U) ∧ va_AOA .int U
theorem gT_next {D : va_G} {cy : Nat → ClassId} {s U : State} (hT : gT D cy s) (hW : s.WarmedH U.vm) : gT D cy U :=
  ⟨va_K.moved hW.alike hT.1, fun w hw => nest_warm hW w (nestL_ok w hw) (hT.2.1 w hw), fun C hC => (hT.2.2.1 C hC).moved hW.alike, hT.2.2.2.moved hW.alike⟩
theorem gT_same {D : va_G} {cy : Nat → ClassId} {s U : State} (hT : gT D cy s) (hv : s.vm = U.vm) (ha : s.vm.Alike U.vm) : gT D cy U :=
  ⟨va_K.moved ha hT.1, fun w hw => nest_same hv w (nestL_ok w hw) (hT.2.1 w hw), fun C hC => (hT.2.2.1 C hC).moved ha, hT.2.2.2.moved ha⟩
def gA (lay : Nat → Nat) (X : Nat → Option va_E) (n : Nat) : Nat → Prop := fun q => (∃ k e, k < 128 ∧ X k = some e ∧ q = lay k) ∨ n ≤ q
def gIn (D : va_G) (cy : Nat → ClassId) (lay : Nat → Nat) (X : Nat → Option va_E) (sz : Nat) (U : State) : Prop := U.heap.size = sz ∧ gT D cy U ∧ gP D lay X U.heap ∧ gI (fun _ => True) lay X
abbrev GY : Type := (Nat → Nat) × (Nat → Option va_E)
def gO (D : va_G) (A : Nat → Prop) (Y : GY) (t : State) : Prop := gP D Y.1 Y.2 t.heap ∧ gI A Y.1 Y.2
theorem gI_self {A : Nat → Prop} {lay : Nat → Nat} {X : Nat → Option va_E} {n : Nat} (h : gI A lay X) : gI (gA lay X n) lay X := ⟨h.1, fun k e hk hX => Or.inl ⟨k, e, hk, hX, rfl⟩⟩
theorem gI_weak {A B : Nat → Prop} {lay : Nat → Nat} {X : Nat → Option va_E} (h : gI A lay X) (hAB : ∀ q, A q → B q) : gI B lay X := ⟨h.1, fun k e hk hX => hAB _ (h.2 k e hk hX)⟩
theorem gA_in {A : Nat → Prop} {lay : Nat → Nat} {X : Nat → Option va_E} {H0 H : Heap} {locs : List Loc} {D : va_G} (G : gG D lay X A H0 H locs) (hA : ∀ q, H0.size ≤ q → A q) : ∀ q, gA lay X H.size q → A q := by
  intro q h
  rcases h with ⟨k, e, hk, hX, rfl⟩ | h
  · exact G.2.1.2 k e hk hX
  · exact hA q (Nat.le_trans G.2.2.1 h)
theorem gIn_blind {D : va_G} {cy : Nat → ClassId} {lay : Nat → Nat} {X : Nat → Option va_E} {sz : Nat} {As : List Value} : FrameBlind (va_Pc As (gIn D cy lay X sz)) := by
  intro a U g mk h
  obtain ⟨h0, h1, h2, h3, h4⟩ := h
  exact ⟨h0, h1, gT_same (U := U.calling g mk a) h2 rfl (Vm.Alike.refl U.vm), h3, h4⟩
/-- one cell twice -/
theorem gU_gU {α : Type} {f : Nat → α} {k : Nat} {v w : α} : gU (gU f k v) k w = gU f k w := by
  funext i
  by_cases h : i = k
  · subst h; rw [gU_eq, gU_eq]
  · rw [gU_ne h, gU_ne h, gU_ne h]
theorem gU_self {α : Type} {f : Nat → α} {k : Nat} {v : α} (h : f k = v) : gU f k v = f := by
  funext i
  by_cases hi : i = k
  · subst hi; rw [gU_eq, h]
  · rw [gU_ne hi]
theorem gG_up2 {D : va_G} {lay : Nat → Nat} {X : Nat → Option va_E} {A : Nat → Prop} {H0 H : Heap} {locs : List Loc} {k : Nat} {a b : Option va_E} (G : gG D lay (gU (gU X k a) k b) A H0 H locs) : gG D lay (gU X k b) A H0 H locs := by
  rw [gU_gU] at G
  exact G
section GNEW
variable {p : Program} {l : Launch} {e : Env} {R : Room} {s : State} {m : MethodId} {args : Array Value} {below : List Frame} {meth : Method} {c : Code} {H : Heap} {locs : List Loc} {cells slots : Nat} {Q : State → Prop}
variable {cc bytes : ByteArray} {pc nL maxL mc ms n index : Nat} {ls : Array Slot} {ST rest As : List Value} {D : va_G} {cy : Nat → ClassId} {lay : Nat → Nat} {X : Nat → Option va_E} {A : Nat → Prop} {H0 : Heap} {Ts ws : List Cond} {own host : String} {y : MethodName} {ret : Option FieldType} {rm : Room} {b : Addr}
variable {Qc : Array Value → State → Outcome → State → Prop} {free : Addr → Prop}
theorem g_newa_i (hC : CallFix p m c cc nL s args Ts own) (hT : gT D cy s) (G : gG D lay X A H0 H locs) (hA : ∀ q, H0.size ≤ q → A q) {k : Nat} (hX : X k = none) (harr : Cond.arrayClass .int ∈ Ts) {v : Int32} {N : Nat} (hn : ¬ v < 0) (hN : v.toNatClampNeg = N) (hb : N * componentBytes .int ≤ 536870912) (hcells : cells + 1 ≤ R.cells) (hslots : slots + N ≤ R.slots) (hdg : decode cc pc = .ok (.newarray .int, 2))
    (kk : ∀ (q : Nat) (H1 : Heap), gG D (gU lay k q) (gU X k (some (.inl (cy 0, N, .inl (fun _ => 0))))) A H0 H1 locs → W p l e R s m args below meth c H1 locs (cells + 1) (slots + N) Q (F0 m (pc + 2) ls (.ref (gU lay k q k) :: rest))) : W p l e R s m args below meth c H locs cells slots Q (F0 m pc ls (.int v :: rest)) :=
  va_newa (atype := .int) (ty := .int) hC.1 hC.2.1 (hC.2.2.2.2 _ harr) rfl hT.1 (gP_list G.1) (gI_list G.2.1) G.2.2 hA (a0 := (N, .inl (fun _ => 0))) (fun _ => rfl) hn hN hb hcells hslots hdg (fun q cA H1 hK' hP hD hS => by
    have h1 := (hK'.2 (fdT cy).length (cA, .int) (by rw [List.getElem?_append_right (Nat.le_refl _), Nat.sub_self]; rfl)).2
    have h2 := (hT.1.2 0 (cy 0, .int) rfl).2
    have hc : cA = cy 0 := Option.some.inj (Eq.trans (Eq.symm h1) h2)
    subst hc
    have h := kk q H1 ⟨gP_new hX hP, gI_new G.2.1 hX hD, hS⟩
    rw [gU_eq] at h
    exact h)
theorem g_newa_z (hC : CallFix p m c cc nL s args Ts own) (hT : gT D cy s) (G : gG D lay X A H0 H locs) (hA : ∀ q, H0.size ≤ q → A q) {k : Nat} (hX : X k = none) (harr : Cond.arrayClass .boolean ∈ Ts) {v : Int32} {N : Nat} (hn : ¬ v < 0) (hN : v.toNatClampNeg = N) (hb : N * componentBytes .boolean ≤ 536870912) (hcells : cells + 1 ≤ R.cells) (hslots : slots + N ≤ R.slots) (hdg : decode cc pc = .ok (.newarray .boolean, 2))
    (kk : ∀ (q : Nat) (H1 : Heap), gG D (gU lay k q) (gU X k (some (.inl (cy 1, N, .inl (fun _ => 0))))) A H0 H1 locs → W p l e R s m args below meth c H1 locs (cells + 1) (slots + N) Q (F0 m (pc + 2) ls (.ref (gU lay k q k) :: rest))) : W p l e R s m args below meth c H locs cells slots Q (F0 m pc ls (.int v :: rest)) :=
  va_newa (atype := .boolean) (ty := .boolean) hC.1 hC.2.1 (hC.2.2.2.2 _ harr) rfl hT.1 (gP_list G.1) (gI_list G.2.1) G.2.2 hA (a0 := (N, .inl (fun _ => 0))) (fun _ => rfl) hn hN hb hcells hslots hdg (fun q cA H1 hK' hP hD hS => by
    have h1 := (hK'.2 (fdT cy).length (cA, .boolean) (by rw [List.getElem?_append_right (Nat.le_refl _), Nat.sub_self]; rfl)).2
    have h2 := (hT.1.2 1 (cy 1, .boolean) rfl).2
    have hc : cA = cy 1 := Option.some.inj (Eq.trans (Eq.symm h1) h2)
    subst hc
    have h := kk q H1 ⟨gP_new hX hP, gI_new G.2.1 hX hD, hS⟩
    rw [gU_eq] at h
    exact h)
theorem g_newq (hC : CallFix p m c cc nL s args Ts own) (hT : gT D cy s) (G : gG D lay X A H0 H locs) (hA : ∀ q, H0.size ≤ q → A q) {k : Nat} (hX : X k = none) {C : String} {t : Nat} (ht : (fdT cy)[t]? = some (cy t, .object C)) (hCl : C ∈ newL) (hlk : Cond.classLink own index C ∈ Ts) {v : Int32} {N : Nat} (hn : ¬ v < 0) (hN : v.toNatClampNeg = N) (hb : N * 4 ≤ 536870912) (hcells : cells + 1 ≤ R.cells) (hslots : slots + N ≤ R.slots) (hdg : decode cc pc = .ok (.anewarray index, 3))
    (kk : ∀ (q : Nat) (H1 : Heap), gG D (gU lay k q) (gU X k (some (.inl (cy t, N, .inr (.inr (.inr (.inr (fun _ => none)))))))) A H0 H1 locs → W p l e R s m args below meth c H1 locs (cells + 1) (slots + N) Q (F0 m (pc + 3) ls (.ref (gU lay k q k) :: rest))) : W p l e R s m args below meth c H locs cells slots Q (F0 m pc ls (.int v :: rest)) :=
  va_newq hC.1 hC.2.1 hC.2.2.2.1 (hC.2.2.2.2 _ hlk) (hT.2.2.1 C hCl) hT.1 (gP_list G.1) (gI_list G.2.1) G.2.2 hA hn hN hb hcells hslots hdg (fun q cA H1 hK' hP hD hS => by
    obtain ⟨-, -, -, -, -, h1⟩ := (hK'.2 (fdT cy).length (cA, .object C) (by rw [List.getElem?_append_right (Nat.le_refl _), Nat.sub_self]; rfl)).2
    obtain ⟨-, -, -, -, -, h2⟩ := (hT.1.2 t (cy t, .object C) ht).2
    have hc : cA = cy t := Option.some.inj (h1.symm.trans h2)
    subst hc
    have h := kk q H1 ⟨gP_new hX hP, gI_new G.2.1 hX hD, hS⟩
    rw [gU_eq] at h
    exact h)
/-- a constructor, called -/
theorem g_runI (hC : CallFix p m c cc nL s args Ts own) (hT : gT D cy s) (G : gG D lay X A H0 H locs) (hM : Met l y ws rm (va_Pc (.ref b :: As) (gIn D cy lay X H.size)) Qc mc ms free) (cw : CallB R s args own index y bytes maxL none ws rm mc ms n ∧ y.name = "<init>" ∧ (Cond.instanceMethod y).before args s = true)
    (hn : As.length = n) (hls : ls.size = nL) (hst : ST = As.reverse ++ .ref b :: rest) (hW : (rest.map fun v => v.category).sum ≤ 8) (hdg : decode cc pc = .ok (.invokespecial index, 3)) (hf : cells + mc ≤ R.cells ∧ slots + ms ≤ R.slots) :
    va_Run p l e R s m args below meth c H locs cells slots mc ms (F0 m pc ls ST) rest (Qc (.ref b :: As).toArray) free :=
  va_runI hC hM cw ⟨gIn_blind, fun U hU hW => ⟨rfl, by rw [hU], gT_next hT hW, by rw [hU]; exact G.1, gI_weak G.2.1 (fun _ _ => trivial)⟩⟩ rfl hn hls hst (lv_room hW) hdg hf
theorem g_runIN (hC : CallFix p m c cc nL s args Ts own) (hT : gT D cy s) (G : gG D lay X A H0 H locs) (hM : Met l y ws rm (va_Pc (.ref b :: As) (gIn D cy lay X H.size)) Qc mc ms free) (cw : va_CN R s args own index y host bytes maxL none ws rm mc ms n ∧ y.name = "<init>" ∧ (Cond.instanceMethod y).before args s = true)
    (hn : As.length = n) (hls : ls.size = nL) (hst : ST = As.reverse ++ .ref b :: rest) (hW : (rest.map fun v => v.category).sum ≤ 8) (hdg : decode cc pc = .ok (.invokespecial index, 3)) (hf : cells + mc ≤ R.cells ∧ slots + ms ≤ R.slots) :
    va_Run p l e R s m args below meth c H locs cells slots mc ms (F0 m pc ls ST) rest (Qc (.ref b :: As).toArray) free :=
  va_runIN hC hM cw ⟨gIn_blind, fun U hU hW => ⟨rfl, by rw [hU], gT_next hT hW, by rw [hU]; exact G.1, gI_weak G.2.1 (fun _ _ => trivial)⟩⟩ rfl hn hls hst (lv_room hW) hdg hf
theorem g_v {post : GY → Prop} {a : Array Value} (G : gG D lay X A H0 H locs) (hA : ∀ q, H0.size ≤ q → A q) (hr : va_Run p l e R s m args below meth c H locs cells slots mc ms (F0 m pc ls ST) rest (va_Qv post (gO D (gA lay X H.size)) (gA lay X H.size) a) (gA lay X H.size))
    (kk : ∀ (Y : GY) (H1 : Heap) (locs1 : List Loc), post Y → gG D Y.1 Y.2 A H0 H1 locs1 → W p l e R s m args below meth c H1 locs1 (cells + mc) (slots + ms) Q (F0 m (pc + 3) ls rest)) : W p l e R s m args below meth c H locs cells slots Q (F0 m pc ls ST) :=
  va_callv hr G.2.2 (fun q _ h => gA_in G hA q h) (gA_in G hA) (fun u t H1 locs1 ht hvm hw hB hz hk hS => kk u H1 locs1 hw ⟨by rw [← ht]; exact hB.1, gI_weak hB.2 (gA_in G hA), hS⟩)
theorem g_ofW {ws' : List Cond} {maxL : Nat} {sz : Nat} {Qc : Nat → Array Value → State → Outcome → State → Prop} (hy : plainName y.cls = true) (hw : ws = Cond.code y cc maxL ret :: ws') (hnl : (lg_sl As).length ≤ maxL) (hoo : y.cls = own)
    (body : ∀ (p : Program) (e : Env) (s : State) (m : MethodId) (args : Array Value) (below : List Frame) (meth : Method) (c : Code) (ls : Array Slot), CallFix p m c cc maxL s args ws own → meth.sig.returnType = ret → meth.locks = false → meth.name = y.name → gT D cy s → gG D lay X (gA lay X s.heap.size) s.heap s.heap [] → lv_has ls maxL (lv_args 0 As) →
      W p l e rm s m args below meth c s.heap [] 0 0 (MQ below (Qc s.heap.size) args s mc ms (gA lay X s.heap.size)) (F0 m 0 ls [])) : Met l y ws rm (va_Pc As (gIn D cy lay X sz)) (Qc sz) mc ms (gA lay X sz) := by
  refine Met.ofW (cc := cc) (maxL := maxL) (ret := ret) hy hw ?_
  intro p e s m args below meth c s₁ B hml hv
  obtain ⟨rfl, hsz, hT, hP, hI⟩ := hv
  subst hsz
  have hl := lv_entry As (n := maxL) hnl
  rw [lg_entry_eq]
  have hown : s.vm.findClass y.cls = some m.cls := findClass_of_methodNamed B.named
  rw [hoo] at hown
  exact body p e s m As.toArray below meth c _ ⟨B.exec, B.bytes, hml, hown, atoms_spec (ws := ws) B.pre⟩ B.returns B.notSynchronized (name_of_methodNamed B.named B.method).1 hT ⟨hP, gI_self hI, va_S.rf⟩ hl
theorem g_vret {post : GY → Prop} {Y : GY} {X0 : Nat → Option va_E} {lay0 : Nat → Nat} {locs : List Loc} (hC : CallFix p m c cc nL s args Ts own) (hr : meth.sig.returnType = none) (hlocks : meth.locks = false) (G : gG D Y.1 Y.2 (gA lay0 X0 s.heap.size) s.heap H locs) (h : post Y) (hdg : decode cc pc = .ok (.return_, 1)) :
    W p l e R s m args below meth c H locs cells slots (MQ below (va_Qv post (gO D (gA lay0 X0 s.heap.size)) (gA lay0 X0 s.heap.size)) args s cells slots (gA lay0 X0 s.heap.size)) (F0 m pc ls []) :=
  W.vret hC.1 hC.2.1 hr (fun t ht hW => ⟨⟨Y, rfl, h, by rw [ht]; exact G.1, G.2.1⟩, G.2.2.F ht⟩) G.2.2.2.2 hdg hlocks
end GNEW
