theorem ne_t {x y : Int32} (h : ¬ x ≠ y) : x = y := Decidable.not_not.mp h
theorem tsw_out {x : Int32} {hi : Int} (n : Nat) (hh : hi = (n : Int) - 1) (hn : n < 2 ^ 31) (h : ∀ k : Nat, k < n → ¬ x = Int32.ofNat k) : x.toInt < 0 ∨ hi < x.toInt := by
  rcases Int.lt_or_le x.toInt 0 with h0 | h0
  · exact Or.inl h0
  · rcases Int.lt_or_le hi x.toInt with h1 | h1
    · exact Or.inr h1
    · exfalso
      obtain ⟨j, hj, e⟩ := nI_of (x := x) (fun z => by
        have := Int32.lt_iff_toInt_lt.mp z
        rw [Int32.toInt_zero] at this
        omega)
      have e2 : x.toInt = (j : Int) := by rw [e]; exact nI_toInt hj
      exact h j (by omega) e
section AGT
variable {p : Program} {l : Launch} {e : Env} {R : Room} {s : State} {m : MethodId} {args : Array Value} {below : List Frame} {meth : Method} {c : Code} {H : Heap} {locs : List Loc} {cells slots : Nat} {Q : State → Prop}
variable {cc bytes : ByteArray} {pc nL maxL mc ms kc ks n index : Nat} {ls : Array Slot} {ST rest As : List Value} {D : va_G} {cy : Nat → ClassId} {lay : Nat → Nat} {σ : MS} {Ts ws : List Cond} {own Cn host : String} {y : MethodName} {ret : Option FieldType} {rm : Room} {b : Addr}
variable {Qc : Array Value → State → Outcome → State → Prop} {free : Addr → Prop} {pex : String → MS → Prop}
theorem ag_lret {post : Int64 → MS → Prop} {v : Int64} {locs : List Loc} (hC : CallFix p m c cc nL s args Ts own) (hr : meth.sig.returnType = some .long) (hlocks : meth.locks = false) (G : agG D cy lay σ (agA lay s.heap.size) s.heap H locs) (h : post v σ) (hdg : decode cc pc = .ok (.lreturn, 1)) :
    W p l e R s m args below meth c H locs cells slots (MQ below (va_Ql post (agO D cy lay) (agA lay s.heap.size)) args s cells slots (agA lay s.heap.size)) (F0 m pc ls [.long v]) :=
  W.lret (v := v) hC.1 hC.2.1 hr (fun t ht hW => ⟨⟨v, σ, rfl, h, agO_G G ht⟩, G.2.2.F ht⟩) G.2.2.2.2 hdg hlocks
/-- what a method that throws leaves: the class's name and the numbers of the world -/
def agXC (D : va_G) (cy : Nat → ClassId) (lay : Nat → Nat) (pex : String → MS → Prop) (sz : Nat) : String → State → State → Prop := vx_X (S := String × MS) (fun u => pex u.1 u.2) (fun E u t => u.1 = E ∧ agO D cy lay u.2 t) (agA lay sz)
theorem agXC_of {s t : State} {E : String} {locs : List Loc} (G : agG D cy lay σ (agA lay s.heap.size) s.heap H locs) (h : pex E σ) (hz : H.size ≤ t.heap.size) (hq : ∀ q : Nat, q < H.size → t.heap[q]? = H[q]?) : agXC D cy lay pex s.heap.size E s t :=
  ⟨(E, σ), h, ⟨rfl, G.1.kept (fun k q hk => hq q.1 (G.1 k q hk).lt), agD_t G.2.1⟩, Nat.le_trans G.2.2.1 hz, fun q h1 h2 => by rw [hq q (Nat.lt_of_lt_of_le h1 G.2.2.1)]; exact G.2.2.2.1 q h1 h2⟩
theorem ag_runVT (hC : CallFix p m c cc nL s args Ts own) (hT : agT D cy lay s) (G : agG D cy lay σ (agA lay s.heap.size) s.heap H locs) {XC : String → State → State → Prop} (hM : vx_Met l y ws rm (va_Pc (.ref b :: As) (agI D cy lay σ H.size)) Qc XC kc ks free) (cw : CallW R s args own Cn index y bytes maxL ret ws rm kc ks n) (hrv : ∃ cell : Cell, H[b]? = some cell ∧ cell.vm.isStatics = false ∧ s.vm.findClass Cn = some cell.cls)
    (hn : As.length = n) (hls : ls.size = nL) (hst : ST = As.reverse ++ .ref b :: rest) (hW : (rest.map fun v => v.category).sum ≤ 8) (hdg : decode cc pc = .ok (.invokevirtual index, 3)) (hf : cells + kc ≤ R.cells ∧ slots + ks ≤ R.slots) :
    vx_Run p l e R s m args below meth c H locs cells slots kc ks (F0 m pc ls ST) rest (Qc (.ref b :: As).toArray) XC free :=
  vx_runV hC hM cw ⟨agI_blind, hrv, fun U hU hW => ⟨rfl, agI_next hT G hU hW⟩⟩ rfl hn hls hst (lv_room hW) hdg hf
theorem ag_runST (hC : CallFix p m c cc nL s args Ts own) (hT : agT D cy lay s) (G : agG D cy lay σ (agA lay s.heap.size) s.heap H locs) {XC : String → State → State → Prop} (hM : vx_Met l y ws rm (va_Pc As (agI D cy lay σ H.size)) Qc XC kc ks free) (cw : CallB R s args own index y bytes maxL ret ws rm kc ks n ∧ (Cond.static y).before args s = true)
    (hn : As.length = n) (hls : ls.size = nL) (hst : ST = As.reverse ++ rest) (hW : (rest.map fun v => v.category).sum ≤ 8) (hdg : decode cc pc = .ok (.invokestatic index, 3)) (hf : cells + kc ≤ R.cells ∧ slots + ks ≤ R.slots) :
    vx_Run p l e R s m args below meth c H locs cells slots kc ks (F0 m pc ls ST) rest (Qc As.toArray) XC free :=
  vx_runS hC hM cw ⟨agI_blind, fun U hU hW => ⟨rfl, agI_next hT G hU hW⟩⟩ rfl hn hls hst (lv_room hW) hdg hf
/-- thrown by a callee: it goes on to the caller -/
theorem ag_outT {E : String} {ce : Cell} {q9 : Addr} {u : String × MS} {t0 : State} (htab : ∀ x ∈ c.exceptionTable.toList, False) (hlocks : meth.locks = false) (hS : va_S (agA lay s.heap.size) s.heap H locs) (ht : t0.heap = H) (hp : pex u.1 u.2) (hB : u.1 = E ∧ agO D cy lay u.2 t0) (hcell : H[q9]? = some ce) (hv : ce.vm = .none) (hcl : s.vm.findClass E = some ce.cls) (hc : cells ≤ mc) (hs : slots ≤ ms) :
    vx_W p l e R s m args below meth c H locs cells slots (vx_MQ below Qc (agXC D cy lay pex s.heap.size) args s mc ms (agA lay s.heap.size)) (F0 m pc ls rest) q9 := by
  obtain ⟨E0, σ0⟩ := u
  obtain ⟨e1, hO⟩ := hB
  dsimp only at e1
  subst e1
  exact vx_out (fun x hx => (htab x hx).elim) hlocks hcell hv hcl (fun t h1 h2 => agXC_of (H := H) (locs := locs) ⟨by rw [← ht]; exact hO.1, agD_of hO.2, hS⟩ hp (by rw [h1]; exact Nat.le_refl _) (fun q _ => by rw [h1])) hS.2.2 hc hs
theorem ag_iT {post : Int32 → MS → Prop} {a : Array Value} (G : agG D cy lay σ (agA lay s.heap.size) s.heap H locs) (htab : ∀ x ∈ c.exceptionTable.toList, False) (hlocks : meth.locks = false) (hr : vx_Run p l e R s m args below meth c H locs cells slots kc ks (F0 m pc ls ST) rest (va_Qi post (agO D cy lay) (agA lay H.size) a) (agXC D cy lay pex H.size) (agA lay H.size)) (hc : cells + kc ≤ mc) (hs : slots + ks ≤ ms)
    (kk : ∀ (r : Int32) (σ' : MS) (H1 : Heap) (locs1 : List Loc), post r σ' → agG D cy lay σ' (agA lay s.heap.size) s.heap H1 locs1 → W p l e R s m args below meth c H1 locs1 (cells + kc) (slots + ks) (vx_MQ below Qc (agXC D cy lay pex s.heap.size) args s mc ms (agA lay s.heap.size)) (F0 m (pc + 3) ls (.int r :: rest))) : W p l e R s m args below meth c H locs cells slots (vx_MQ below Qc (agXC D cy lay pex s.heap.size) args s mc ms (agA lay s.heap.size)) (F0 m pc ls ST) :=
  vx_calli hr G.2.2 (fun q _ h => agA_le G.2.2.1 q h) (agA_le G.2.2.1) (fun q _ h => agA_le G.2.2.1 q h)
    (fun E ce q9 u t H1 locs1 ht hvm hp hB hz hk hS h1 h2 h3 => ag_outT htab hlocks hS ht hp hB h1 h2 h3 hc hs)
    (fun r u t H1 locs1 ht hvm hw hB hz hk hS => kk r u H1 locs1 hw ⟨by rw [← ht]; exact hB.1, agD_of hB.2, hS⟩)
theorem ag_vT {post : MS → Prop} {a : Array Value} (G : agG D cy lay σ (agA lay s.heap.size) s.heap H locs) (htab : ∀ x ∈ c.exceptionTable.toList, False) (hlocks : meth.locks = false) (hr : vx_Run p l e R s m args below meth c H locs cells slots kc ks (F0 m pc ls ST) rest (va_Qv post (agO D cy lay) (agA lay H.size) a) (agXC D cy lay pex H.size) (agA lay H.size)) (hc : cells + kc ≤ mc) (hs : slots + ks ≤ ms)
    (kk : ∀ (σ' : MS) (H1 : Heap) (locs1 : List Loc), post σ' → agG D cy lay σ' (agA lay s.heap.size) s.heap H1 locs1 → W p l e R s m args below meth c H1 locs1 (cells + kc) (slots + ks) (vx_MQ below Qc (agXC D cy lay pex s.heap.size) args s mc ms (agA lay s.heap.size)) (F0 m (pc + 3) ls rest)) : W p l e R s m args below meth c H locs cells slots (vx_MQ below Qc (agXC D cy lay pex s.heap.size) args s mc ms (agA lay s.heap.size)) (F0 m pc ls ST) :=
  vx_callv hr G.2.2 (fun q _ h => agA_le G.2.2.1 q h) (agA_le G.2.2.1) (fun q _ h => agA_le G.2.2.1 q h)
    (fun E ce q9 u t H1 locs1 ht hvm hp hB hz hk hS h1 h2 h3 => ag_outT htab hlocks hS ht hp hB h1 h2 h3 hc hs)
    (fun u t H1 locs1 ht hvm hw hB hz hk hS => kk u H1 locs1 hw ⟨by rw [← ht]; exact hB.1, agD_of hB.2, hS⟩)
/-- a contract of a method that may throw, out of the walk of its body -/
theorem ag_ofX {ws' : List Cond} {maxL : Nat} {sz : Nat} {Qc : Nat → Array Value → State → Outcome → State → Prop} (hy : plainName y.cls = true) (hw : ws = Cond.code y cc maxL ret :: ws') (hnl : (lg_sl As).length ≤ maxL) (hoo : y.cls = own)
    (body : ∀ (p : Program) (e : Env) (s : State) (m : MethodId) (args : Array Value) (below : List Frame) (meth : Method) (c : Code) (ls : Array Slot), CallFix p m c cc maxL s args ws own → meth.sig.returnType = ret → meth.locks = false → (∀ x ∈ c.exceptionTable.toList, False) → agT D cy lay s → agG D cy lay σ (agA lay s.heap.size) s.heap s.heap [] → lv_has ls maxL (lv_args 0 As) →
      W p l e rm s m args below meth c s.heap [] 0 0 (vx_MQ below (Qc s.heap.size) (agXC D cy lay pex s.heap.size) args s mc ms (agA lay s.heap.size)) (F0 m 0 ls [])) : vx_Met l y ws rm (va_Pc As (agI D cy lay σ sz)) (Qc sz) (agXC D cy lay pex sz) mc ms (agA lay sz) := by
  refine vx_ofW (cc := cc) (maxL := maxL) (ret := ret) hy hw ?_
  intro p e s m args below meth c s₁ B hml htab hv
  obtain ⟨rfl, hsz, hT, hP, hD⟩ := hv
  subst hsz
  have hl := lv_entry As (n := maxL) hnl
  rw [lg_entry_eq]
  have hown : s.vm.findClass y.cls = some m.cls := findClass_of_methodNamed B.named
  rw [hoo] at hown
  exact body p e s m As.toArray below meth c _ ⟨B.exec, B.bytes, hml, hown, atoms_spec (ws := ws) B.pre⟩ B.returns B.notSynchronized htab hT ⟨hP, agD_of hD, va_S.rf⟩ hl
/-- 'throw new E("text")' -/
theorem ag_throw (hl0 : l.stackTraces = false) (hC : CallFix p m c cc nL s args Ts own) (hT : agT D cy lay s) (G : agG D cy lay σ (agA lay s.heap.size) s.heap H locs) (htab : ∀ x ∈ c.exceptionTable.toList, False) (hlocks : meth.locks = false) (hls : ls.size = nL) {cls text : String} {names : List String} {ik is ic : Nat} (hcls : Bundle.fit cls = true) (hnames : ∀ n ∈ names, Bundle.fit n = true)
    (hk : Cond.classLink own ik cls ∈ Ts) (hini : Cond.initialized cls ∈ Ts) (hstr : (own, is, text) ∈ strL) (hat : ∀ w ∈ (vx_atS own ic cls names).filter goodWord, w ∈ Ts) (hall : ∀ w ∈ (vx_atS own ic cls names).filter (fun w => !goodWord w), w ∈ nestL) (hgood : ∀ w ∈ Cond.classLink own ik cls :: Cond.initialized cls :: vx_atS own ic cls names, vx_ot w = true)
    (d0 : decode cc pc = .ok (.new ik, 3)) (d3 : decode cc (pc + 3) = .ok (.dup, 1)) (d4 : decode cc (pc + 4) = .ok (.ldc is, 2)) (d6 : decode cc (pc + 6) = .ok (.invokespecial ic, 3)) (d9 : decode cc (pc + 9) = .ok (.athrow, 1))
    (hRf : names.length + 3 < R.frames) (hRl : (rest.map fun v => v.category).sum + (13 * (names.length + 1) + 43) ≤ R.locals) (hRc : cells + 1 ≤ R.cells) (hRs : slots + 6 ≤ R.slots) (hc : cells + 1 ≤ mc) (hs : slots + 6 ≤ ms) (h : pex cls σ) :
    W p l e R s m args below meth c H locs cells slots (vx_MQ below Qc (agXC D cy lay pex s.heap.size) args s mc ms (agA lay s.heap.size)) (F0 m pc ls rest) := by
  obtain ⟨sa, hsa⟩ := hT.2.2.1 _ hstr
  exact vx_throwS (A := agA lay s.heap.size) hC.1 hC.2.1 hl0 hC.2.2.2.1 hcls hnames (hC.2.2.2.2 _ hk) (hC.2.2.2.2 _ hini) hsa (vx_hat (B := nestL) (fun w hw => hC.2.2.2.2 _ (hat w hw)) hall (fun w hw => nest_use w (nestL_ok w hw) (hT.2.1 w hw))) hgood hT.2.2.2.1 hT.2.2.2.2 G.2.2 (hls.trans hC.2.2.1.symm) d0 d3 d4 d6 d9 (fun x hx => (htab x hx).elim) hRf hRl hRc hRs hlocks (fun t hvm hz hq => agXC_of G h hz hq) G.2.2.2.2 hc hs
/-- the same, the text by a wide index -/
theorem ag_throwW (hl0 : l.stackTraces = false) (hC : CallFix p m c cc nL s args Ts own) (hT : agT D cy lay s) (G : agG D cy lay σ (agA lay s.heap.size) s.heap H locs) (htab : ∀ x ∈ c.exceptionTable.toList, False) (hlocks : meth.locks = false) (hls : ls.size = nL) {cls text : String} {names : List String} {ik is ic : Nat} (hcls : Bundle.fit cls = true) (hnames : ∀ n ∈ names, Bundle.fit n = true)
    (hk : Cond.classLink own ik cls ∈ Ts) (hini : Cond.initialized cls ∈ Ts) (hstr : (own, is, text) ∈ strL) (hat : ∀ w ∈ (vx_atS own ic cls names).filter goodWord, w ∈ Ts) (hall : ∀ w ∈ (vx_atS own ic cls names).filter (fun w => !goodWord w), w ∈ nestL) (hgood : ∀ w ∈ Cond.classLink own ik cls :: Cond.initialized cls :: vx_atS own ic cls names, vx_ot w = true)
    (d0 : decode cc pc = .ok (.new ik, 3)) (d3 : decode cc (pc + 3) = .ok (.dup, 1)) (d4 : decode cc (pc + 4) = .ok (.ldc_w is, 3)) (d6 : decode cc (pc + 7) = .ok (.invokespecial ic, 3)) (d9 : decode cc (pc + 10) = .ok (.athrow, 1))
    (hRf : names.length + 3 < R.frames) (hRl : (rest.map fun v => v.category).sum + (13 * (names.length + 1) + 43) ≤ R.locals) (hRc : cells + 1 ≤ R.cells) (hRs : slots + 6 ≤ R.slots) (hc : cells + 1 ≤ mc) (hs : slots + 6 ≤ ms) (h : pex cls σ) :
    W p l e R s m args below meth c H locs cells slots (vx_MQ below Qc (agXC D cy lay pex s.heap.size) args s mc ms (agA lay s.heap.size)) (F0 m pc ls rest) := by
  obtain ⟨sa, hsa⟩ := hT.2.2.1 _ hstr
  exact vx_throwSW (A := agA lay s.heap.size) hC.1 hC.2.1 hl0 hC.2.2.2.1 hcls hnames (hC.2.2.2.2 _ hk) (hC.2.2.2.2 _ hini) hsa (vx_hat (B := nestL) (fun w hw => hC.2.2.2.2 _ (hat w hw)) hall (fun w hw => nest_use w (nestL_ok w hw) (hT.2.1 w hw))) hgood hT.2.2.2.1 hT.2.2.2.2 G.2.2 (hls.trans hC.2.2.1.symm) d0 d3 d4 d6 d9 (fun x hx => (htab x hx).elim) hRf hRl hRc hRs hlocks (fun t hvm hz hq => agXC_of G h hz hq) G.2.2.2.2 hc hs
end AGT
theorem exIOB_good : ∀ w ∈ Cond.classLink RX7 91 "java/lang/IndexOutOfBoundsException" :: Cond.initialized "java/lang/IndexOutOfBoundsException" :: vx_atS RX7 95 "java/lang/IndexOutOfBoundsException" ["java/lang/RuntimeException", "java/lang/Exception"], vx_ot w = true := by decide +kernel
theorem exIAE_good : ∀ w ∈ Cond.classLink RX7 101 "java/lang/IllegalArgumentException" :: Cond.initialized "java/lang/IllegalArgumentException" :: vx_atS RX7 105 "java/lang/IllegalArgumentException" ["java/lang/RuntimeException", "java/lang/Exception"], vx_ot w = true := by decide +kernel
theorem exISE_good : ∀ w ∈ Cond.classLink RX7 106 "java/lang/IllegalStateException" :: Cond.initialized "java/lang/IllegalStateException" :: vx_atS RX7 110 "java/lang/IllegalStateException" ["java/lang/RuntimeException", "java/lang/Exception"], vx_ot w = true := by decide +kernel
theorem exIOB_all : ∀ w ∈ (vx_atS RX7 95 "java/lang/IndexOutOfBoundsException" ["java/lang/RuntimeException", "java/lang/Exception"]).filter (fun w => !goodWord w), w ∈ nestL := by decide +kernel
theorem exIAE_all : ∀ w ∈ (vx_atS RX7 105 "java/lang/IllegalArgumentException" ["java/lang/RuntimeException", "java/lang/Exception"]).filter (fun w => !goodWord w), w ∈ nestL := by decide +kernel
theorem exISE_all : ∀ w ∈ (vx_atS RX7 110 "java/lang/IllegalStateException" ["java/lang/RuntimeException", "java/lang/Exception"]).filter (fun w => !goodWord w), w ∈ nestL := by decide +kernel
