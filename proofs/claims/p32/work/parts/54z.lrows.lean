/-! calls in a 'try', methods with a table of their own, over the class's world -/
section LRW
variable {p : Program} {l : Launch} {e : Env} {R : Room} {s : State} {m : MethodId} {args : Array Value} {below : List Frame} {meth : Method} {c : Code} {H : Heap} {locs : List Loc} {cells slots : Nat} {Q : State → Prop}
variable {cc bytes : ByteArray} {pc nL maxL mc ms kc ks n index : Nat} {ls : Array Slot} {ST rest As : List Value} {D : va_G} {cy : Nat → ClassId} {lay : Nat → Nat} {σ : MS} {Ts ws : List Cond} {own Cn host : String} {y : MethodName} {ret : Option FieldType} {rm : Room} {b : Addr} {hh : List (Nat × Nat × Nat × Nat)}
variable {Qc : Array Value → State → Outcome → State → Prop} {free : Addr → Prop} {pex : String → MS → Prop}
/-- a contract of a method with handlers, that throws nothing, out of the walk of its body -/
theorem ag_ofH {ws' : List Cond} {maxL : Nat} {sz : Nat} {Qc : Nat → Array Value → State → Outcome → State → Prop} (hy : plainName y.cls = true) (hw : ws = Cond.codeWith y cc maxL ret hh :: ws') (hnl : (lg_sl As).length ≤ maxL) (hoo : y.cls = own)
    (body : ∀ (p : Program) (e : Env) (s : State) (m : MethodId) (args : Array Value) (below : List Frame) (meth : Method) (c : Code) (ls : Array Slot), CallFix p m c cc maxL s args ws own → meth.sig.returnType = ret → meth.locks = false → c.exceptionTable.toList = tableOf hh → agT D cy lay s → agG D cy lay σ (agA lay s.heap.size) s.heap s.heap [] → lv_has ls maxL (lv_args 0 As) →
      W p l e rm s m args below meth c s.heap [] 0 0 (MQ below (Qc s.heap.size) args s mc ms (agA lay s.heap.size)) (F0 m 0 ls [])) : Met l y ws rm (va_Pc As (agI D cy lay σ sz)) (Qc sz) mc ms (agA lay sz) := by
  refine va_MetW (cc := cc) (maxL := maxL) (ret := ret) (hh := hh) hy hw ?_
  intro p e s m args below meth c s₁ B hml hv
  obtain ⟨rfl, hsz, hT, hP, hD⟩ := hv
  subst hsz
  have hl := lv_entry As (n := maxL) hnl
  rw [lg_entry_eq]
  have hown : s.vm.findClass y.cls = some m.cls := findClass_of_methodNamed B.named
  rw [hoo] at hown
  have hts := atoms_spec (ws := ws) B.pre
  have htab := vx_table (x := y) B (hts (Cond.codeWith y cc maxL ret hh) (by rw [hw]; exact List.mem_cons_self))
  exact body p e s m As.toArray below meth c _ ⟨B.exec, B.bytes, hml, hown, hts⟩ B.returns B.notSynchronized htab hT ⟨hP, agD_of hD, va_S.rf⟩ hl
theorem ag_runSW (hC : CallFix p m c cc nL s args Ts own) (hT : agT D cy lay s) (G : agG D cy lay σ (agA lay s.heap.size) s.heap H locs) (hM : Met l y ws rm (va_Pc As (agI D cy lay σ H.size)) Qc mc ms free) (cw : vx_CSW R s args own index y bytes maxL ret hh ws rm mc ms n)
    (hn : As.length = n) (hls : ls.size = nL) (hst : ST = As.reverse ++ rest) (hW : (rest.map fun v => v.category).sum ≤ 8) (hdg : decode cc pc = .ok (.invokestatic index, 3)) (hf : cells + mc ≤ R.cells ∧ slots + ms ≤ R.slots) :
    va_Run p l e R s m args below meth c H locs cells slots mc ms (F0 m pc ls ST) rest (Qc As.toArray) free :=
  vx_runSW hC hM cw ⟨agI_blind, fun U hU hW => ⟨rfl, agI_next hT G hU hW⟩⟩ rfl hn hls hst (lv_room hW) hdg hf
/-- behind a call that answers an int, or throws and is caught here -/
theorem ag_iC {post : Int32 → MS → Prop} {a : Array Value} (G : agG D cy lay σ (agA lay s.heap.size) s.heap H locs) (hr : vx_Run p l e R s m args below meth c H locs cells slots kc ks (F0 m pc ls ST) rest (va_Qi post (agO D cy lay) (agA lay H.size) a) (agXC D cy lay pex H.size) (agA lay H.size))
    (kx : ∀ (E : String) (ce : Cell) (q9 : Addr) (σ' : MS) (H1 : Heap) (locs1 : List Loc), pex E σ' → agG D cy lay σ' (agA lay s.heap.size) s.heap H1 locs1 → H1[q9]? = some ce → ce.vm = .none → s.vm.findClass E = some ce.cls → vx_W p l e R s m args below meth c H1 locs1 (cells + kc) (slots + ks) Q (F0 m pc ls rest) q9)
    (kk : ∀ (r : Int32) (σ' : MS) (H1 : Heap) (locs1 : List Loc), post r σ' → agG D cy lay σ' (agA lay s.heap.size) s.heap H1 locs1 → W p l e R s m args below meth c H1 locs1 (cells + kc) (slots + ks) Q (F0 m (pc + 3) ls (.int r :: rest))) : W p l e R s m args below meth c H locs cells slots Q (F0 m pc ls ST) :=
  vx_calli hr G.2.2 (fun q _ h => agA_le G.2.2.1 q h) (agA_le G.2.2.1) (fun q _ h => agA_le G.2.2.1 q h)
    (fun E ce q9 u t H1 locs1 ht hvm hp hB hz hk hS h1 h2 h3 => by
      obtain ⟨E0, σ0⟩ := u
      obtain ⟨e1, hO⟩ := hB
      dsimp only at e1 hp hO
      subst e1
      exact kx _ ce q9 σ0 H1 locs1 hp ⟨by rw [← ht]; exact hO.1, agD_of hO.2, hS⟩ h1 h2 h3)
    (fun r u t H1 locs1 ht hvm hw hB hz hk hS => kk r u H1 locs1 hw ⟨by rw [← ht]; exact hB.1, agD_of hB.2, hS⟩)
end LRW
