/-! THE REFERENCE: a row of ints that is handed in, and read alone -/
def rIa (D : va_G) (cy : Nat → ClassId) (lay : Nat → Nat) (Γ : RG) (aq : Nat) (af : Nat → Int32) (σ : MS) (sz : Nat) (U : State) : Prop := rI D cy lay Γ σ sz U ∧ va_at D vwCl (aq, .inl (cy 0, 3, .inl af)) U.heap ∧ ¬ rA cy lay Γ sz aq
theorem rIa_blind {D : va_G} {cy : Nat → ClassId} {lay : Nat → Nat} {Γ : RG} {aq : Nat} {af : Nat → Int32} {σ : MS} {sz : Nat} {As : List Value} : FrameBlind (va_Pc As (rIa D cy lay Γ aq af σ sz)) := by
  intro a U g mk h
  obtain ⟨h0, h1, h2⟩ := h
  have := rI_blind (D := D) (cy := cy) (lay := lay) (Γ := Γ) (σ := σ) (sz := sz) (As := As) a U g mk ⟨h0, h1⟩
  exact ⟨this.1, this.2, h2⟩
section RARR
variable {p : Program} {l : Launch} {e : Env} {R : Room} {s : State} {m : MethodId} {args : Array Value} {below : List Frame} {meth : Method} {c : Code} {H : Heap} {locs : List Loc} {cells slots : Nat} {Q : State → Prop}
variable {cc bytes : ByteArray} {pc nL maxL mc ms n index : Nat} {ls : Array Slot} {ST rest As : List Value} {D : va_G} {cy : Nat → ClassId} {lay : Nat → Nat} {Γ : RG} {tm : Nat → Option (Nat × Nat)} {σ : MS} {aq : Nat} {af : Nat → Int32} {Ts ws : List Cond} {own Cn host : String} {y : MethodName} {ret : Option FieldType} {rm : Room} {b : Addr}
variable {Qc : Array Value → State → Outcome → State → Prop} {free : Addr → Prop}
theorem rg_ofA {ws' : List Cond} {maxL : Nat} {sz : Nat} {Qc : Nat → Array Value → State → Outcome → State → Prop} (hy : plainName y.cls = true) (hw : ws = Cond.code y cc maxL ret :: ws') (hnl : (lg_sl As).length ≤ maxL) (hoo : y.cls = own)
    (body : ∀ (p : Program) (e : Env) (s : State) (m : MethodId) (args : Array Value) (below : List Frame) (meth : Method) (c : Code) (ls : Array Slot), CallFix p m c cc maxL s args ws own → meth.sig.returnType = ret → meth.locks = false → rT D cy lay Γ s → (va_at D vwCl (aq, .inl (cy 0, 3, .inl af)) s.heap ∧ ¬ rA cy lay Γ s.heap.size aq) → rG D cy lay Γ tn σ (rA cy lay Γ s.heap.size) s.heap s.heap [] → lv_has ls maxL (lv_args 0 As) →
      W p l e rm s m args below meth c s.heap [] 0 0 (MQ below (Qc s.heap.size) args s mc ms (rA cy lay Γ s.heap.size)) (F0 m 0 ls [])) : Met l y ws rm (va_Pc As (rIa D cy lay Γ aq af σ sz)) (Qc sz) mc ms (rA cy lay Γ sz) := by
  refine Met.ofW (cc := cc) (maxL := maxL) (ret := ret) hy hw ?_
  intro p e s m args below meth c s₁ B hml hv
  obtain ⟨rfl, ⟨hsz, hT, hP, hD⟩, hra⟩ := hv
  subst hsz
  have hl := lv_entry As (n := maxL) hnl
  rw [lg_entry_eq]
  have hown : s.vm.findClass y.cls = some m.cls := findClass_of_methodNamed B.named
  rw [hoo] at hown
  exact body p e s m As.toArray below meth c _ ⟨B.exec, B.bytes, hml, hown, atoms_spec (ws := ws) B.pre⟩ B.returns B.notSynchronized hT hra ⟨hP, rI_of hD, va_S.rf⟩ hl
theorem rg_raload (hC : CallFix p m c cc nL s args Ts own) (hT : rT D cy lay Γ s) (G : rG D cy lay Γ tm σ (rA cy lay Γ s.heap.size) s.heap H locs) (hra : va_at D vwCl (aq, .inl (cy 0, 3, .inl af)) s.heap ∧ ¬ rA cy lay Γ s.heap.size aq) {i : Int32} (hin : vp_in i 3) (hdg : decode cc pc = .ok (.iaload, 1))
    (kk : W p l e R s m args below meth c H locs cells slots Q (F0 m (pc + 1) ls (.int (af i.toNatClampNeg) :: rest))) : W p l e R s m args below meth c H locs cells slots Q (F0 m pc ls (.int i :: .ref aq :: rest)) := by
  have hat : va_at D vwCl (aq, .inl (cy 0, 3, .inl af)) H := hra.1.kept (G.2.2.2.1 _ hra.1.lt hra.2)
  exact va_iald (ws := [(aq, .inl (cy 0, 3, .inl af))]) hC.1 hC.2.1 hT.1 (fun k q hk => by
    cases k with
    | zero => cases hk; exact hat
    | succ k => cases hk) 0 0 rfl rfl hin hdg kk
theorem rg_runVA (hC : CallFix p m c cc nL s args Ts own) (hT : rT D cy lay Γ s) (G : rG D cy lay Γ tm σ (rA cy lay Γ s.heap.size) s.heap H locs) {k : Nat} (hk : 64 ≤ k) (hk2 : k < 128) (hX : tm k = some (0, 3)) (hM : Met l y ws rm (va_Pc (.ref b :: As) (rIa D cy lay Γ (lay k) (σ k) σ H.size)) Qc mc ms free) (cw : CallW R s args own Cn index y bytes maxL ret ws rm mc ms n) (hrv : ∃ cell : Cell, H[b]? = some cell ∧ cell.vm.isStatics = false ∧ s.vm.findClass Cn = some cell.cls)
    (hn : As.length = n) (hls : ls.size = nL) (hst : ST = As.reverse ++ .ref b :: rest) (hW : (rest.map fun v => v.category).sum ≤ 8) (hdg : decode cc pc = .ok (.invokevirtual index, 3)) (hf : cells + mc ≤ R.cells ∧ slots + ms ≤ R.slots) :
    va_Run p l e R s m args below meth c H locs cells slots mc ms (F0 m pc ls ST) rest (Qc (.ref b :: As).toArray) free :=
  va_runV hC hM cw ⟨rIa_blind, hrv, fun U hU hW => ⟨rfl, rI_next hT (rG_drop G hT.2.2.2) hU hW, by
    have hx : rX cy lay Γ tm σ k = some (.inl (cy 0, 3, .inl (σ k))) := r_ti hk hX
    rw [hU]
    refine ⟨G.1 k _ hk2 hx, fun z => ?_⟩
    rcases z with ⟨j, hj, hs, hq⟩ | z
    · have h2 := r_some (cy := cy) (lay := lay) (lay' := lay) (Γ := Γ) (tm := tn) (tm' := tm) (σ := fun _ _ => 0) (σ' := σ) hj
      rw [hs] at h2
      cases q : rX cy lay Γ tm σ j with
      | none => rw [q] at h2; cases h2
      | some y =>
        have := G.2.1.1 k j _ y hk2 (by omega) hx q hq
        omega
    · exact absurd z (Nat.not_le.mpr (G.1 k _ hk2 hx).lt)⟩⟩ rfl hn hls hst (lv_room hW) hdg hf
end RARR
/-! how many can still be played in a call: a number beside the world -/
def gh (σ : MS) : Nat := (σ 62 0).toNatClampNeg
theorem gh_up {σ : MS} {k j : Nat} {v : Int32} (h : k ≠ 62) : gh (up2 σ k j v) = gh σ := by
  unfold gh
  rw [up2_ne (Ne.symm h)]
theorem gh_rw0 {σ : MS} {k : Nat} {f : Nat → Int32} (h : k ≠ 62) : gh (rw0 σ k f) = gh σ := by
  unfold gh
  rw [rw0_ne (Ne.symm h)]
theorem gh_mrg {σ' σ : MS} : gh (mrg σ' σ) = gh σ' := by
  unfold gh
  rw [mrg_lo (by decide)]
theorem gh_set {σ : MS} {b : Nat} (h : b < 2 ^ 31) : gh (up2 σ 62 0 (nI b)) = b := by
  unfold gh
  rw [up2_same, nI_clamp h]
theorem rG_gh {D : va_G} {cy : Nat → ClassId} {lay : Nat → Nat} {Γ : RG} {tm : Nat → Option (Nat × Nat)} {σ : MS} {A : Nat → Prop} {H0 H : Heap} {locs : List Loc} {v : Int32} (G : rG D cy lay Γ tm σ A H0 H locs) : rG D cy lay Γ tm (up2 σ 62 0 v) A H0 H locs :=
  gG_eq (fun k _ => by
    by_cases h : k = 62
    · subst h
      rfl
    · exact (r_loc (up2_ne h)).symm) G
