/-! TEXTS: the reference's methods that tell -/
def mTx : List (Nat × String × Nat) := [(323, "", 0), (330, " ", 1), (339, "-", 1), (354, "asked", 5), (356, "fixed", 5), (358, "played", 6), (360, "lost", 4), (362, " on day ", 8), (364, " in ", 4), (366, ", ", 2), (368, ",", 1), (370, ": ", 2)]
def rIT (D : va_G) (cy : Nat → ClassId) (lay : Nat → Nat) (Γ : RG) (σ : MS) (ad : Nat → Nat) (sz : Nat) (U : State) : Prop := rI D cy lay Γ σ sz U ∧ tB D cy (rA cy lay Γ sz) U U.heap ∧ kS RX11 mTx ad (rA cy lay Γ sz) U U.heap
theorem rIT_blind {D : va_G} {cy : Nat → ClassId} {lay : Nat → Nat} {Γ : RG} {σ : MS} {ad : Nat → Nat} {sz : Nat} {As : List Value} : FrameBlind (va_Pc As (rIT D cy lay Γ σ ad sz)) := by
  intro a U g mk h
  obtain ⟨h0, h1, h2, h3⟩ := h
  have := rI_blind (D := D) (cy := cy) (lay := lay) (Γ := Γ) (σ := σ) (sz := sz) (As := As) a U g mk ⟨h0, h1⟩
  exact ⟨this.1, this.2, tB.moved (u := U) (U := U.calling g mk a) (Vm.Alike.refl U.vm) (nest_same (u := U) (U := U.calling g mk a) rfl _ rfl h2.2.1) h2, kS.same (u := U) (U := U.calling g mk a) rfl h3⟩
section RGT
variable {p : Program} {l : Launch} {e : Env} {R : Room} {s : State} {m : MethodId} {args : Array Value} {below : List Frame} {meth : Method} {c : Code} {H : Heap} {locs : List Loc} {cells slots : Nat} {Q : State → Prop}
variable {cc bytes : ByteArray} {pc nL maxL mc ms n index k kb : Nat} {ls : Array Slot} {ST rest As : List Value} {D : va_G} {cy : Nat → ClassId} {lay : Nat → Nat} {Γ : RG} {σ : MS} {X : Nat → Option va_E} {A : Nat → Prop} {Ts ws : List Cond} {own host : String} {y : MethodName} {ret : Option FieldType} {rm : Room} {ad : Nat → Nat}
theorem rg_ofT {ws' : List Cond} {maxL : Nat} {sz : Nat} {Qc : Nat → Array Value → State → Outcome → State → Prop} (hy : plainName y.cls = true) (hw : ws = Cond.code y cc maxL ret :: ws') (hnl : (lg_sl As).length ≤ maxL) (hoo : y.cls = own)
    (body : ∀ (p : Program) (e : Env) (s : State) (m : MethodId) (args : Array Value) (below : List Frame) (meth : Method) (c : Code) (ls : Array Slot), CallFix p m c cc maxL s args ws own → meth.sig.returnType = ret → meth.locks = false → rT D cy lay Γ s → tB D cy (rA cy lay Γ s.heap.size) s s.heap → kS RX11 mTx ad (rA cy lay Γ s.heap.size) s s.heap → rG D cy lay Γ tn σ (rA cy lay Γ s.heap.size) s.heap s.heap [] → lv_has ls maxL (lv_args 0 As) →
      W p l e rm s m args below meth c s.heap [] 0 0 (MQ below (Qc s.heap.size) args s mc ms (rA cy lay Γ s.heap.size)) (F0 m 0 ls [])) : Met l y ws rm (va_Pc As (rIT D cy lay Γ σ ad sz)) (Qc sz) mc ms (rA cy lay Γ sz) := by
  refine Met.ofW (cc := cc) (maxL := maxL) (ret := ret) hy hw ?_
  intro p e s m args below meth c s₁ B hml hv
  obtain ⟨rfl, ⟨hsz, hT, hP, hD⟩, hB, hK⟩ := hv
  subst hsz
  have hl := lv_entry As (n := maxL) hnl
  rw [lg_entry_eq]
  have hown : s.vm.findClass y.cls = some m.cls := findClass_of_methodNamed B.named
  rw [hoo] at hown
  exact body p e s m As.toArray below meth c _ ⟨B.exec, B.bytes, hml, hown, atoms_spec (ws := ws) B.pre⟩ B.returns B.notSynchronized hT hB hK ⟨hP, rI_of hD, va_S.rf⟩ hl
theorem rg_tret {post : MS → Prop} {q : Nat} {rt : FieldType} {locs : List Loc} (hC : CallFix p m c cc nL s args Ts own) (hr : meth.sig.returnType = some rt) (hrt : ∃ C, rt = .object C) (hlocks : meth.locks = false) (G : rG D cy lay Γ tn σ (rA cy lay Γ s.heap.size) s.heap H locs) (h : post σ) (hdg : decode cc pc = .ok (.areturn, 1)) :
    W p l e R s m args below meth c H locs cells slots (MQ below (va_Qr (S := MS) post (fun τ _ t => rO D cy lay Γ τ t) (rA cy lay Γ s.heap.size)) args s cells slots (rA cy lay Γ s.heap.size)) (F0 m pc ls [.ref q]) :=
  W.aret (v := .ref q) hC.1 hC.2.1 hr (Or.inl hrt) (Or.inr ⟨_, rfl⟩) (fun t ht hW => ⟨⟨σ, q, rfl, h, by rw [ht]; exact G.1, gI_weak G.2.1 (fun _ _ => trivial)⟩, G.2.2.F ht⟩) G.2.2.2.2 hdg hlocks
theorem sb_getN {C : String} {T : u_T} {N ci j : Nat} {ty : Nat → FieldType} (hC : CallFix p m c cc nL s args Ts own) (hT : tB D cy A s s.heap) (hN : rN s) (S : sbW D cy lay X A s.heap H locs k kb n) (hj : j < 128) (hjk : j ≠ k) (hjb : j ≠ kb) {fs : List Value} (he : X j = some (.inr (ci, fs))) (hcl : agCl C T N ci ty) (hin : ∀ w ∈ u_ws C T N, w ∈ Ts) (i : Nat) (hi : i < N) (q : Nat) (hl : nestR[q]? = some (Cond.fieldLinkNest own index (T i).1 (T i).2.1 (T i).2.2.1 host)) {v : Value} (hv : fs[i]? = some v) (hdg : decode cc pc = .ok (.getfield index, 3))
    (kk : W p l e R s m args below meth c H locs cells slots Q (F0 m (pc + 3) ls (v :: rest))) : W p l e R s m args below meth c H locs cells slots Q (F0 m pc ls (.ref (lay j) :: rest)) := by
  obtain ⟨L, m1, a, ml, hf1, hm, hnm, hL, G⟩ := S
  rw [← gU_out hL hjb]
  exact g_getN hC hT.1 G hj ((sbX_o hjk hjb).trans he) hcl hin i hi (nest_use _ (nestR_ok _ (wm q hl)) (hN.1 _ (wm q hl))) hv hdg kk
/-- a list's size, beside a StringBuilder -/
theorem sb_size {j : Nat} {mo v : Int32} {o : Value} (hC : CallFix p m c cc nL s args Ts own) (hT : tB D cy A s s.heap) (hN : rN s) (hA : ∀ q, s.heap.size ≤ q → A q) (S : sbW D cy lay X A s.heap H locs k kb n) (hj : j < 128) (hjk : j ≠ k) (hjb : j ≠ kb) (he : X j = some (.inr (4, [.int mo, o, .int v])))
    (cw : CallW R s args own RJx4a65c index yJx4a65c_size_8abf5 cJx4a65c_size_8abf5 1 (some .int) wsJx4a65c_size_8abf5 rm_gsz 0 0 0) (hls : ls.size = nL) (hW : (rest.map fun v => v.category).sum ≤ 8) (hdg : decode cc pc = .ok (.invokevirtual index, 3)) (hf : cells + 0 ≤ R.cells ∧ slots + 0 ≤ R.slots)
    (kk : ∀ (H1 : Heap) (locs1 : List Loc), sbW D cy lay X A s.heap H1 locs1 k kb n → W p l e R s m args below meth c H1 locs1 (cells + 0) (slots + 0) Q (F0 m (pc + 3) ls (.int v :: rest))) : W p l e R s m args below meth c H locs cells slots Q (F0 m pc ls (.ref (lay j) :: rest)) := by
  obtain ⟨L, m1, a, ml, hf1, hm, hnm, hL, G⟩ := S
  rw [← gU_out hL hjb]
  refine g_i G hA (h_runV (As := []) (rest := rest) (b := L j) hC ⟨hT.1, hN⟩ G (c_gsz l D cy L (sbX cy X k kb (L kb) m1 a (nI n) ml) hj ((sbX_o hjk hjb).trans he) _) cw (h_recv ⟨hT.1, hN⟩ G hj ((sbX_o hjk hjb).trans he) k_AL) rfl hls rfl hW hdg hf) (fun r Y H1 locs1 hY G1 => ?_)
  obtain ⟨rfl, rfl⟩ := hY
  exact kk H1 locs1 ⟨L, m1, a, ml, hf1, hm, hnm, hL, G1⟩
end RGT
/-- back to the reference's world: cells from 64 on fall away -/
theorem g_rg {D : va_G} {cy : Nat → ClassId} {lay L : Nat → Nat} {Γ : RG} {σ : MS} {X : Nat → Option va_E} {A : Nat → Prop} {H0 H : Heap} {locs : List Loc} (hX : ∀ k, k < 64 → X k = rX cy lay Γ tn σ k) (hL : ∀ k, k < 64 → L k = lay k) (G : gG D L X A H0 H locs) : rG D cy lay Γ tn σ A H0 H locs := by
  have key : ∀ k e, rX cy lay Γ tn σ k = some e → k < 64 ∧ X k = some e := fun k e h => by
    by_cases c : k < 64
    · exact ⟨c, (hX k c).trans h⟩
    · rw [r_tm (by omega)] at h
      cases h
  refine ⟨fun k e hk h => ?_, ⟨fun i j e f hi hj h1 h2 he => ?_, fun k e hk h => ?_⟩, G.2.2⟩
  · obtain ⟨c, h⟩ := key k e h
    have := G.1 k e hk h
    rw [hL k c] at this
    exact this
  · obtain ⟨c1, h1⟩ := key i e h1
    obtain ⟨c2, h2⟩ := key j f h2
    exact G.2.1.1 i j e f hi hj h1 h2 (by rw [hL i c1, hL j c2]; exact he)
  · obtain ⟨c, h⟩ := key k e h
    have := G.2.1.2 k e hk h
    rw [hL k c] at this
    exact this
