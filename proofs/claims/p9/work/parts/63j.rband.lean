/-! THE REFERENCE: band -/
def rbS (σ : MS) (n : Nat) : MS := fun k j => if k = 2 then (if j = 0 then σ 2 0 + 1 else if j = 2 then nI (n + 1) else σ 2 j) else σ k j
def rIV (D : va_G) (cy : Nat → ClassId) (lay : Nat → Nat) (Γ : RG) (σ : MS) (mi ta : Nat) (ad : Nat → Nat) (sz : Nat) (U : State) : Prop := rIK D cy lay Γ σ mi sz U ∧ hVs ta ad (rA cy lay Γ sz) U
theorem rIV_blind {D : va_G} {cy : Nat → ClassId} {lay : Nat → Nat} {Γ : RG} {σ : MS} {mi ta : Nat} {ad : Nat → Nat} {sz : Nat} {As : List Value} : FrameBlind (va_Pc As (rIV D cy lay Γ σ mi ta ad sz)) := by
  intro a U g mk h
  obtain ⟨h0, h1, k1, k2, k3, k4⟩ := h
  have := rIK_blind (D := D) (cy := cy) (lay := lay) (Γ := Γ) (σ := σ) (mi := mi) (sz := sz) (As := As) a U g mk ⟨h0, h1⟩
  exact ⟨this.1, this.2, va_Z.moved (u := U) (U := U.calling g mk a) (Vm.Alike.refl U.vm) k1, va_Z.moved (u := U) (U := U.calling g mk a) (Vm.Alike.refl U.vm) k2, va_T.moved (u := U) (U := U.calling g mk a) (Vm.Alike.refl U.vm) k3, vb_C.moved (u := U) (U := U.calling g mk a) (Vm.Alike.refl U.vm) k4⟩
section ADDB
variable {cy : Nat → ClassId} {lay lay' : Nat → Nat} {Γ : RG} {σ : MS}
theorem r_no_eb (h : Γ.2.1 = 0) : rX cy lay Γ tn σ 5 = none := if_pos h
theorem r_ebb (h : Γ.2.1 ≠ 0) : rX cy lay Γ tn σ 5 = some (.inl (cy 7, 10, rfS fun i => if i < Γ.2.1 then some (Γ.2.2.2.2.1 i) else none)) := if_neg h
theorem rbS_ne {k n : Nat} (h1 : k ≠ 2) : rbS σ n k = σ k := by
  funext j
  unfold rbS
  rw [if_neg h1]
theorem r_addb (hl : ∀ k, k ≠ 5 → lay' k = lay k) {o y : Nat} {a1 : Int32} {f' : Nat → Option Nat} (h4 : lay' 5 = o) (hf : f' = fun i => if i < Γ.2.1 + 1 then some (va_up Γ.2.2.2.2.1 Γ.2.1 y i) else none) (k : Nat) :
    gU (gU (rX cy lay Γ tn σ) 5 (some (.inl (cy 7, 10, rfS f')))) 2 (some (.inr (4, [.int (σ 2 0 + 1), .ref o, .int (nI (Γ.2.1 + 1))]))) k = rX cy lay' (Γ.1, Γ.2.1 + 1, Γ.2.2.1, Γ.2.2.2.1, va_up Γ.2.2.2.2.1 Γ.2.1 y, va_up Γ.2.2.2.2.2 Γ.2.1 a1) tn (rbS σ Γ.2.1) k := by
  by_cases c2 : k = 2
  · subst c2
    rw [gU_eq, r_lb]
    simp [rbS, h4]
  rw [gU_ne c2]
  by_cases c5 : k = 5
  · subst c5
    rw [gU_eq, r_ebb (Nat.succ_ne_zero _), hf]
  rw [gU_ne c5]
  have hs : rbS σ Γ.2.1 k = σ k := rbS_ne c2
  have el : ∀ i, 5 < i → lay' i = lay i := fun i hi => hl i (by omega)
  unfold rX
  rw [hs]
  by_cases c0 : k = 0
  · subst c0
    rw [if_pos rfl, if_pos rfl]
    have hm : Lmo lay' (rbS σ Γ.2.1 0) = Lmo lay (σ 0) := by
      rw [rbS_ne (by omega)]
      show [_, _, _, _, _, _, _, _, _, _, _, _, _] = _
      rw [hl 1 (by omega), hl 2 (by omega), hl 3 (by omega), hl 7 (by omega), hl 8 (by omega), hl 9 (by omega), hl 10 (by omega), hl 11 (by omega), hl 12 (by omega)]
    rw [hm]
  rw [if_neg c0, if_neg c0]
  by_cases c1 : k = 1
  · subst c1
    rw [if_pos rfl, if_pos rfl, rbS_ne (by omega)]
    unfold rL
    rw [hl 4 (by omega)]
  rw [if_neg c1, if_neg c1, if_neg c2, if_neg c2]
  by_cases c3 : k = 3
  · subst c3
    rw [if_pos rfl, if_pos rfl, rbS_ne (by omega)]
    unfold rL
    rw [hl 6 (by omega)]
  rw [if_neg c3, if_neg c3]
  have e1 : (fun i => if i < Γ.1 then some (lay' (13 + i)) else none) = fun i => if i < Γ.1 then some (lay (13 + i)) else none := by
    funext i
    rw [el (13 + i) (by omega)]
  have e2 : (fun i => if i < Γ.2.2.1 then some (lay' (33 + i)) else none) = fun i => if i < Γ.2.2.1 then some (lay (33 + i)) else none := by
    funext i
    rw [el (33 + i) (by omega)]
  rw [e1, e2, if_neg c5, if_neg c5, el (23 + (k - 13)) (by omega)]
  rfl
end ADDB
section KBD
variable {p : Program} {l : Launch} {e : Env} {R : Room} {s : State} {m : MethodId} {args : Array Value} {below : List Frame} {meth : Method} {c : Code} {H : Heap} {locs : List Loc} {cells slots : Nat} {Q : State → Prop}
variable {cc bytes : ByteArray} {pc nL maxL mc ms n index ea mi ta : Nat} {ad : Nat → Nat} {ls : Array Slot} {ST rest As : List Value} {D : va_G} {cy : Nat → ClassId} {lay lay' : Nat → Nat} {X : Nat → Option va_E} {A : Nat → Prop} {H0 : Heap} {Ts ws : List Cond} {own Cn host : String} {y : MethodName} {ret : Option FieldType} {rm : Room} {b : Addr} {Γ Γ' : RG} {σ σ' : MS}
variable {Qc : Array Value → State → Outcome → State → Prop} {free : Addr → Prop}
theorem rv_ofW {ws' : List Cond} {maxL mi : Nat} {sz : Nat} {Qc : Nat → Array Value → State → Outcome → State → Prop} (hy : plainName y.cls = true) (hw : ws = Cond.code y cc maxL ret :: ws') (hnl : (lg_sl As).length ≤ maxL) (hoo : y.cls = own)
    (body : ∀ (p : Program) (e : Env) (s : State) (m : MethodId) (args : Array Value) (below : List Frame) (meth : Method) (c : Code) (ls : Array Slot), CallFix p m c cc maxL s args ws own → meth.sig.returnType = ret → meth.locks = false → rT D cy lay Γ s → hZs D cy Γ.2.2.2.1 mi (rA cy lay Γ s.heap.size) s → hVs ta ad (rA cy lay Γ s.heap.size) s → rG D cy lay Γ tn σ (rA cy lay Γ s.heap.size) s.heap s.heap [] → lv_has ls maxL (lv_args 0 As) →
      W p l e rm s m args below meth c s.heap [] 0 0 (MQ below (Qc s.heap.size) args s mc ms (rA cy lay Γ s.heap.size)) (F0 m 0 ls [])) : Met l y ws rm (va_Pc As (rIV D cy lay Γ σ mi ta ad sz)) (Qc sz) mc ms (rA cy lay Γ sz) := by
  refine Met.ofW (cc := cc) (maxL := maxL) (ret := ret) hy hw ?_
  intro p e s m args below meth c s₁ B hml hv
  obtain ⟨rfl, ⟨⟨hsz, hT, hP, hD⟩, hZ⟩, hV⟩ := hv
  subst hsz
  have hl := lv_entry As (n := maxL) hnl
  rw [lg_entry_eq]
  have hown : s.vm.findClass y.cls = some m.cls := findClass_of_methodNamed B.named
  rw [hoo] at hown
  exact body p e s m As.toArray below meth c _ ⟨B.exec, B.bytes, hml, hown, atoms_spec (ws := ws) B.pre⟩ B.returns B.notSynchronized hT hZ hV ⟨hP, rI_of hD, va_S.rf⟩ hl
/-- g_i, with what stayed -/
theorem g_ik {post : Int32 → GY → Prop} {a : Array Value} (G : gG D lay X A H0 H locs) (hA : ∀ q, H0.size ≤ q → A q) (hr : va_Run p l e R s m args below meth c H locs cells slots mc ms (F0 m pc ls ST) rest (va_Qi post (gO D (gA lay X H.size)) (gA lay X H.size) a) (gA lay X H.size))
    (kk : ∀ (r : Int32) (Y : GY) (H1 : Heap) (locs1 : List Loc), post r Y → gG D Y.1 Y.2 A H0 H1 locs1 → H.size ≤ H1.size → (∀ q : Nat, q < H.size → ¬ gA lay X H.size q → H1[q]? = H[q]?) → gI (gA lay X H.size) Y.1 Y.2 → W p l e R s m args below meth c H1 locs1 (cells + mc) (slots + ms) Q (F0 m (pc + 3) ls (.int r :: rest))) : W p l e R s m args below meth c H locs cells slots Q (F0 m pc ls ST) :=
  va_calli hr G.2.2 (fun q _ h => gA_in G hA q h) (gA_in G hA) (fun r u t H1 locs1 ht hvm hw hB hz hk hS => kk r u H1 locs1 hw ⟨by rw [← ht]; exact hB.1, gI_weak hB.2 (gA_in G hA), hS⟩ hz hk hB.2)
/-- behind valueOf -/
theorem g_vOf {ad : Nat → Nat} {v : Int32} {a : Array Value} (G : gG D lay X A H0 H locs) (hA : ∀ q, H0.size ≤ q → A q) (hr : va_Run p l e R s m args below meth c H locs cells slots mc ms (F0 m pc ls ST) rest (va_Qr (S := Nat) (fun _ => True) (fun y a t => a = y ∧ gO D (gA lay X H.size) (lay, X) t ∧ va_O RJ6 y (gA lay X t.heap.size) t t.heap ∧ va_OF RJ6 "value" "I" (.int v) y (gA lay X t.heap.size) t t.heap ∧ vNew ad H.size y) (gA lay X H.size) a) (gA lay X H.size))
    (kk : ∀ (y : Nat) (H1 : Heap) (locs1 : List Loc), gG D lay X A H0 H1 locs1 → va_O RJ6 y (gA lay X H1.size) s H1 → va_OF RJ6 "value" "I" (.int v) y (gA lay X H1.size) s H1 → vNew ad H.size y → W p l e R s m args below meth c H1 locs1 (cells + mc) (slots + ms) Q (F0 m (pc + 3) ls (.ref y :: rest))) : W p l e R s m args below meth c H locs cells slots Q (F0 m pc ls ST) :=
  va_callr hr G.2.2 (fun q _ h => gA_in G hA q h) (gA_in G hA) (fun u ra t H1 locs1 ht hvm hw hB hz hk hS => by
    obtain ⟨e1, hO, b1, b2, b3⟩ := hB
    subst e1
    subst ht
    exact kk _ _ locs1 ⟨hO.1, gI_weak hO.2 (gA_in G hA), hS⟩ (va_O.moved hvm.symm b1) (va_OF.moved hvm.symm b2) b3)
/-- a world that grew, and where its Integers come from -/
def rOv (D : va_G) (cy : Nat → ClassId) (lay : Nat → Nat) (Γ : RG) (ad : Nat → Nat) (sz : Nat) (Y : RY) (t : State) : Prop := rOn D cy (rA cy lay Γ sz) Y t ∧ (∀ i, i < Y.2.1.2.1 → (i < Γ.2.1 ∧ Y.2.1.2.2.2.2.1 i = Γ.2.2.2.2.1 i) ∨ vNew ad sz (Y.2.1.2.2.2.2.1 i)) ∧ Y.1 0 = lay 0
theorem rk_iretv {ad : Nat → Nat} {post : Int32 → RY → Prop} {v : Int32} {Y : RY} {locs : List Loc} (hz : Y.1 0 = lay 0) (hC : CallFix p m c cc nL s args Ts own) (hr : meth.sig.returnType = some .int) (hlocks : meth.locks = false) (G : gG D Y.1 (rX cy Y.1 Y.2.1 tn Y.2.2) (rA cy lay Γ s.heap.size) s.heap H locs) (hS : rS D cy Y.2.1 (rA cy Y.1 Y.2.1 H.size) s H) (hB : rB Y.2.1) (hV : ∀ i, i < Y.2.1.2.1 → (i < Γ.2.1 ∧ Y.2.1.2.2.2.2.1 i = Γ.2.2.2.2.1 i) ∨ vNew ad s.heap.size (Y.2.1.2.2.2.2.1 i)) (h : post v Y) (hdg : decode cc pc = .ok (.ireturn, 1)) :
    W p l e R s m args below meth c H locs cells slots (MQ below (va_Qi post (rOv D cy lay Γ ad s.heap.size) (rA cy lay Γ s.heap.size)) args s cells slots (rA cy lay Γ s.heap.size)) (F0 m pc ls [.int v]) :=
  W.iret hC.1 hC.2.1 hr (fun t ht hW => ⟨⟨v, Y, rfl, h, ⟨by rw [ht]; exact G.1, G.2.1, by rw [ht]; exact rS_moved hW.alike hS, hB⟩, hV, hz⟩, G.2.2.F ht⟩) G.2.2.2.2 hdg hlocks
theorem rS_addb {y : Nat} {a1 : Int32} (h : rS D cy Γ (rA cy lay Γ s.heap.size) s s.heap) (G : gG D lay' (rX cy lay' (Γ.1, Γ.2.1 + 1, Γ.2.2.1, Γ.2.2.2.1, va_up Γ.2.2.2.2.1 Γ.2.1 y, va_up Γ.2.2.2.2.2 Γ.2.1 a1) tn σ') (rA cy lay Γ s.heap.size) s.heap H locs) (b1 : va_O RJ6 y (rA cy lay' (Γ.1, Γ.2.1 + 1, Γ.2.2.1, Γ.2.2.2.1, va_up Γ.2.2.2.2.1 Γ.2.1 y, va_up Γ.2.2.2.2.2 Γ.2.1 a1) H.size) s H) (b2 : va_OF RJ6 "value" "I" (.int a1) y (rA cy lay' (Γ.1, Γ.2.1 + 1, Γ.2.2.1, Γ.2.2.2.1, va_up Γ.2.2.2.2.1 Γ.2.1 y, va_up Γ.2.2.2.2.2 Γ.2.1 a1) H.size) s H) : rS D cy (Γ.1, Γ.2.1 + 1, Γ.2.2.1, Γ.2.2.2.1, va_up Γ.2.2.2.2.1 Γ.2.1 y, va_up Γ.2.2.2.2.2 Γ.2.1 a1) (rA cy lay' (Γ.1, Γ.2.1 + 1, Γ.2.2.1, Γ.2.2.2.1, va_up Γ.2.2.2.2.1 Γ.2.1 y, va_up Γ.2.2.2.2.2 Γ.2.1 a1) H.size) s H := by
  have hk := rS_kept (B := rA cy lay' (Γ.1, Γ.2.1 + 1, Γ.2.2.1, Γ.2.2.2.1, va_up Γ.2.2.2.2.1 Γ.2.1 y, va_up Γ.2.2.2.2.2 Γ.2.1 a1) H.size) h G.2.2.2.1 (fun q hq hB => by
    rcases hB with ⟨k, hk, hX, rfl⟩ | hB
    · rw [r_some (lay' := lay') (tm' := tn) (σ' := σ') hk] at hX
      cases hx : rX cy lay' (Γ.1, Γ.2.1 + 1, Γ.2.2.1, Γ.2.2.2.1, va_up Γ.2.2.2.2.1 Γ.2.1 y, va_up Γ.2.2.2.2.2 Γ.2.1 a1) tn σ' k with
      | none => rw [hx] at hX; cases hX
      | some e => exact G.2.1.2 k e (by omega) hx
    · exact absurd (Nat.le_trans G.2.2.1 hB) (by omega))
  refine ⟨hk.1, fun i hi => ?_⟩
  show va_O RJ6 (va_up Γ.2.2.2.2.1 Γ.2.1 y i) _ _ _ ∧ va_OF RJ6 "value" "I" (.int (va_up Γ.2.2.2.2.2 Γ.2.1 a1 i)) (va_up Γ.2.2.2.2.1 Γ.2.1 y i) _ _ _
  have hi : i < Γ.2.1 + 1 := hi
  by_cases hin : i = Γ.2.1
  · rw [hin, va_up_self, va_up_self]
    exact ⟨b1, b2⟩
  · rw [va_up_ne _ _ hin, va_up_ne _ _ hin]
    exact hk.2 i (by omega)
end KBD
abbrev rm_X11_band : Room := { frames := 5, cells := 2, slots := 11, locals := 220 }
theorem i_X11_band_X11 : ∀ w ∈ wsX110, w ∈ wsX11_band := fun _ h => List.mem_cons_of_mem _ (List.mem_append_left _ (List.mem_append_left _ (List.mem_append_right _ h)))
def w_X11_band (lay : Nat → Nat) (Γ : RG) (post : Int32 → RY → Prop) (σ : MS) (a1 : Int32) : Prop :=
  w_X11_is Γ (fun r σ1 => (r = 0 → w_X11_refuse Γ (fun x σ9 => post x (lay, Γ, σ9)) σ1 1) ∧ (¬ r = 0 → w_X11_needed_ Γ (fun r σ2 => (¬ r ≤ 5 → w_X11_refuse Γ (fun x σ9 => post x (lay, Γ, σ9)) σ2 1) ∧ (r ≤ 5 → w_lb_Jx4a65c_size_8abf5 Γ (fun r σ3 => (r = 6 → w_X11_refuse Γ (fun x σ9 => post x (lay, Γ, σ9)) σ3 2) ∧ (¬ r = 6 → Γ.2.1 < 6 ∧ σ3 2 2 = nI Γ.2.1 ∧ ∀ lay' y, post (nI Γ.2.1) (lay', (Γ.1, Γ.2.1 + 1, Γ.2.2.1, Γ.2.2.2.1, va_up Γ.2.2.2.2.1 Γ.2.1 y, va_up Γ.2.2.2.2.2 Γ.2.1 a1), rbS σ3 Γ.2.1))) σ2)) σ1 a1)) (up2 σ 0 0 0) a1 1 728
set_option maxHeartbeats 4000000 in
set_option maxRecDepth 100000 in
theorem c_X11_band (l : Launch) (D : va_G) (cy : Nat → ClassId) (lay : Nat → Nat) (Γ : RG) (mi ta : Nat) (ad : Nat → Nat) {σ : MS} {post : Int32 → RY → Prop} {a1 : Int32} (h : w_X11_band lay Γ post σ a1) (sz : Nat) : Met l yX11_band wsX11_band rm_X11_band (va_Pc [.ref (lay 0), .int a1] (rIV D cy lay Γ σ mi ta ad sz)) (va_Qi post (rOv D cy lay Γ ad sz) (rA cy lay Γ sz)) 2 11 (rA cy lay Γ sz) := by
  refine rv_ofW (cc := cX11_band) (maxL := 2) (ret := some .int) (own := RX11) (Qc := fun sz => va_Qi post (rOv D cy lay Γ ad sz) (rA cy lay Γ sz)) (by decide) rfl (Nat.le_of_ble_eq_true rfl) rfl ?_
  intro p e0 s m args below meth c ls hC hr hlocks hT hZ hV G hl
  unfold w_X11_band at h
  have hl : lv_has ls 2 [(0, .ref (lay 0)), (1, .int a1)] := hl
  have hA : ∀ q, s.heap.size ≤ q → rA cy lay Γ s.heap.size q := fun _ h => Or.inr h
  refine lv_aload_n hC.1 hC.2.1 dX11_band_0 rfl (lv_at hl 0 rfl) ?_
  refine lv_iconst (v := 0) hC.1 hC.2.1 dX11_band_1 (by decide) ?_
  refine rg_put hC hT G (by decide) r_mo k_X11 i_X11_band_X11 0 (by decide) (wm 1 rfl) rfl rfl (by simp) r_mo (by rw [up2_eq]; rfl) dX11_band_2 (fun H locs G => ?_)
  refine lv_iload_n hC.1 hC.2.1 dX11_band_5 rfl (lv_at hl 1 rfl) ?_
  refine lv_iconst (v := 1) hC.1 hC.2.1 dX11_band_6 (by decide) ?_
  refine lv_sipush (v := 728) hC.1 hC.2.1 dX11_band_7 (by decide) ?_
  refine rg_i G (rg_runS (As := [.int a1, .int 1, .int 728]) (rest := []) hC hT G (c_X11_is l D cy lay Γ h _) (va_cwS 3 hC.2.2.2.2 gX11_band_X11_is rfl rfl rfl hdS_X11_is ⟨Nat.le_of_ble_eq_true rfl, Nat.le_of_ble_eq_true rfl⟩) rfl hl.1 rfl (Nat.le_of_ble_eq_true rfl) dX11_band_10 ⟨Nat.le_of_ble_eq_true rfl, Nat.le_of_ble_eq_true rfl⟩) (fun r1 σ1 H locs h G => ?_)
  (try dsimp only at h)
  refine lv_if_eq (tgt := 24) hC.1 hC.2.1 dX11_band_13 (by decide) (fun c1 => ?_) (fun c1 => ?_)
  · replace h := h.1 c1
    refine lv_aload_n hC.1 hC.2.1 dX11_band_24 rfl (lv_at hl 0 rfl) ?_
    refine lv_iconst (v := 1) hC.1 hC.2.1 dX11_band_25 (by decide) ?_
    refine rg_i G (rg_runV (As := [.int 1]) (rest := []) hC hT G (c_X11_refuse l D cy lay Γ h _) (cwV 1 hC.2.2.2.2 gX11_band_X11_refuse rfl rfl rfl hdV_X11_refuse ⟨Nat.le_of_ble_eq_true rfl, Nat.le_of_ble_eq_true rfl⟩) (rg_recv hT G (by decide) r_mo k_X11) rfl hl.1 rfl (Nat.le_of_ble_eq_true rfl) dX11_band_26 ⟨Nat.le_of_ble_eq_true rfl, Nat.le_of_ble_eq_true rfl⟩) (fun r9 σ9 H locs h G => ?_)
    refine W.widen (k := 2) (n := 11) (by decide) (by decide) ?_
    exact rk_iretv rfl (Y := (lay, Γ, σ9)) hC hr hlocks G (rS_grow hT.2.2.1 G rfl rfl) hT.2.2.2 (fun i hi => Or.inl ⟨hi, rfl⟩) h dX11_band_29
  replace h := h.2 c1
  refine lv_iload_n hC.1 hC.2.1 dX11_band_16 rfl (lv_at hl 1 rfl) ?_
  refine rg_i G (rg_runS (As := [.int a1]) (rest := []) hC hT G (c_X11_needed_ l D cy lay Γ h _) (va_cwS 1 hC.2.2.2.2 gX11_band_X11_needed_ rfl rfl rfl hdS_X11_needed_ ⟨Nat.le_of_ble_eq_true rfl, Nat.le_of_ble_eq_true rfl⟩) rfl hl.1 rfl (Nat.le_of_ble_eq_true rfl) dX11_band_17 ⟨Nat.le_of_ble_eq_true rfl, Nat.le_of_ble_eq_true rfl⟩) (fun r2 σ2 H locs h G => ?_)
  (try dsimp only at h)
  refine lv_iconst (v := 5) hC.1 hC.2.1 dX11_band_20 (by decide) ?_
  refine lv_icmp_le (tgt := 30) hC.1 hC.2.1 dX11_band_21 (by decide) (fun c2 => ?_) (fun c2 => ?_)
  rotate_left
  · replace h := h.1 c2
    refine lv_aload_n hC.1 hC.2.1 dX11_band_24 rfl (lv_at hl 0 rfl) ?_
    refine lv_iconst (v := 1) hC.1 hC.2.1 dX11_band_25 (by decide) ?_
    refine rg_i G (rg_runV (As := [.int 1]) (rest := []) hC hT G (c_X11_refuse l D cy lay Γ h _) (cwV 1 hC.2.2.2.2 gX11_band_X11_refuse rfl rfl rfl hdV_X11_refuse ⟨Nat.le_of_ble_eq_true rfl, Nat.le_of_ble_eq_true rfl⟩) (rg_recv hT G (by decide) r_mo k_X11) rfl hl.1 rfl (Nat.le_of_ble_eq_true rfl) dX11_band_26 ⟨Nat.le_of_ble_eq_true rfl, Nat.le_of_ble_eq_true rfl⟩) (fun r9 σ9 H locs h G => ?_)
    refine W.widen (k := 2) (n := 11) (by decide) (by decide) ?_
    exact rk_iretv rfl (Y := (lay, Γ, σ9)) hC hr hlocks G (rS_grow hT.2.2.1 G rfl rfl) hT.2.2.2 (fun i hi => Or.inl ⟨hi, rfl⟩) h dX11_band_29
  replace h := h.2 c2
  refine lv_aload_n hC.1 hC.2.1 dX11_band_30 rfl (lv_at hl 0 rfl) ?_
  refine rg_get hC hT G (by decide) r_mo k_X11 i_X11_band_X11 4 (by decide) (wm 2 rfl) rfl dX11_band_31 ?_
  refine rg_i G (rg_runV (As := []) (rest := []) hC hT G (c_lb_Jx4a65c_size_8abf5 l D cy lay Γ h _) (cwV 0 hC.2.2.2.2 gX11_band_Jx4a65c_size_8abf5 rfl rfl rfl hdV_Jx4a65c_size_8abf5 ⟨Nat.le_of_ble_eq_true rfl, Nat.le_of_ble_eq_true rfl⟩) (rg_recv hT G (by decide) r_lb k_AL) rfl hl.1 rfl (Nat.le_of_ble_eq_true rfl) dX11_band_34 ⟨Nat.le_of_ble_eq_true rfl, Nat.le_of_ble_eq_true rfl⟩) (fun r3 σ3 H locs h G => ?_)
  (try dsimp only at h)
  refine lv_bipush (v := 6) hC.1 hC.2.1 dX11_band_37 (by decide) ?_
  refine lv_icmp_ne (tgt := 48) hC.1 hC.2.1 dX11_band_39 (by decide) (fun c3 => ?_) (fun c3 => ?_)
  rotate_left
  · replace h := h.1 c3
    refine lv_aload_n hC.1 hC.2.1 dX11_band_42 rfl (lv_at hl 0 rfl) ?_
    refine lv_iconst (v := 2) hC.1 hC.2.1 dX11_band_43 (by decide) ?_
    refine rg_i G (rg_runV (As := [.int 2]) (rest := []) hC hT G (c_X11_refuse l D cy lay Γ h _) (cwV 1 hC.2.2.2.2 gX11_band_X11_refuse rfl rfl rfl hdV_X11_refuse ⟨Nat.le_of_ble_eq_true rfl, Nat.le_of_ble_eq_true rfl⟩) (rg_recv hT G (by decide) r_mo k_X11) rfl hl.1 rfl (Nat.le_of_ble_eq_true rfl) dX11_band_44 ⟨Nat.le_of_ble_eq_true rfl, Nat.le_of_ble_eq_true rfl⟩) (fun r9 σ9 H locs h G => ?_)
    refine W.widen (k := 2) (n := 11) (by decide) (by decide) ?_
    exact rk_iretv rfl (Y := (lay, Γ, σ9)) hC hr hlocks G (rS_grow hT.2.2.1 G rfl rfl) hT.2.2.2 (fun i hi => Or.inl ⟨hi, rfl⟩) h dX11_band_47
  replace h := h.2 c3
  obtain ⟨hP, hsz, h⟩ := h
  refine lv_aload_n hC.1 hC.2.1 dX11_band_48 rfl (lv_at hl 0 rfl) ?_
  refine rg_get hC hT G (by decide) r_mo k_X11 i_X11_band_X11 4 (by decide) (wm 2 rfl) rfl dX11_band_49 ?_
  refine lv_iload_n hC.1 hC.2.1 dX11_band_52 rfl (lv_at hl 1 rfl) ?_
  have G : gG D lay (rX cy lay Γ tn σ3) (rA cy lay Γ s.heap.size) s.heap H locs := G
  have hsz0 : s.heap.size ≤ H.size := G.2.2.1
  refine g_vOf (v := a1) (ad := ad) G hA (kv_runS (As := [.int a1]) (rest := [.ref (lay 2)]) hC ⟨hT.1, hT.2.1⟩ hV hA G (c_vOf l D cy lay _ ta ad ((r_tm (by omega)).trans rfl) _) (va_cwS 1 hC.2.2.2.2 gX11_band_J6_valueOf_2dffe rfl rfl rfl hdS_vOf ⟨Nat.le_of_ble_eq_true rfl, Nat.le_of_ble_eq_true rfl⟩) rfl hl.1 rfl (Nat.le_of_ble_eq_true rfl) dX11_band_53 ⟨Nat.le_of_ble_eq_true rfl, Nat.le_of_ble_eq_true rfl⟩) (fun y H locs G b1 b2 b3 => ?_)
  have b4 : vNew ad s.heap.size y := b3.elim (fun z => Or.inl (Nat.le_trans hsz0 z)) Or.inr
  have fin : ∀ (L' : Nat → Nat) (H2 : Heap) (locs2 : List Loc), L' 0 = lay 0 → gG D L' (rX cy L' (Γ.1, Γ.2.1 + 1, Γ.2.2.1, Γ.2.2.2.1, va_up Γ.2.2.2.2.1 Γ.2.1 y, va_up Γ.2.2.2.2.2 Γ.2.1 a1) tn (rbS σ3 Γ.2.1)) (rA cy lay Γ s.heap.size) s.heap H2 locs2 → H.size ≤ H2.size → (∀ q : Nat, q < H.size → ¬ gA lay (rX cy lay Γ tn σ3) H.size q → H2[q]? = H[q]?) → gI (gA lay (rX cy lay Γ tn σ3) H.size) L' (rX cy L' (Γ.1, Γ.2.1 + 1, Γ.2.2.1, Γ.2.2.2.1, va_up Γ.2.2.2.2.1 Γ.2.1 y, va_up Γ.2.2.2.2.2 Γ.2.1 a1) tn (rbS σ3 Γ.2.1)) → W p l e0 rm_X11_band s m args below meth c H2 locs2 2 11 (MQ below (va_Qi post (rOv D cy lay Γ ad s.heap.size) (rA cy lay Γ s.heap.size)) args s 2 11 (rA cy lay Γ s.heap.size)) (F0 m 59 ls [.int 1]) := by
    intro L' H2 locs2 z0 G2 hz hk hI
    have hB : ∀ q, q < H.size → rA cy L' (Γ.1, Γ.2.1 + 1, Γ.2.2.1, Γ.2.2.2.1, va_up Γ.2.2.2.2.1 Γ.2.1 y, va_up Γ.2.2.2.2.2 Γ.2.1 a1) H2.size q → gA lay (rX cy lay Γ tn σ3) H.size q := fun q hq hB => by
      rcases hB with ⟨k, hk, hX, rfl⟩ | hB
      · rw [r_some (lay' := L') (tm' := tn) (σ' := rbS σ3 Γ.2.1) hk] at hX
        cases hx : rX cy L' (Γ.1, Γ.2.1 + 1, Γ.2.2.1, Γ.2.2.2.1, va_up Γ.2.2.2.2.1 Γ.2.1 y, va_up Γ.2.2.2.2.2 Γ.2.1 a1) tn (rbS σ3 Γ.2.1) k with
        | none => rw [hx] at hX; cases hX
        | some e => exact hI.2 k e (by omega) hx
      · exact absurd (Nat.le_trans hz hB) (by omega)
    have hS := rS_addb hT.2.2.1 G2 (bxO_kept b1 hk hB) (bxF_kept b2 hk hB)
    have hv : ∀ i, i < Γ.2.1 + 1 → (i < Γ.2.1 ∧ va_up Γ.2.2.2.2.1 Γ.2.1 y i = Γ.2.2.2.2.1 i) ∨ vNew ad s.heap.size (va_up Γ.2.2.2.2.1 Γ.2.1 y i) := fun i hi => by
      by_cases e : i = Γ.2.1
      · rw [e, va_up_self]; exact Or.inr b4
      · rw [va_up_ne _ _ e]; exact Or.inl ⟨by omega, rfl⟩
    refine lv_pop hC.1 hC.2.1 dX11_band_59 rfl ?_
    refine lv_aload_n hC.1 hC.2.1 dX11_band_60 rfl (lv_at hl 0 rfl) ?_
    rw [← z0]
    refine g_get (k := 0) hC hT.1 G2 (by decide) r_mo k_X11 i_X11_band_X11 4 (by decide) (wm 2 rfl) rfl dX11_band_61 ?_
    refine g_ik G2 hA (h_runV (As := []) (rest := []) hC ⟨hT.1, hT.2.1⟩ G2 (c_gsz l D cy L' _ (k := 2) (by decide) r_lb _) (cwV 0 hC.2.2.2.2 gX11_band_Jx4a65c_size_8abf5 rfl rfl rfl hdV_Jx4a65c_size_8abf5 ⟨Nat.le_of_ble_eq_true rfl, Nat.le_of_ble_eq_true rfl⟩) (h_recv (k := 2) ⟨hT.1, hT.2.1⟩ G2 (by decide) r_lb k_AL) rfl hl.1 rfl (Nat.le_of_ble_eq_true rfl) dX11_band_64 ⟨Nat.le_of_ble_eq_true rfl, Nat.le_of_ble_eq_true rfl⟩) (fun r Y H3 locs3 hY G3 hz3 hk3 hI3 => ?_)
    obtain ⟨rfl, rfl⟩ := hY
    have hB3 : ∀ q, q < H2.size → rA cy L' (Γ.1, Γ.2.1 + 1, Γ.2.2.1, Γ.2.2.2.1, va_up Γ.2.2.2.2.1 Γ.2.1 y, va_up Γ.2.2.2.2.2 Γ.2.1 a1) H3.size q → rA cy L' (Γ.1, Γ.2.1 + 1, Γ.2.2.1, Γ.2.2.2.1, va_up Γ.2.2.2.2.1 Γ.2.1 y, va_up Γ.2.2.2.2.2 Γ.2.1 a1) H2.size q := fun q hq hB => hB.elim Or.inl (fun h2 => absurd (Nat.le_trans hz3 h2) (by omega))
    have hq3 : ∀ q : Nat, q < H2.size → ¬ rA cy L' (Γ.1, Γ.2.1 + 1, Γ.2.2.1, Γ.2.2.2.1, va_up Γ.2.2.2.2.1 Γ.2.1 y, va_up Γ.2.2.2.2.2 Γ.2.1 a1) H2.size q → H3[q]? = H2[q]? := fun q hq hn => hk3 q hq (fun z => hn (by
      rcases z with ⟨k, e, hk, hX, rfl⟩ | z
      · by_cases h64 : k < 64
        · exact Or.inl ⟨k, h64, by rw [r_some (lay' := L') (tm' := tn) (σ' := rbS σ3 Γ.2.1) h64, hX]; rfl, rfl⟩
        · rw [r_tm (by omega)] at hX
          exact absurd hX (by unfold tn; simp)
      · exact Or.inr z))
    have hS3 := rS_kept hS hq3 hB3
    refine lv_iconst (v := 1) hC.1 hC.2.1 dX11_band_67 (by decide) ?_
    refine lv_isub hC.1 hC.2.1 dX11_band_68 ?_
    rw [show rbS σ3 Γ.2.1 2 2 = nI (Γ.2.1 + 1) from rfl, nI_pred]
    exact rk_iretv z0 (Y := (L', (Γ.1, Γ.2.1 + 1, Γ.2.2.1, Γ.2.2.2.1, va_up Γ.2.2.2.2.1 Γ.2.1 y, va_up Γ.2.2.2.2.2 Γ.2.1 a1), rbS σ3 Γ.2.1)) hC hr hlocks G3 hS3 ⟨hT.2.2.2.1, by show Γ.2.1 + 1 ≤ 6; omega, hT.2.2.2.2.2⟩ hv (h L' y) dX11_band_69
  by_cases hP0 : Γ.2.1 = 0
  · have x1 : rX cy lay Γ tn σ3 2 = some (.inr (4, [.int (σ3 2 0), .ref Γ.2.2.2.1, .int 0])) := by rw [r_lb, if_pos hP0, hsz, hP0]; rfl
    refine g_ik G hA (kb_runV (C := RJ6) (b := lay 2) (As := [.ref y]) (rest := []) hC ⟨hT.1, hT.2.1⟩ hZ hA G b1 (c_bdd_0 l D cy lay (rX cy lay Γ tn σ3) Γ.2.2.2.1 mi (kl := 2) (ke := 5) (v := y) (qn := 27) (by decide) (by decide) (by decide) x1 (r_no_eb hP0) rfl _) (cwV 1 hC.2.2.2.2 gX11_band_Jx4a65c_add_9ea2d rfl rfl rfl hdV_add ⟨Nat.le_of_ble_eq_true rfl, Nat.le_of_ble_eq_true rfl⟩) (h_recv (k := 2) ⟨hT.1, hT.2.1⟩ G (by decide) x1 k_AL) rfl hl.1 rfl (Nat.le_of_ble_eq_true rfl) dX11_band_56 ⟨Nat.le_of_ble_eq_true rfl, Nat.le_of_ble_eq_true rfl⟩) (fun r Y H2 locs2 hY G2 hz hk hI => ?_)
    obtain ⟨rfl, q4, rfl⟩ := hY
    have hw : ∀ k, adX cy (rX cy lay Γ tn σ3) 2 5 (σ3 2 0 + 1) q4 10 0 (fun _ => none) y k = rX cy (gU lay 5 q4) (Γ.1, Γ.2.1 + 1, Γ.2.2.1, Γ.2.2.2.1, va_up Γ.2.2.2.2.1 Γ.2.1 y, va_up Γ.2.2.2.2.2 Γ.2.1 a1) tn (rbS σ3 Γ.2.1) k := fun k => by
      rw [← r_addb (lay' := gU lay 5 q4) (o := q4) (y := y) (a1 := a1) (f' := va_up (fun _ => none) 0 (some y)) (fun k b => gU_ne b) gU_eq ?_ k]
      · unfold adX
        rw [hP0]
      · funext i
        by_cases hi : i = 0
        · rw [hi, va_up_self, if_pos (by omega), show (0 : Nat) = Γ.2.1 from hP0.symm, va_up_self]
        · rw [va_up_ne _ _ hi, if_neg (by omega)]
    have hw2 : adX cy (rX cy lay Γ tn σ3) 2 5 (σ3 2 0 + 1) q4 10 0 (fun _ => none) y = rX cy (gU lay 5 q4) (Γ.1, Γ.2.1 + 1, Γ.2.2.1, Γ.2.2.2.1, va_up Γ.2.2.2.2.1 Γ.2.1 y, va_up Γ.2.2.2.2.2 Γ.2.1 a1) tn (rbS σ3 Γ.2.1) := funext hw
    dsimp only at G2 hI
    rw [hw2] at G2 hI
    exact fin (gU lay 5 q4) H2 locs2 (gU_ne (by decide)) G2 hz hk hI
  · have x1 : rX cy lay Γ tn σ3 2 = some (.inr (4, [.int (σ3 2 0), .ref (lay 5), .int (nI Γ.2.1)])) := by rw [r_lb, if_neg hP0, hsz]
    refine g_ik G hA (kb_runV (C := RJ6) (b := lay 2) (As := [.ref y]) (rest := []) hC ⟨hT.1, hT.2.1⟩ hZ hA G b1 (c_bdd_A l D cy lay (rX cy lay Γ tn σ3) Γ.2.2.2.1 mi (kl := 2) (ke := 5) (v := y) (qn := 27) (n := Γ.2.1) (cap := 10) (by decide) (by decide) (by decide) (by omega) (by decide) x1 (r_ebb hP0) rfl _) (cwV 1 hC.2.2.2.2 gX11_band_Jx4a65c_add_9ea2d rfl rfl rfl hdV_add ⟨Nat.le_of_ble_eq_true rfl, Nat.le_of_ble_eq_true rfl⟩) (h_recv (k := 2) ⟨hT.1, hT.2.1⟩ G (by decide) x1 k_AL) rfl hl.1 rfl (Nat.le_of_ble_eq_true rfl) dX11_band_56 ⟨Nat.le_of_ble_eq_true rfl, Nat.le_of_ble_eq_true rfl⟩) (fun r Y H2 locs2 hY G2 hz hk hI => ?_)
    obtain ⟨rfl, rfl⟩ := hY
    have hw : ∀ k, adX cy (rX cy lay Γ tn σ3) 2 5 (σ3 2 0 + 1) (lay 5) 10 Γ.2.1 (fun i => if i < Γ.2.1 then some (Γ.2.2.2.2.1 i) else none) y k = rX cy lay (Γ.1, Γ.2.1 + 1, Γ.2.2.1, Γ.2.2.2.1, va_up Γ.2.2.2.2.1 Γ.2.1 y, va_up Γ.2.2.2.2.2 Γ.2.1 a1) tn (rbS σ3 Γ.2.1) k := fun k => by
      rw [← r_addb (lay' := lay) (o := lay 5) (y := y) (a1 := a1) (f' := va_up (fun i => if i < Γ.2.1 then some (Γ.2.2.2.2.1 i) else none) Γ.2.1 (some y)) (fun k _ => rfl) rfl ?_ k]
      · rfl
      · funext i
        by_cases hi : i = Γ.2.1
        · rw [hi, va_up_self, if_pos (by omega), va_up_self]
        · rw [va_up_ne _ _ hi, va_up_ne _ _ hi]
          by_cases h2 : i < Γ.2.1
          · rw [if_pos h2, if_pos (by omega)]
          · rw [if_neg h2, if_neg (by omega)]
    have hw2 : adX cy (rX cy lay Γ tn σ3) 2 5 (σ3 2 0 + 1) (lay 5) 10 Γ.2.1 (fun i => if i < Γ.2.1 then some (Γ.2.2.2.2.1 i) else none) y = rX cy lay (Γ.1, Γ.2.1 + 1, Γ.2.2.1, Γ.2.2.2.1, va_up Γ.2.2.2.2.1 Γ.2.1 y, va_up Γ.2.2.2.2.2 Γ.2.1 a1) tn (rbS σ3 Γ.2.1) := funext hw
    dsimp only at G2 hI
    rw [hw2] at G2 hI
    exact fin lay H2 locs2 rfl G2 hz hk hI
