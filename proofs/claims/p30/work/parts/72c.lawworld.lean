/-! THE LAW'S WORLD, WHOLE: class and Out, the reference beside them -/
abbrev lgA (n : Nat) : Nat → Prop := fun q => n ≤ q
/-- what the tables say, before there is a class's world -/
def lgT (D : va_G) (cy : Nat → ClassId) (U : State) : Prop :=
  va_K D vwCl (fdT cy) U ∧ (∀ w ∈ nestL, va_Nw w U) ∧ (∀ q ∈ strL, ∃ sa, vk_R q.1 q.2.1 q.2.2 sa U) ∧
  vx_Zq Bundle.tN "UNASSIGNED_STACK" Bundle.steD (lgA U.heap.size) U U.heap ∧ vx_Zq Bundle.tN "SUPPRESSED_SENTINEL" Bundle.listD (lgA U.heap.size) U U.heap
/-- .. of both classes, of texts, of Integers -/
def lwT (D : va_G) (cy : Nat → ClassId) (ea mi ta : Nat) (ad ac am : Nat → Nat) (s : State) : Prop :=
  lgT D cy s ∧ woT s ∧ rN s ∧ hZs D cy ea mi (lgA s.heap.size) s ∧ hVs ta ad (lgA s.heap.size) s ∧ tB D cy (lgA s.heap.size) s s.heap ∧ kS RX7 cTx ac (lgA s.heap.size) s s.heap ∧ kS RX11 mTx am (lgA s.heap.size) s s.heap
def rC (cy : Nat → ClassId) (Y : RY) : Nat → Prop := fun q => ∃ k, k < 64 ∧ (rX cy Y.1 Y.2.1 tn (fun _ _ => 0) k).isSome = true ∧ q = Y.1 k
def lwA (cy : Nat → ClassId) (lay : Nat → Nat) (o : Nat) (Y : RY) (n : Nat) : Nat → Prop := fun q => (woC lay o q ∨ rC cy Y q) ∨ n ≤ q
def lwG (D : va_G) (cy : Nat → ClassId) (lay : Nat → Nat) (o : Nat) (u : OU) (Y : RY) (s : State) (H : Heap) (locs : List Loc) : Prop :=
  (va_P D vwCl (woW cy lay o u) H ∧ va_D (lgA s.heap.size) (woW cy lay o u)) ∧ (gP D Y.1 (rX cy Y.1 Y.2.1 tn Y.2.2) H ∧ gI (lgA s.heap.size) Y.1 (rX cy Y.1 Y.2.1 tn Y.2.2)) ∧
  rS D cy Y.2.1 (lwA cy lay o Y H.size) s H ∧ rB Y.2.1 ∧ (∀ q, woC lay o q → ¬ rC cy Y q) ∧ va_S (lgA s.heap.size) s.heap H locs
section LWA
variable {D : va_G} {cy : Nat → ClassId} {lay : Nat → Nat} {o : Nat} {u u' : OU} {Y Y' : RY} {Γ : RG} {σ σ' : MS} {H0 H H1 : Heap} {locs locs1 : List Loc} {s t U : State} {As : List Value} {sz ea mi ta : Nat} {ad ac am : Nat → Nat} {A B : Nat → Prop}
theorem lgT.ag (hT : lgT D cy s) (h : ∀ k, k < 87 → s.heap.size ≤ lay k) : agT D cy lay s := by
  have hA : ∀ q, agA lay s.heap.size q → lgA s.heap.size q := fun q h2 => h2.elim (fun ⟨k, hk, e⟩ => by rw [e]; exact h k hk) id
  exact ⟨hT.1, hT.2.1, hT.2.2.1, hT.2.2.2.1.narrow hA, hT.2.2.2.2.narrow hA⟩
theorem rC_some {k : Nat} {e : va_E} (hX : rX cy Y.1 Y.2.1 tn Y.2.2 k = some e) : k < 64 ∧ rC cy Y (Y.1 k) := by
  by_cases h64 : k < 64
  · exact ⟨h64, k, h64, by rw [r_some (lay' := Y.1) (tm' := tn) (σ' := Y.2.2) h64, hX]; rfl, rfl⟩
  · rw [r_tm (by omega)] at hX
    exact absurd hX (by unfold tn; simp)
theorem rC_cell {q : Nat} (h : rC cy Y q) : ∃ k e, k < 128 ∧ rX cy Y.1 Y.2.1 tn Y.2.2 k = some e ∧ q = Y.1 k := by
  obtain ⟨k, hk, hX, rfl⟩ := h
  rw [r_some (lay' := Y.1) (tm' := tn) (σ' := Y.2.2) hk] at hX
  cases hx : rX cy Y.1 Y.2.1 tn Y.2.2 k with
  | none => rw [hx] at hX; cases hX
  | some e => exact ⟨k, e, by omega, hx, rfl⟩
theorem rC_lt (h : gP D Y.1 (rX cy Y.1 Y.2.1 tn Y.2.2) H) {q : Nat} (hq : rC cy Y q) : q < H.size := by
  obtain ⟨k, e, hk, hX, rfl⟩ := rC_cell hq
  exact (h k e hk hX).lt
theorem rC_in (h : gI A Y.1 (rX cy Y.1 Y.2.1 tn Y.2.2)) {q : Nat} (hq : rC cy Y q) : A q := by
  obtain ⟨k, e, hk, hX, rfl⟩ := rC_cell hq
  exact h.2 k e hk hX
theorem gI_A (h : gI A Y.1 (rX cy Y.1 Y.2.1 tn Y.2.2)) (hA : ∀ q, rC cy Y q → B q) : gI B Y.1 (rX cy Y.1 Y.2.1 tn Y.2.2) := ⟨h.1, fun _ _ _ hX => hA _ (rC_some hX).2⟩
theorem rS_A (h : rS D cy Γ A s H) (h0 : ¬ B Γ.2.2.2.1) (hi : ∀ i, i < Γ.2.1 → ¬ B (Γ.2.2.2.2.1 i)) : rS D cy Γ B s H := by
  refine ⟨⟨h.1.1, h0⟩, fun i hi' => ?_⟩
  obtain ⟨⟨cell, h1, h2, h3, _⟩, cf, k, j, f, c2, k1, k2, k3, k4, k5, _⟩ := h.2 i hi'
  exact ⟨⟨cell, h1, h2, h3, hi i hi'⟩, cf, k, j, f, c2, k1, k2, k3, k4, k5, hi i hi'⟩
theorem rS_out (h : rS D cy Γ A s H) : ¬ A Γ.2.2.2.1 ∧ ∀ i, i < Γ.2.1 → ¬ A (Γ.2.2.2.2.1 i) := ⟨h.1.2, fun i hi => by
  obtain ⟨⟨cell, h1, h2, h3, h4⟩, _⟩ := h.2 i hi
  exact h4⟩
theorem lw_ref (G : lwG D cy lay o u Y s H locs) {q : Nat} (hq : rC cy Y q) : ¬ woA lay o H.size q := fun z => z.elim (fun z => G.2.2.2.2.1 q z hq) (fun z => absurd (rC_lt G.2.1.1 hq) (Nat.not_lt.mpr z))
theorem lw_cls (G : lwG D cy lay o u Y s H locs) {q : Nat} (hq : woC lay o q) : ¬ rA cy Y.1 Y.2.1 H.size q := fun z => z.elim (fun z => G.2.2.2.2.1 q hq z) (fun z => absurd (wo_lt G.1.1 q hq) (Nat.not_lt.mpr z))
theorem lw_in (G : lwG D cy lay o u Y s H locs) : ∀ q, woA lay o H.size q → lgA s.heap.size q := fun q hq => by
  rcases hq with (⟨k, hk, rfl⟩ | rfl) | hq
  · obtain ⟨q0, e1, e2⟩ := wo_at (cy := cy) (lay := lay) (o := o) (u := u) (k := k) (by omega)
    have := G.1.2.2 k q0 e1
    rw [e2, if_pos hk] at this
    exact this
  · exact G.1.2.2 87 _ wo_87
  · exact Nat.le_trans G.2.2.2.2.2.1 hq
theorem lw_inA (G : lwG D cy lay o u Y s H locs) : ∀ q, agA lay H.size q → lgA s.heap.size q := fun q hq => lw_in G q (wo_le (Nat.le_refl _) q hq)
theorem lw_inR (G : lwG D cy lay o u Y s H locs) : ∀ q, rA cy Y.1 Y.2.1 H.size q → lgA s.heap.size q := fun _ hq => hq.elim (fun z => rC_in G.2.1.2 z) (fun z => Nat.le_trans G.2.2.2.2.2.1 z)
theorem lwG_wo (G : lwG D cy lay o u Y s H locs) (hB : woO D cy lay o u' t) (ht : t.heap = H1) (hz : H.size ≤ H1.size) (hk : ∀ q : Nat, q < H.size → ¬ woA lay o H.size q → H1[q]? = H[q]?) (hS : va_S (lgA s.heap.size) s.heap H1 locs1) : lwG D cy lay o u' Y s H1 locs1 :=
  ⟨⟨by rw [← ht]; exact hB.1, wo_D G.1.2 (fun _ _ h => h)⟩, ⟨fun k e hk2 hX => (G.2.1.1 k e hk2 hX).kept (hk _ (G.2.1.1 k e hk2 hX).lt (lw_ref G (rC_some hX).2)), G.2.1.2⟩,
   rS_kept G.2.2.1 (fun q hq hn => hk q hq (fun z => hn (z.elim (fun z => Or.inl (Or.inl z)) Or.inr))) (fun q hq hB => hB.elim Or.inl (fun z => absurd hq (by omega))), G.2.2.2.1, G.2.2.2.2.1, hS⟩
theorem lwG_ag (G : lwG D cy lay o u Y s H locs) (hB : agO D cy lay σ' t) (ht : t.heap = H1) (hz : H.size ≤ H1.size) (hk : ∀ q : Nat, q < H.size → ¬ agA lay H.size q → H1[q]? = H[q]?) (hS : va_S (lgA s.heap.size) s.heap H1 locs1) : lwG D cy lay o (σ', u.2) Y s H1 locs1 := by
  have hw := wo_back G.1.1 (wo_D (u' := u) G.1.2 (fun _ _ _ => trivial)) hB ht hk
  exact lwG_wo (u' := (σ', u.2)) (t := t) G ⟨by rw [ht]; exact hw.1, hw.2⟩ ht hz (fun q h1 h2 => hk q h1 (fun z => h2 (wo_le (Nat.le_refl _) q z))) hS
theorem lwG_r (G : lwG D cy lay o u Y s H locs) (hB : rO D cy Y.1 Y.2.1 σ' t) (ht : t.heap = H1) (hz : H.size ≤ H1.size) (hk : ∀ q : Nat, q < H.size → ¬ rA cy Y.1 Y.2.1 H.size q → H1[q]? = H[q]?) (hS : va_S (lgA s.heap.size) s.heap H1 locs1) : lwG D cy lay o u (Y.1, Y.2.1, σ') s H1 locs1 :=
  ⟨⟨fun k q hk2 => (G.1.1 k q hk2).kept (hk q.1 (G.1.1 k q hk2).lt (lw_cls G (wo_inC hk2))), G.1.2⟩, ⟨by rw [← ht]; exact hB.1, gI_A (Y := (Y.1, Y.2.1, σ')) hB.2 (fun q hq => rC_in G.2.1.2 (show rC cy Y q from hq))⟩,
   rS_kept G.2.2.1 (fun q hq hn => hk q hq (fun z => hn (z.elim (fun z => Or.inl (Or.inr z)) Or.inr))) (fun q hq hB => hB.elim Or.inl (fun z => absurd hq (by omega))), G.2.2.2.1, G.2.2.2.2.1, hS⟩
theorem lwG_n (G : lwG D cy lay o u Y s H locs) (hB : rOn D cy (rA cy Y.1 Y.2.1 H.size) Y' t) (hea : ¬ woC lay o Y'.2.1.2.2.2.1) (hv : ∀ i, i < Y'.2.1.2.1 → ¬ woC lay o (Y'.2.1.2.2.2.2.1 i)) (hvm : s.vm.Alike t.vm) (ht : t.heap = H1) (hz : H.size ≤ H1.size) (hk : ∀ q : Nat, q < H.size → ¬ rA cy Y.1 Y.2.1 H.size q → H1[q]? = H[q]?) (hS : va_S (lgA s.heap.size) s.heap H1 locs1) : lwG D cy lay o u Y' s H1 locs1 := by
  obtain ⟨b1, b2, b3, b4⟩ := hB
  subst ht
  have hn : ∀ q, rC cy Y' q → rC cy Y q ∨ H.size ≤ q := fun q hq => rC_in b2 hq
  have ho := rS_out b3
  refine ⟨⟨fun k q hk2 => (G.1.1 k q hk2).kept (hk q.1 (G.1.1 k q hk2).lt (lw_cls G (wo_inC hk2))), G.1.2⟩, ⟨b1, gI_A b2 (fun q hq => (hn q hq).elim (fun z => rC_in G.2.1.2 z) (fun z => Nat.le_trans G.2.2.2.2.2.1 z))⟩,
   rS_moved hvm.symm (rS_A b3 (fun z => ?_) (fun i hi z => ?_)), b4, fun q hq z => (hn q z).elim (fun z => G.2.2.2.2.1 q hq z) (fun z => absurd (wo_lt G.1.1 q hq) (Nat.not_lt.mpr z)), hS⟩
  · rcases z with (z | z) | z
    · exact hea z
    · exact ho.1 (Or.inl z)
    · exact ho.1 (Or.inr z)
  · rcases z with (z | z) | z
    · exact hv i hi z
    · exact ho.2 i hi (Or.inl z)
    · exact ho.2 i hi (Or.inr z)
theorem lw_ea (G : lwG D cy lay o u Y s H locs) : ¬ woC lay o Y.2.1.2.2.2.1 ∧ ∀ i, i < Y.2.1.2.1 → ¬ woC lay o (Y.2.1.2.2.2.2.1 i) := ⟨fun z => (rS_out G.2.2.1).1 (Or.inl (Or.inl z)), fun i hi z => (rS_out G.2.2.1).2 i hi (Or.inl (Or.inl z))⟩
theorem lw_new (hT : lwT D cy ea mi ta ad ac am s) (G : lwG D cy lay o u Y s H locs) {y : Nat} (h : vNew ad H.size y) : ¬ woC lay o y := fun z => by
  rcases h with h | ⟨k, hk, rfl⟩
  · exact absurd (wo_lt G.1.1 y z) (Nat.not_lt.mpr h)
  · obtain ⟨cell, h1, h2, h3, h4⟩ := hT.2.2.2.2.1.2.2.2.1 k hk
    exact h4 (lw_in G _ (Or.inl z))
theorem lw_agG (G : lwG D cy lay o u Y s H locs) : agG D cy lay u.1 (agA lay s.heap.size) s.heap H locs :=
  ⟨fun k q h => G.1.1 k q (wo_pre h), agD_of (A := lgA s.heap.size) ⟨fun i j p q hi hj => G.1.2.1 i j p q (wo_pre hi) (wo_pre hj), fun k q h => G.1.2.2 k q (wo_pre h)⟩,
   ⟨G.2.2.2.2.2.1, fun q h1 h2 => G.2.2.2.2.2.2.1 q h1 (fun h3 => h2 (Or.inr h3)), fun l hl => Or.inr (G.2.2.2.2.2.2.2 l hl)⟩⟩
theorem lw_agT (hT : lwT D cy ea mi ta ad ac am s) (G : lwG D cy lay o u Y s H locs) : agT D cy lay s := hT.1.ag (fun k hk => lw_in G (lay k) (Or.inl (Or.inl ⟨k, hk, rfl⟩)))
theorem lw_agI (hT : lwT D cy ea mi ta ad ac am s) (G : lwG D cy lay o u Y s H locs) (hU : U.heap = H) (hW : s.WarmedH U.vm) : agI D cy lay u.1 H.size U := agI_next (lw_agT hT G) (lw_agG G) hU hW
theorem lw_woI (hT : lwT D cy ea mi ta ad ac am s) (G : lwG D cy lay o u Y s H locs) (hU : U.heap = H) (hW : s.WarmedH U.vm) : woI D cy lay o u H.size U := ⟨lw_agI hT G hU hW, ⟨by rw [hU]; exact G.1.1, wo_D G.1.2 (fun _ _ _ => trivial)⟩, woT.moved hW.alike hT.2.1⟩
theorem lw_tB (hT : lwT D cy ea mi ta ad ac am s) (G : lwG D cy lay o u Y s H locs) (hB : ∀ q, B q → lgA s.heap.size q) (hU : U.heap = H) (hW : s.WarmedH U.vm) : tB D cy B U U.heap := by
  rw [hU]
  exact tB_warm hW ((hT.2.2.2.2.2.1.kept G.2.2.2.2.2.2.1).narrow hB)
theorem lw_woIK (hT : lwT D cy ea mi ta ad ac am s) (G : lwG D cy lay o u Y s H locs) (hU : U.heap = H) (hW : s.WarmedH U.vm) : woIK D cy lay o ac u H.size U := by
  refine ⟨⟨lw_agI hT G hU hW, lw_tB hT G (lw_inA G) hU hW, ?_⟩, ⟨by rw [hU]; exact G.1.1, wo_D G.1.2 (fun _ _ _ => trivial)⟩, woT.moved hW.alike hT.2.1⟩
  rw [hU]
  exact kS.warm hW ((hT.2.2.2.2.2.2.1.kept G.2.2.2.2.2.2.1).narrow (lw_inA G))
theorem lw_rI (hT : lwT D cy ea mi ta ad ac am s) (G : lwG D cy lay o u Y s H locs) (hU : U.heap = H) (hW : s.WarmedH U.vm) : rI D cy Y.1 Y.2.1 Y.2.2 H.size U := by
  subst hU
  exact ⟨rfl, ⟨va_K.moved hW.alike hT.1.1, rN_warm hW hT.2.2.1, rS_moved hW.alike (rS_kept G.2.2.1 (fun _ _ _ => rfl) (fun q _ hB => hB.elim (fun z => Or.inl (Or.inr z)) Or.inr)), G.2.2.2.1⟩, G.2.1.1, gI_true G.2.1.2⟩
theorem lw_rIK (hT : lwT D cy ea mi ta ad ac am s) (he : Y.2.1.2.2.2.1 = ea) (G : lwG D cy lay o u Y s H locs) (hU : U.heap = H) (hW : s.WarmedH U.vm) : rIK D cy Y.1 Y.2.1 Y.2.2 mi H.size U := by
  refine ⟨lw_rI hT G hU hW, ?_⟩
  rw [he]
  exact hZs_next hT.2.2.2.1 G.2.2.2.2.2 (lw_inR G) hU hW
theorem lw_rIV (hT : lwT D cy ea mi ta ad ac am s) (he : Y.2.1.2.2.2.1 = ea) (G : lwG D cy lay o u Y s H locs) (hU : U.heap = H) (hW : s.WarmedH U.vm) : rIV D cy Y.1 Y.2.1 Y.2.2 mi ta ad H.size U := ⟨lw_rIK hT he G hU hW, hVs_next hT.2.2.2.2.1 G.2.2.2.2.2 (lw_inR G) hU hW⟩
theorem lw_rIT (hT : lwT D cy ea mi ta ad ac am s) (G : lwG D cy lay o u Y s H locs) (hU : U.heap = H) (hW : s.WarmedH U.vm) : rIT D cy Y.1 Y.2.1 Y.2.2 am H.size U := by
  refine ⟨lw_rI hT G hU hW, lw_tB hT G (lw_inR G) hU hW, ?_⟩
  rw [hU]
  exact kS.warm hW ((hT.2.2.2.2.2.2.2.kept G.2.2.2.2.2.2.1).narrow (lw_inR G))
theorem lw_recv (hT : lwT D cy ea mi ta ad ac am s) (G : lwG D cy lay o u Y s H locs) : ∃ cell : Cell, H[Y.1 0]? = some cell ∧ cell.vm.isStatics = false ∧ s.vm.findClass RX11 = some cell.cls := by
  obtain ⟨q0, hq⟩ := gW_pos (lay := Y.1) (X := rX cy Y.1 Y.2.1 tn Y.2.2) (k := 0) (by decide) r_mo
  exact va_recv hT.1.1 (gP_list G.2.1.1) k_X11.1 hq
end LWA
section LWR
variable {p : Program} {l : Launch} {e : Env} {R : Room} {s : State} {m : MethodId} {args : Array Value} {below : List Frame} {meth : Method} {c : Code} {H : Heap} {locs : List Loc} {cells slots : Nat} {Q : State → Prop}
variable {cc bytes : ByteArray} {pc nL maxL mc ms kc ks n index : Nat} {ls : Array Slot} {ST rest As : List Value} {D : va_G} {cy : Nat → ClassId} {lay : Nat → Nat} {o : Nat} {u : OU} {Y : RY} {Ts ws : List Cond} {own Cn host : String} {y : MethodName} {ret : Option FieldType} {rm : Room} {b : Addr} {hh : List (Nat × Nat × Nat × Nat)} {ea mi ta : Nat} {ad ac am : Nat → Nat}
/-- a wrapper is called -/
theorem lw_w {post : Int32 → OU → Prop} (hC : CallFix p m c cc nL s args Ts own) (hT : lwT D cy ea mi ta ad ac am s) (G : lwG D cy lay o u Y s H locs) (hM : Met l y ws rm (va_Pc As (woI D cy lay o u H.size)) (va_Qi post (woO D cy lay o) (woA lay o H.size)) mc ms (woA lay o H.size)) (cw : vx_CSW R s args own index y bytes maxL ret hh ws rm mc ms n)
    (hn : As.length = n) (hls : ls.size = nL) (hst : ST = As.reverse ++ rest) (hW : (rest.map fun v => v.category).sum ≤ 8) (hdg : decode cc pc = .ok (.invokestatic index, 3)) (hf : cells + mc ≤ R.cells ∧ slots + ms ≤ R.slots)
    (kk : ∀ (r : Int32) (u' : OU) (H1 : Heap) (locs1 : List Loc), post r u' → lwG D cy lay o u' Y s H1 locs1 → W p l e R s m args below meth c H1 locs1 (cells + mc) (slots + ms) Q (F0 m (pc + 3) ls (.int r :: rest))) : W p l e R s m args below meth c H locs cells slots Q (F0 m pc ls ST) :=
  va_calli (vx_runSW hC hM cw ⟨woI_blind, fun U hU hW => ⟨rfl, lw_woI hT G hU hW⟩⟩ rfl hn hls hst (lv_room hW) hdg hf) G.2.2.2.2.2 (fun q _ h => lw_in G q h) (lw_in G) (fun r v t H1 locs1 ht hvm hw hB hz hk hS => kk r v H1 locs1 hw (lwG_wo G hB ht hz hk hS))
theorem lw_wK {post : Int32 → OU → Prop} (hC : CallFix p m c cc nL s args Ts own) (hT : lwT D cy ea mi ta ad ac am s) (G : lwG D cy lay o u Y s H locs) (hM : Met l y ws rm (va_Pc As (woIK D cy lay o ac u H.size)) (va_Qi post (woO D cy lay o) (woA lay o H.size)) mc ms (woA lay o H.size)) (cw : vx_CSW R s args own index y bytes maxL ret hh ws rm mc ms n)
    (hn : As.length = n) (hls : ls.size = nL) (hst : ST = As.reverse ++ rest) (hW : (rest.map fun v => v.category).sum ≤ 8) (hdg : decode cc pc = .ok (.invokestatic index, 3)) (hf : cells + mc ≤ R.cells ∧ slots + ms ≤ R.slots)
    (kk : ∀ (r : Int32) (u' : OU) (H1 : Heap) (locs1 : List Loc), post r u' → lwG D cy lay o u' Y s H1 locs1 → W p l e R s m args below meth c H1 locs1 (cells + mc) (slots + ms) Q (F0 m (pc + 3) ls (.int r :: rest))) : W p l e R s m args below meth c H locs cells slots Q (F0 m pc ls ST) :=
  va_calli (vx_runSW hC hM cw ⟨woIK_blind, fun U hU hW => ⟨rfl, lw_woIK hT G hU hW⟩⟩ rfl hn hls hst (lv_room hW) hdg hf) G.2.2.2.2.2 (fun q _ h => lw_in G q h) (lw_in G) (fun r v t H1 locs1 ht hvm hw hB hz hk hS => kk r v H1 locs1 hw (lwG_wo G hB ht hz hk hS))
/-- the class is called -/
theorem lw_ci {post : Int32 → MS → Prop} (hC : CallFix p m c cc nL s args Ts own) (hT : lwT D cy ea mi ta ad ac am s) (G : lwG D cy lay o u Y s H locs) (hM : Met l y ws rm (va_Pc (.ref (lay 0) :: As) (agI D cy lay u.1 H.size)) (va_Qi post (agO D cy lay) (agA lay H.size)) mc ms (agA lay H.size)) (cw : CallW R s args own RX7 index y bytes maxL ret ws rm mc ms n)
    (hn : As.length = n) (hls : ls.size = nL) (hst : ST = As.reverse ++ .ref (lay 0) :: rest) (hW : (rest.map fun v => v.category).sum ≤ 8) (hdg : decode cc pc = .ok (.invokevirtual index, 3)) (hf : cells + mc ≤ R.cells ∧ slots + ms ≤ R.slots)
    (kk : ∀ (r : Int32) (σ' : MS) (H1 : Heap) (locs1 : List Loc), post r σ' → lwG D cy lay o (σ', u.2) Y s H1 locs1 → W p l e R s m args below meth c H1 locs1 (cells + mc) (slots + ms) Q (F0 m (pc + 3) ls (.int r :: rest))) : W p l e R s m args below meth c H locs cells slots Q (F0 m pc ls ST) :=
  va_calli (va_runV hC hM cw ⟨agI_blind, ag_recv (lw_agT hT G) (lw_agG G) (by decide) e_ag k_X7, fun U hU hW => ⟨rfl, lw_agI hT G hU hW⟩⟩ rfl hn hls hst (lv_room hW) hdg hf) G.2.2.2.2.2 (fun q _ h => lw_inA G q h) (lw_inA G) (fun r v t H1 locs1 ht hvm hw hB hz hk hS => kk r v H1 locs1 hw (lwG_ag G hB ht hz hk hS))
theorem lw_cl {post : Int64 → MS → Prop} (hC : CallFix p m c cc nL s args Ts own) (hT : lwT D cy ea mi ta ad ac am s) (G : lwG D cy lay o u Y s H locs) (hM : Met l y ws rm (va_Pc (.ref (lay 0) :: As) (agI D cy lay u.1 H.size)) (va_Ql post (agO D cy lay) (agA lay H.size)) mc ms (agA lay H.size)) (cw : CallW R s args own RX7 index y bytes maxL ret ws rm mc ms n)
    (hn : As.length = n) (hls : ls.size = nL) (hst : ST = As.reverse ++ .ref (lay 0) :: rest) (hW : (rest.map fun v => v.category).sum ≤ 8) (hdg : decode cc pc = .ok (.invokevirtual index, 3)) (hf : cells + mc ≤ R.cells ∧ slots + ms ≤ R.slots)
    (kk : ∀ (r : Int64) (σ' : MS) (H1 : Heap) (locs1 : List Loc), post r σ' → lwG D cy lay o (σ', u.2) Y s H1 locs1 → W p l e R s m args below meth c H1 locs1 (cells + mc) (slots + ms) Q (F0 m (pc + 3) ls (.long r :: rest))) : W p l e R s m args below meth c H locs cells slots Q (F0 m pc ls ST) :=
  va_calll (va_runV hC hM cw ⟨agI_blind, ag_recv (lw_agT hT G) (lw_agG G) (by decide) e_ag k_X7, fun U hU hW => ⟨rfl, lw_agI hT G hU hW⟩⟩ rfl hn hls hst (lv_room hW) hdg hf) G.2.2.2.2.2 (fun q _ h => lw_inA G q h) (lw_inA G) (fun r v t H1 locs1 ht hvm hw hB hz hk hS => kk r v H1 locs1 hw (lwG_ag G hB ht hz hk hS))
/-- the reference is called -/
theorem lw_ri {post : Int32 → MS → Prop} (hC : CallFix p m c cc nL s args Ts own) (hT : lwT D cy ea mi ta ad ac am s) (G : lwG D cy lay o u Y s H locs) (hM : Met l y ws rm (va_Pc (.ref (Y.1 0) :: As) (rI D cy Y.1 Y.2.1 Y.2.2 H.size)) (va_Qi post (rO D cy Y.1 Y.2.1) (rA cy Y.1 Y.2.1 H.size)) mc ms (rA cy Y.1 Y.2.1 H.size)) (cw : CallW R s args own RX11 index y bytes maxL ret ws rm mc ms n)
    (hn : As.length = n) (hls : ls.size = nL) (hst : ST = As.reverse ++ .ref (Y.1 0) :: rest) (hW : (rest.map fun v => v.category).sum ≤ 8) (hdg : decode cc pc = .ok (.invokevirtual index, 3)) (hf : cells + mc ≤ R.cells ∧ slots + ms ≤ R.slots)
    (kk : ∀ (r : Int32) (σ' : MS) (H1 : Heap) (locs1 : List Loc), post r σ' → lwG D cy lay o u (Y.1, Y.2.1, σ') s H1 locs1 → W p l e R s m args below meth c H1 locs1 (cells + mc) (slots + ms) Q (F0 m (pc + 3) ls (.int r :: rest))) : W p l e R s m args below meth c H locs cells slots Q (F0 m pc ls ST) :=
  va_calli (va_runV hC hM cw ⟨rI_blind, lw_recv hT G, fun U hU hW => ⟨rfl, lw_rI hT G hU hW⟩⟩ rfl hn hls hst (lv_room hW) hdg hf) G.2.2.2.2.2 (fun q _ h => lw_inR G q h) (lw_inR G) (fun r v t H1 locs1 ht hvm hw hB hz hk hS => kk r v H1 locs1 hw (lwG_r G hB ht hz hk hS))
theorem lw_rl {post : Int64 → MS → Prop} (hC : CallFix p m c cc nL s args Ts own) (hT : lwT D cy ea mi ta ad ac am s) (G : lwG D cy lay o u Y s H locs) (hM : Met l y ws rm (va_Pc (.ref (Y.1 0) :: As) (rI D cy Y.1 Y.2.1 Y.2.2 H.size)) (va_Ql post (rO D cy Y.1 Y.2.1) (rA cy Y.1 Y.2.1 H.size)) mc ms (rA cy Y.1 Y.2.1 H.size)) (cw : CallW R s args own RX11 index y bytes maxL ret ws rm mc ms n)
    (hn : As.length = n) (hls : ls.size = nL) (hst : ST = As.reverse ++ .ref (Y.1 0) :: rest) (hW : (rest.map fun v => v.category).sum ≤ 8) (hdg : decode cc pc = .ok (.invokevirtual index, 3)) (hf : cells + mc ≤ R.cells ∧ slots + ms ≤ R.slots)
    (kk : ∀ (r : Int64) (σ' : MS) (H1 : Heap) (locs1 : List Loc), post r σ' → lwG D cy lay o u (Y.1, Y.2.1, σ') s H1 locs1 → W p l e R s m args below meth c H1 locs1 (cells + mc) (slots + ms) Q (F0 m (pc + 3) ls (.long r :: rest))) : W p l e R s m args below meth c H locs cells slots Q (F0 m pc ls ST) :=
  va_calll (va_runV hC hM cw ⟨rI_blind, lw_recv hT G, fun U hU hW => ⟨rfl, lw_rI hT G hU hW⟩⟩ rfl hn hls hst (lv_room hW) hdg hf) G.2.2.2.2.2 (fun q _ h => lw_inR G q h) (lw_inR G) (fun r v t H1 locs1 ht hvm hw hB hz hk hS => kk r v H1 locs1 hw (lwG_r G hB ht hz hk hS))
/-- .. a text comes back -/
theorem lw_rt {post : MS → Prop} (hC : CallFix p m c cc nL s args Ts own) (hT : lwT D cy ea mi ta ad ac am s) (G : lwG D cy lay o u Y s H locs) (hM : Met l y ws rm (va_Pc (.ref (Y.1 0) :: As) (rIT D cy Y.1 Y.2.1 Y.2.2 am H.size)) (va_Qr (S := MS) post (fun τ _ t => rO D cy Y.1 Y.2.1 τ t) (rA cy Y.1 Y.2.1 H.size)) mc ms (rA cy Y.1 Y.2.1 H.size)) (cw : CallW R s args own RX11 index y bytes maxL ret ws rm mc ms n)
    (hn : As.length = n) (hls : ls.size = nL) (hst : ST = As.reverse ++ .ref (Y.1 0) :: rest) (hW : (rest.map fun v => v.category).sum ≤ 8) (hdg : decode cc pc = .ok (.invokevirtual index, 3)) (hf : cells + mc ≤ R.cells ∧ slots + ms ≤ R.slots)
    (kk : ∀ (ra : Nat) (σ' : MS) (H1 : Heap) (locs1 : List Loc), post σ' → lwG D cy lay o u (Y.1, Y.2.1, σ') s H1 locs1 → W p l e R s m args below meth c H1 locs1 (cells + mc) (slots + ms) Q (F0 m (pc + 3) ls (.ref ra :: rest))) : W p l e R s m args below meth c H locs cells slots Q (F0 m pc ls ST) :=
  va_callr (va_runV hC hM cw ⟨rIT_blind, lw_recv hT G, fun U hU hW => ⟨rfl, lw_rIT hT G hU hW⟩⟩ rfl hn hls hst (lv_room hW) hdg hf) G.2.2.2.2.2 (fun q _ h => lw_inR G q h) (lw_inR G) (fun v ra t H1 locs1 ht hvm hw hB hz hk hS => kk ra v H1 locs1 hw (lwG_r G hB ht hz hk hS))
/-- .. it grows by a player, a wedding -/
theorem lw_rn {post : Int32 → RY → Prop} (hp : ∀ r Y', post r Y' → Y'.2.1.2.1 = Y.2.1.2.1 ∧ Y'.2.1.2.2.2 = Y.2.1.2.2.2) (hC : CallFix p m c cc nL s args Ts own) (hT : lwT D cy ea mi ta ad ac am s) (he : Y.2.1.2.2.2.1 = ea) (G : lwG D cy lay o u Y s H locs) (hM : Met l y ws rm (va_Pc (.ref (Y.1 0) :: As) (rIK D cy Y.1 Y.2.1 Y.2.2 mi H.size)) (va_Qi post (rOz (Y.1 0) D cy (rA cy Y.1 Y.2.1 H.size)) (rA cy Y.1 Y.2.1 H.size)) mc ms (rA cy Y.1 Y.2.1 H.size)) (cw : CallW R s args own RX11 index y bytes maxL ret ws rm mc ms n)
    (hn : As.length = n) (hls : ls.size = nL) (hst : ST = As.reverse ++ .ref (Y.1 0) :: rest) (hW : (rest.map fun v => v.category).sum ≤ 8) (hdg : decode cc pc = .ok (.invokevirtual index, 3)) (hf : cells + mc ≤ R.cells ∧ slots + ms ≤ R.slots)
    (kk : ∀ (r : Int32) (Y' : RY) (H1 : Heap) (locs1 : List Loc), post r Y' → Y'.1 0 = Y.1 0 → lwG D cy lay o u Y' s H1 locs1 → W p l e R s m args below meth c H1 locs1 (cells + mc) (slots + ms) Q (F0 m (pc + 3) ls (.int r :: rest))) : W p l e R s m args below meth c H locs cells slots Q (F0 m pc ls ST) :=
  va_calli (va_runV hC hM cw ⟨rIK_blind, lw_recv hT G, fun U hU hW => ⟨rfl, lw_rIK hT he G hU hW⟩⟩ rfl hn hls hst (lv_room hW) hdg hf) G.2.2.2.2.2 (fun q _ h => lw_inR G q h) (lw_inR G) (fun r Y' t H1 locs1 ht hvm hw hB hz hk hS => by
    obtain ⟨e1, e2⟩ := hp r Y' hw
    have h0 := lw_ea G
    refine kk r Y' H1 locs1 hw hB.2 (lwG_n G hB.1 ?_ (fun i hi => ?_) hvm ht hz hk hS)
    · rw [e2]; exact h0.1
    · rw [e2]; rw [e1] at hi; exact h0.2 i hi)
/-- .. by a band -/
theorem lw_rb {post : Int32 → RY → Prop} (hp : ∀ r Y', post r Y' → Y'.2.1.2.2.2.1 = Y.2.1.2.2.2.1) (hC : CallFix p m c cc nL s args Ts own) (hT : lwT D cy ea mi ta ad ac am s) (he : Y.2.1.2.2.2.1 = ea) (G : lwG D cy lay o u Y s H locs) (hM : Met l y ws rm (va_Pc (.ref (Y.1 0) :: As) (rIV D cy Y.1 Y.2.1 Y.2.2 mi ta ad H.size)) (va_Qi post (rOv D cy Y.1 Y.2.1 ad H.size) (rA cy Y.1 Y.2.1 H.size)) mc ms (rA cy Y.1 Y.2.1 H.size)) (cw : CallW R s args own RX11 index y bytes maxL ret ws rm mc ms n)
    (hn : As.length = n) (hls : ls.size = nL) (hst : ST = As.reverse ++ .ref (Y.1 0) :: rest) (hW : (rest.map fun v => v.category).sum ≤ 8) (hdg : decode cc pc = .ok (.invokevirtual index, 3)) (hf : cells + mc ≤ R.cells ∧ slots + ms ≤ R.slots)
    (kk : ∀ (r : Int32) (Y' : RY) (H1 : Heap) (locs1 : List Loc), post r Y' → Y'.1 0 = Y.1 0 → lwG D cy lay o u Y' s H1 locs1 → W p l e R s m args below meth c H1 locs1 (cells + mc) (slots + ms) Q (F0 m (pc + 3) ls (.int r :: rest))) : W p l e R s m args below meth c H locs cells slots Q (F0 m pc ls ST) :=
  va_calli (va_runV hC hM cw ⟨rIV_blind, lw_recv hT G, fun U hU hW => ⟨rfl, lw_rIV hT he G hU hW⟩⟩ rfl hn hls hst (lv_room hW) hdg hf) G.2.2.2.2.2 (fun q _ h => lw_inR G q h) (lw_inR G) (fun r Y' t H1 locs1 ht hvm hw hB hz hk hS => by
    have h0 := lw_ea G
    refine kk r Y' H1 locs1 hw hB.2.2 (lwG_n G hB.1 ?_ (fun i hi => ?_) hvm ht hz hk hS)
    · rw [hp r Y' hw]; exact h0.1
    · rcases hB.2.1 i hi with ⟨h1, h2⟩ | h1
      · rw [h2]; exact h0.2 i h1
      · exact lw_new hT G h1)
end LWR
