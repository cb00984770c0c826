/-! THE LAW'S WORLD: the class's cells, and behind them rows of the law's own ('ex'); the script lies outside -/
abbrev lgA (n : Nat) : Nat → Prop := fun q => n ≤ q
def lgG (D : va_G) (cy : Nat → ClassId) (lay : Nat → Nat) (σ : MS) (ex : va_W) (H0 H : Heap) (locs : List Loc) : Prop :=
  va_P D vwCl (agW cy lay σ ++ ex) H ∧ va_D (lgA H0.size) (agW cy lay σ ++ ex) ∧ va_S (lgA H0.size) H0 H locs
section LGA
variable {D : va_G} {cy : Nat → ClassId} {lay : Nat → Nat} {σ σ' : MS} {ex : va_W} {H0 H H1 : Heap} {locs locs1 : List Loc}
theorem lw_lo {k : Nat} (hk : k < 87) : (agW cy lay σ ++ ex)[k]? = (agW cy lay σ)[k]? := List.getElem?_append_left (by rw [ag_len]; exact hk)
theorem lw_hi {j : Nat} : (agW cy lay σ ++ ex)[87 + j]? = ex[j]? := by
  rw [List.getElem?_append_right (by rw [ag_len]; omega), ag_len, show 87 + j - 87 = j by omega]
theorem lw_pre {k : Nat} {q : Nat × va_E} (h : (agW cy lay σ)[k]? = some q) : (agW cy lay σ ++ ex)[k]? = some q := by
  rw [lw_lo (ag_of h).1]; exact h
theorem lg_lay (G : lgG D cy lay σ ex H0 H locs) {k : Nat} (hk : k < 87) : H0.size ≤ lay k := G.2.1.2 k _ (lw_pre (ag_at hk rfl))
theorem lg_ag {s : State} (G : lgG D cy lay σ ex s.heap H locs) : agG D cy lay σ (agA lay s.heap.size) s.heap H locs :=
  ⟨fun k q h => G.1 k q (lw_pre h), agD_of (A := lgA s.heap.size) ⟨fun i j p q hi hj => G.2.1.1 i j p q (lw_pre hi) (lw_pre hj), fun k q h => G.2.1.2 k q (lw_pre h)⟩,
   ⟨G.2.2.1, fun q h1 h2 => G.2.2.2.1 q h1 (fun h3 => h2 (Or.inr h3)), fun l hl => Or.inr (G.2.2.2.2 l hl)⟩⟩
theorem lg_out (G : lgG D cy lay σ ex H0 H locs) : ∀ q, agA lay H.size q → lgA H0.size q := fun q h => h.elim (fun ⟨k, hk, e⟩ => by rw [e]; exact lg_lay G hk) (fun h => Nat.le_trans G.2.2.1 h)
/-- the addresses stay as the numbers change -/
theorem lw_adr {k : Nat} {q : Nat × va_E} (h : (agW cy lay σ' ++ ex)[k]? = some q) : ∃ q0, (agW cy lay σ ++ ex)[k]? = some q0 ∧ q0.1 = q.1 := by
  by_cases hk : k < 87
  · rw [lw_lo hk] at h
    obtain ⟨-, rfl⟩ := ag_of h
    exact ⟨_, lw_pre (ag_at hk rfl), rfl⟩
  · obtain ⟨j, rfl⟩ : ∃ j, k = 87 + j := ⟨k - 87, by omega⟩
    rw [lw_hi] at h
    exact ⟨q, by rw [lw_hi]; exact h, rfl⟩
theorem lw_D {A : Nat → Prop} (h : va_D A (agW cy lay σ ++ ex)) : va_D A (agW cy lay σ' ++ ex) := ⟨fun i j p q hi hj e => by
    obtain ⟨p0, h1, e1⟩ := lw_adr (σ := σ) hi
    obtain ⟨q0, h2, e2⟩ := lw_adr (σ := σ) hj
    exact h.1 i j p0 q0 h1 h2 (by rw [e1, e2]; exact e), fun k q hk => by
    obtain ⟨q0, h1, e1⟩ := lw_adr (σ := σ) hk
    rw [← e1]
    exact h.2 k q0 h1⟩
theorem lg_back {s t : State} (G : lgG D cy lay σ ex s.heap H locs) (hB : agO D cy lay σ' t) (ht : t.heap = H1) (hk : ∀ q : Nat, q < H.size → ¬ agA lay H.size q → H1[q]? = H[q]?) (hS : va_S (lgA s.heap.size) s.heap H1 locs1) : lgG D cy lay σ' ex s.heap H1 locs1 := by
  refine ⟨va_P.app (by rw [← ht]; exact hB.1) (fun j q hj => ?_), lw_D G.2.1, hS⟩
  have h0 := G.1 (87 + j) q (by rw [lw_hi]; exact hj)
  refine h0.kept (hk q.1 h0.lt (fun h => ?_))
  rcases h with ⟨k, hk2, e⟩ | h
  · have := G.2.1.1 k (87 + j) _ q (lw_pre (ag_at hk2 rfl)) (by rw [lw_hi]; exact hj) e.symm
    omega
  · exact absurd h0.lt (Nat.not_lt.mpr h)
theorem lg_same {s : State} (G : lgG D cy lay σ ex s.heap H locs) (hk : ∀ q : Nat, q < H.size → ¬ lgA H.size q → H1[q]? = H[q]?) (hS : va_S (lgA s.heap.size) s.heap H1 locs1) : lgG D cy lay σ ex s.heap H1 locs1 :=
  ⟨G.1.kept (fun k q h => hk q.1 (G.1 k q h).lt (Nat.not_le.mpr (G.1 k q h).lt)), G.2.1, hS⟩
/-- what the tables say, before there is a class's world -/
def lgT (D : va_G) (cy : Nat → ClassId) (U : State) : Prop :=
  va_K D vwCl (fdT cy) U ∧ (∀ w ∈ nestL, va_Nw w U) ∧ (∀ q ∈ strL, ∃ sa, vk_R q.1 q.2.1 q.2.2 sa U) ∧
  vx_Zq Bundle.tN "UNASSIGNED_STACK" Bundle.steD (lgA U.heap.size) U U.heap ∧ vx_Zq Bundle.tN "SUPPRESSED_SENTINEL" Bundle.listD (lgA U.heap.size) U U.heap
theorem lgT.ag {s : State} (hT : lgT D cy s) (h : ∀ k, k < 87 → s.heap.size ≤ lay k) : agT D cy lay s := by
  have hA : ∀ q, agA lay s.heap.size q → lgA s.heap.size q := fun q h2 => h2.elim (fun ⟨k, hk, e⟩ => by rw [e]; exact h k hk) id
  exact ⟨hT.1, hT.2.1, hT.2.2.1, hT.2.2.2.1.narrow hA, hT.2.2.2.2.narrow hA⟩
end LGA
section LGR
variable {p : Program} {l : Launch} {e : Env} {R : Room} {s : State} {m : MethodId} {args : Array Value} {below : List Frame} {meth : Method} {c : Code} {H : Heap} {locs : List Loc} {cells slots : Nat} {Q : State → Prop}
variable {cc bytes : ByteArray} {pc nL maxL mc ms n index : Nat} {ls : Array Slot} {ST rest As : List Value} {D : va_G} {cy : Nat → ClassId} {lay : Nat → Nat} {σ : MS} {ex : va_W} {Ts ws : List Cond} {own Cn host : String} {y : MethodName} {ret : Option FieldType} {rm : Room} {b : Addr}
variable {Qc : Array Value → State → Outcome → State → Prop} {free : Addr → Prop}
theorem lg_i {post : Int32 → MS → Prop} {a : Array Value} (G : lgG D cy lay σ ex s.heap H locs) (hr : va_Run p l e R s m args below meth c H locs cells slots mc ms (F0 m pc ls ST) rest (va_Qi post (agO D cy lay) (agA lay H.size) a) (agA lay H.size))
    (kk : ∀ (r : Int32) (σ' : MS) (H1 : Heap) (locs1 : List Loc), post r σ' → lgG D cy lay σ' ex s.heap H1 locs1 → W p l e R s m args below meth c H1 locs1 (cells + mc) (slots + ms) Q (F0 m (pc + 3) ls (.int r :: rest))) : W p l e R s m args below meth c H locs cells slots Q (F0 m pc ls ST) :=
  va_calli hr G.2.2 (fun q _ h => lg_out G q h) (lg_out G) (fun r u t H1 locs1 ht hvm hw hB hz hk hS => kk r u H1 locs1 hw (lg_back G hB ht hk hS))
theorem lg_l {post : Int64 → MS → Prop} {a : Array Value} (G : lgG D cy lay σ ex s.heap H locs) (hr : va_Run p l e R s m args below meth c H locs cells slots mc ms (F0 m pc ls ST) rest (va_Ql post (agO D cy lay) (agA lay H.size) a) (agA lay H.size))
    (kk : ∀ (r : Int64) (σ' : MS) (H1 : Heap) (locs1 : List Loc), post r σ' → lgG D cy lay σ' ex s.heap H1 locs1 → W p l e R s m args below meth c H1 locs1 (cells + mc) (slots + ms) Q (F0 m (pc + 3) ls (.long r :: rest))) : W p l e R s m args below meth c H locs cells slots Q (F0 m pc ls ST) :=
  va_calll hr G.2.2 (fun q _ h => lg_out G q h) (lg_out G) (fun r u t H1 locs1 ht hvm hw hB hz hk hS => kk r u H1 locs1 hw (lg_back G hB ht hk hS))
theorem lg_v {post : MS → Prop} {a : Array Value} (G : lgG D cy lay σ ex s.heap H locs) (hr : va_Run p l e R s m args below meth c H locs cells slots mc ms (F0 m pc ls ST) rest (va_Qv post (agO D cy lay) (agA lay H.size) a) (agA lay H.size))
    (kk : ∀ (σ' : MS) (H1 : Heap) (locs1 : List Loc), post σ' → lgG D cy lay σ' ex s.heap H1 locs1 → W p l e R s m args below meth c H1 locs1 (cells + mc) (slots + ms) Q (F0 m (pc + 3) ls rest)) : W p l e R s m args below meth c H locs cells slots Q (F0 m pc ls ST) :=
  va_callv hr G.2.2 (fun q _ h => lg_out G q h) (lg_out G) (fun u t H1 locs1 ht hvm hw hB hz hk hS => kk u H1 locs1 hw (lg_back G hB ht hk hS))
/-- a new row of the law's own -/
theorem lg_newi (hC : CallFix p m c cc nL s args Ts own) (hK : va_K D vwCl (fdT cy) s) (G : lgG D cy lay σ ex s.heap H locs) (harr : Cond.arrayClass .int ∈ Ts) {v : Int32} {N : Nat} (hn : ¬ v < 0) (hN : v.toNatClampNeg = N) (hb : N * componentBytes .int ≤ 536870912) (hcells : cells + 1 ≤ R.cells) (hslots : slots + N ≤ R.slots) (hdg : decode cc pc = .ok (.newarray .int, 2))
    (kk : ∀ (q : Nat) (H1 : Heap), lgG D cy lay σ (ex ++ [(q, .inl (cy 0, N, .inl (fun _ => 0)))]) s.heap H1 locs → W p l e R s m args below meth c H1 locs (cells + 1) (slots + N) Q (F0 m (pc + 2) ls (.ref q :: rest))) : W p l e R s m args below meth c H locs cells slots Q (F0 m pc ls (.int v :: rest)) :=
  va_newa (atype := .int) (ty := .int) hC.1 hC.2.1 (hC.2.2.2.2 _ harr) rfl hK G.1 G.2.1 G.2.2 (fun _ h => h) (a0 := (N, .inl (fun _ => 0))) (fun _ => rfl) hn hN hb hcells hslots hdg (fun q cA H1 hK' hP hD hS => by
    have h1 := (hK'.2 (fdT cy).length (cA, .int) (by rw [List.getElem?_append_right (Nat.le_refl _), Nat.sub_self]; rfl)).2
    have h2 := (hK.2 0 (cy 0, .int) rfl).2
    have hc : cA = cy 0 := Option.some.inj (Eq.trans (Eq.symm h1) h2)
    subst hc
    rw [List.append_assoc] at hP hD
    exact kk q H1 ⟨hP, hD, hS⟩)
theorem lg_iald (hC : CallFix p m c cc nL s args Ts own) (hK : va_K D vwCl (fdT cy) s) (G : lgG D cy lay σ ex s.heap H locs) (j : Nat) {a n : Nat} {f : Nat → Int32} (hj : ex[j]? = some (a, .inl (cy 0, n, .inl f))) {i : Int32} (hin : vp_in i n) (hdg : decode cc pc = .ok (.iaload, 1))
    (kk : W p l e R s m args below meth c H locs cells slots Q (F0 m (pc + 1) ls (.int (f i.toNatClampNeg) :: rest))) : W p l e R s m args below meth c H locs cells slots Q (F0 m pc ls (.int i :: .ref a :: rest)) :=
  va_iald hC.1 hC.2.1 hK G.1 (87 + j) 0 (by rw [lw_hi]; exact hj) rfl hin hdg kk
theorem lg_iast (hC : CallFix p m c cc nL s args Ts own) (hK : va_K D vwCl (fdT cy) s) (G : lgG D cy lay σ ex s.heap H locs) (j : Nat) {a n : Nat} {f : Nat → Int32} (hj : ex[j]? = some (a, .inl (cy 0, n, .inl f))) {i x : Int32} (hin : vp_in i n) (hdg : decode cc pc = .ok (.iastore, 1))
    (kk : ∀ (H1 : Heap) (locs1 : List Loc), lgG D cy lay σ (ex.set j (a, .inl (cy 0, n, .inl (upd f i.toNatClampNeg x)))) s.heap H1 locs1 → W p l e R s m args below meth c H1 locs1 cells slots Q (F0 m (pc + 1) ls rest)) : W p l e R s m args below meth c H locs cells slots Q (F0 m pc ls (.int x :: .int i :: .ref a :: rest)) :=
  va_iast hC.1 hC.2.1 hK G.1 G.2.1 G.2.2 (87 + j) 0 (by rw [lw_hi]; exact hj) rfl hin hdg (fun H1 locs1 hP hD hS => by
    have e1 : (agW cy lay σ ++ ex).set (87 + j) (a, .inl (cy 0, n, .inl (upd f i.toNatClampNeg x))) = agW cy lay σ ++ ex.set j (a, .inl (cy 0, n, .inl (upd f i.toNatClampNeg x))) := by
      rw [List.set_append_right _ _ (by rw [ag_len]; omega), ag_len, show 87 + j - 87 = j by omega]
    rw [e1] at hP hD
    exact kk H1 locs1 ⟨hP, hD, hS⟩)
theorem lg_alen (hC : CallFix p m c cc nL s args Ts own) (hK : va_K D vwCl (fdT cy) s) (G : lgG D cy lay σ ex s.heap H locs) (j : Nat) {a n : Nat} {f : Nat → Int32} (hj : ex[j]? = some (a, .inl (cy 0, n, .inl f))) {v : Int32} (hv : Int32.ofNat n = v) (hdg : decode cc pc = .ok (.arraylength, 1))
    (kk : W p l e R s m args below meth c H locs cells slots Q (F0 m (pc + 1) ls (.int v :: rest))) : W p l e R s m args below meth c H locs cells slots Q (F0 m pc ls (.ref a :: rest)) :=
  va_alen hC.1 hC.2.1 hK G.1 (87 + j) 0 (by rw [lw_hi]; exact hj) rfl hv hdg kk
theorem lg_nil (G : lgG D cy lay σ ex s.heap H locs) : lgG D cy lay σ [] s.heap H locs := by
  unfold lgG
  rw [List.append_nil]
  exact ⟨fun k q h => G.1 k q (lw_pre h), ⟨fun i j p q hi hj => G.2.1.1 i j p q (lw_pre hi) (lw_pre hj), fun k q h => G.2.1.2 k q (lw_pre h)⟩, G.2.2⟩
end LGR
/-! cell: some number -/
abbrev rm_L_cell : Room := { frames := 0, cells := 0, slots := 0, locals := 0 }
def lgX (b L : Nat) (xs : Nat → Int32) (sz : Nat) (U : State) : Prop := U.heap.size = sz ∧ va_X b L xs U U.heap ∧ b < U.heap.size
set_option maxHeartbeats 4000000 in
set_option maxRecDepth 100000 in
theorem c_L_cell (l : Launch) (b L : Nat) (hL : L ≤ 260) (xs : Nat → Int32) (k : Int32) (hk0 : ¬ k < 0) (sz : Nat) : Met l yL_cell wsL_cell rm_L_cell (va_Pc [.ref b, .int k] (lgX b L xs sz)) (va_Qi (fun _ _ => True) (fun (_ : Unit) _ => True) (lgA sz)) 0 0 (lgA sz) := by
  obtain ⟨k, hk, rfl⟩ := nI_of hk0
  refine Met.ofW (cc := cL_cell) (maxL := 2) (ret := some .int) (by decide) rfl ?_
  intro p e s m args below meth c s₁ B hml hv
  obtain ⟨rfl, hsz, hX, hb⟩ := hv
  subst hsz
  have hl := lv_entry [.ref b, .int (nI k)] (n := 2) (Nat.le_of_ble_eq_true rfl)
  rw [lg_entry_eq]
  generalize (lg_sl ([.ref b, .int (nI k)])  ++ List.replicate (2 - (lg_sl ([.ref b, .int (nI k)])).length) Slot.unset).toArray = ls at hl ⊢
  have hl : lv_has ls 2 [(0, .ref b), (1, .int (nI k))] := hl
  have hS : va_S (lgA s.heap.size) s.heap s.heap [] := va_S.rf
  have hbA : ¬ lgA s.heap.size b := Nat.not_le.mpr hb
  have hx := B.exec
  have hc := B.bytes
  have hr := B.returns
  have hlocks := B.notSynchronized
  have hts := atoms_spec (ws := wsL_cell) B.pre
  have hown : s.vm.findClass RL = some m.cls := findClass_of_methodNamed B.named
  have fin : ∀ v : Int32, W p l e rm_L_cell s m [Value.ref b, .int (nI k)].toArray below meth c s.heap [] 0 0 (MQ below (va_Qi (fun _ _ => True) (fun (_ : Unit) _ => True) (lgA s.heap.size)) [Value.ref b, .int (nI k)].toArray s 0 0 (lgA s.heap.size)) (F0 m 18 ls [.int v]) := fun v =>
    W.iret (v := v) hx hc hr (fun t ht hW => ⟨⟨v, (), rfl, trivial, trivial⟩, hS.F ht⟩) hS.2.2 dL_cell_18 hlocks
  refine lv_iload_n hx hc dL_cell_0 rfl (lv_at hl 1 rfl) ?_
  refine lv_aload_n hx hc dL_cell_1 rfl (lv_at hl 0 rfl) ?_
  refine va_slen hx hc hX hb hbA hS dL_cell_2 ?_
  refine lv_icmp_ge (tgt := 12) hx hc dL_cell_3 (by decide) (fun c1 => ?_) (fun c1 => ?_)
  · refine lv_ldc (v := 790386105) hx hc hown (hts _ (List.mem_of_getElem? (i := 1) rfl)) dL_cell_12 ?_
    refine lv_iload_n hx hc dL_cell_14 rfl (lv_at hl 1 rfl) ?_
    refine lv_iconst (v := 3) hx hc dL_cell_15 (by decide) ?_
    refine lv_iadd hx hc dL_cell_16 ?_
    refine lv_imul hx hc dL_cell_17 ?_
    exact fin _
  · have hkL : k < L := by
      rcases Nat.lt_or_ge k L with q | q
      · exact q
      · exact absurd (nI_le q (by omega)) c1
    refine lv_aload_n hx hc dL_cell_6 rfl (lv_at hl 0 rfl) ?_
    refine lv_iload_n hx hc dL_cell_7 rfl (lv_at hl 1 rfl) ?_
    refine va_sld hx hc hX hb hbA hS (vp_in_nI hkL (by omega)) dL_cell_8 ?_
    refine lv_goto (tgt := 18) hx hc dL_cell_9 (by decide) ?_
    exact fin _
theorem hdS_L_cell : yL_cell.cls ≠ "java/lang/invoke/MethodHandle" ∧ yL_cell.cls ≠ "java/lang/invoke/VarHandle" ∧ (parseMethodDescriptor yL_cell.desc).map (fun d => d.parameters.length) = some 2 := by decide +kernel
section LGC
variable {p : Program} {l : Launch} {e : Env} {R : Room} {s : State} {m : MethodId} {args : Array Value} {below : List Frame} {meth : Method} {c : Code} {H : Heap} {locs : List Loc} {cells slots : Nat} {Q : State → Prop}
variable {cc bytes : ByteArray} {pc nL maxL n index : Nat} {ls : Array Slot} {ST rest : List Value} {D : va_G} {cy : Nat → ClassId} {lay : Nat → Nat} {σ : MS} {ex : va_W} {Ts : List Cond} {own : String}
/-- the script's k-th number, or another -/
theorem lg_cell {b L : Nat} {xs : Nat → Int32} {k : Int32} (hL : L ≤ 260) (hk : ¬ k < 0) (hC : CallFix p m c cc nL s args Ts own) (hX : va_X b L xs s s.heap) (hb : b < s.heap.size) (G : lgG D cy lay σ ex s.heap H locs) (cw : CallB R s args own index yL_cell cL_cell 2 (some .int) wsL_cell rm_L_cell 0 0 2 ∧ (Cond.static yL_cell).before args s = true)
    (hls : ls.size = nL) (hW : (rest.map fun v => v.category).sum ≤ 8) (hdg : decode cc pc = .ok (.invokestatic index, 3)) (hf : cells + 0 ≤ R.cells ∧ slots + 0 ≤ R.slots)
    (kk : ∀ (r : Int32) (H1 : Heap) (locs1 : List Loc), lgG D cy lay σ ex s.heap H1 locs1 → W p l e R s m args below meth c H1 locs1 cells slots Q (F0 m (pc + 3) ls (.int r :: rest))) : W p l e R s m args below meth c H locs cells slots Q (F0 m pc ls (.int k :: .ref b :: rest)) := by
  have hbl : ∀ {As : List Value}, FrameBlind (va_Pc As (lgX b L xs H.size)) := fun {As} a U g mk h => ⟨h.1, h.2.1, (h.2.2.1.moved (U := U.calling g mk a) (Vm.Alike.refl U.vm)), h.2.2.2⟩
  have hbA : ¬ lgA s.heap.size b := Nat.not_le.mpr hb
  refine va_calli (va_runS (As := [.ref b, .int k]) (rest := rest) hC (c_L_cell l b L hL xs k hk H.size) cw ⟨hbl, fun U hU hW => ⟨rfl, by rw [hU], ?_, by rw [hU]; exact Nat.lt_of_lt_of_le hb G.2.2.1⟩⟩ rfl rfl hls rfl (lv_room hW) hdg hf) G.2.2 (fun q _ h => Nat.le_trans G.2.2.1 h) (fun q h => Nat.le_trans G.2.2.1 h) (fun r u t H1 locs1 ht hvm hw hB hz hk hS => kk r H1 locs1 (lg_same G hk hS))
  rw [hU]
  exact va_X.moved hW.alike (hX.kept (G.2.2.2.1 b hb hbA))
end LGC
