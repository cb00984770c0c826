/-! TEXTS: a StringBuilder beside a world: rows -/
theorem gU_over {lay L : Nat → Nat} {kb o : Nat} (hL : gU lay kb (L kb) = L) : gU L kb o = gU lay kb o := by
  funext i
  by_cases h : i = kb
  · subst h; rw [gU_eq, gU_eq]
  · rw [gU_ne h, gU_ne h, ← hL, gU_ne h]
theorem gU_out {lay L : Nat → Nat} {kb i : Nat} (hL : gU lay kb (L kb) = L) (h : i ≠ kb) : L i = lay i := by
  rw [← hL, gU_ne h]
theorem sbX_over {cy : Nat → ClassId} {X : Nat → Option va_E} {k kb o m : Nat} {a : Nat → Int32} {n ml : Int32} {e : Option va_E} : sbX cy (gU X k e) k kb o m a n ml = sbX cy X k kb o m a n ml := by
  funext i
  by_cases h1 : i = k
  · subst h1; rw [sbX_k, sbX_k]
  · by_cases h2 : i = kb
    · subst h2; rw [sbX_b h1, sbX_b h1]
    · rw [sbX_o h1 h2, sbX_o h1 h2, gU_ne h1]
/-- the world X, and a StringBuilder of n letters in k, its row in kb -/
def sbW (D : va_G) (cy : Nat → ClassId) (lay : Nat → Nat) (X : Nat → Option va_E) (A : Nat → Prop) (H0 H : Heap) (locs : List Loc) (k kb n : Nat) : Prop :=
  ∃ (L : Nat → Nat) (m : Nat) (a : Nat → Int32) (ml : Int32), sb_Fit a ∧ capOk m ∧ n ≤ m ∧ gU lay kb (L kb) = L ∧ gG D L (sbX cy X k kb (L kb) m a (nI n) ml) A H0 H locs
section SBW
variable {p : Program} {l : Launch} {e : Env} {R : Room} {s : State} {m : MethodId} {args : Array Value} {below : List Frame} {meth : Method} {c : Code} {H : Heap} {locs : List Loc} {cells slots : Nat} {Q : State → Prop}
variable {cc : ByteArray} {pc nL index : Nat} {ls : Array Slot} {ST rest : List Value} {D : va_G} {cy : Nat → ClassId} {lay : Nat → Nat} {X : Nat → Option va_E} {A : Nat → Prop} {Ts : List Cond} {own : String} {k kb kn n : Nat}
theorem sb_apI (hC : CallFix p m c cc nL s args Ts own) (hT : tB D cy A s s.heap) (hA : ∀ q, s.heap.size ≤ q → A q) (S : sbW D cy lay X A s.heap H locs k kb n) (hk : k < 128) (hkb : kb < 128) (hkn : kn < 128) (hne : kb ≠ k) (hnk : kn ≠ k) (hnb : kn ≠ kb) (h3 : X kn = none) {v : Nat} (hv : v < 1000) (hn : n + 3 ≤ 70)
    (cw : CallW R s args own RJ4 index yJ4_append_bf812 cJ4_append_bf812 2 (some (.object "java/lang/StringBuilder")) wsJ4_append_bf812 (rmS 5 1 70) 1 70 1) (hls : ls.size = nL) (hW : (rest.map fun v => v.category).sum ≤ 8) (hdg : decode cc pc = .ok (.invokevirtual index, 3)) (hf : cells + 1 ≤ R.cells ∧ slots + 70 ≤ R.slots)
    (kk : ∀ (H1 : Heap) (locs1 : List Loc), sbW D cy lay X A s.heap H1 locs1 k kb (n + dg v) → W p l e R s m args below meth c H1 locs1 (cells + 1) (slots + 70) Q (F0 m (pc + 3) ls (.ref (lay k) :: rest))) : W p l e R s m args below meth c H locs cells slots Q (F0 m pc ls (.int (nI v) :: .ref (lay k) :: rest)) := by
  obtain ⟨L, m1, a, ml, hf1, hm, hnm, hL, G⟩ := S
  have e1 : L k = lay k := gU_out hL (Ne.symm hne)
  rw [← e1]
  refine k_r (f := fun _ => L k) G hA (s_runV (As := [.int (nI v)]) (rest := rest) (b := L k) (tx := none) hC hT hA G (fun _ h => by cases h) (c_apI l D cy L (sbX cy X k kb (L kb) m1 a (nI n) ml) hk hkb hkn hne sbX_k (sbX_b hne) ((sbX_o hnk hnb).trans h3) hf1 hm hnm hv hn _) cw (s_recv hT G hk sbX_k k_SB) rfl hls rfl hW hdg hf) (fun Y H1 locs1 hY G1 => ?_)
  obtain ⟨o, m2, a2, hf2, hm2, hq2, rfl⟩ := hY
  rw [e1]
  refine kk H1 locs1 ⟨gU L kb o, m2, a2, ml, hf2, hm2, hq2, ?_, ?_⟩
  · rw [gU_eq, gU_over hL]
  · rw [gU_eq]
    have G1 : gG D (gU L kb o) (sbX cy (sbX cy X k kb (L kb) m1 a (nI n) ml) k kb o m2 a2 (nI (n + dg v)) ml) A s.heap H1 locs1 := G1
    rw [sbX_sbX] at G1
    exact G1
theorem sb_apC (hC : CallFix p m c cc nL s args Ts own) (hT : tB D cy A s s.heap) (hA : ∀ q, s.heap.size ≤ q → A q) (S : sbW D cy lay X A s.heap H locs k kb n) (hk : k < 128) (hkb : kb < 128) (hkn : kn < 128) (hne : kb ≠ k) (hnk : kn ≠ k) (hnb : kn ≠ kb) (h3 : X kn = none) {v : Int32} (hv : ¬ 255 < v) (hn : n + 1 ≤ 70)
    (cw : CallW R s args own RJ4 index yJ4_append_cf468 cJ4_append_cf468 2 (some (.object "java/lang/StringBuilder")) wsJ4_append_cf468 (rmS 5 1 70) 1 70 1) (hls : ls.size = nL) (hW : (rest.map fun v => v.category).sum ≤ 8) (hdg : decode cc pc = .ok (.invokevirtual index, 3)) (hf : cells + 1 ≤ R.cells ∧ slots + 70 ≤ R.slots)
    (kk : ∀ (H1 : Heap) (locs1 : List Loc), sbW D cy lay X A s.heap H1 locs1 k kb (n + 1) → W p l e R s m args below meth c H1 locs1 (cells + 1) (slots + 70) Q (F0 m (pc + 3) ls (.ref (lay k) :: rest))) : W p l e R s m args below meth c H locs cells slots Q (F0 m pc ls (.int v :: .ref (lay k) :: rest)) := by
  obtain ⟨L, m1, a, ml, hf1, hm, hnm, hL, G⟩ := S
  have e1 : L k = lay k := gU_out hL (Ne.symm hne)
  rw [← e1]
  refine k_r (f := fun _ => L k) G hA (s_runV (As := [.int v]) (rest := rest) (b := L k) (tx := none) hC hT hA G (fun _ h => by cases h) (c_apC l D cy L (sbX cy X k kb (L kb) m1 a (nI n) ml) hk hkb hkn hne sbX_k (sbX_b hne) ((sbX_o hnk hnb).trans h3) hf1 hm hnm hv hn _) cw (s_recv hT G hk sbX_k k_SB) rfl hls rfl hW hdg hf) (fun Y H1 locs1 hY G1 => ?_)
  obtain ⟨o, m2, a2, hf2, hm2, hq2, rfl⟩ := hY
  rw [e1]
  refine kk H1 locs1 ⟨gU L kb o, m2, a2, ml, hf2, hm2, hq2, ?_, ?_⟩
  · rw [gU_eq, gU_over hL]
  · rw [gU_eq]
    have G1 : gG D (gU L kb o) (sbX cy (sbX cy X k kb (L kb) m1 a (nI n) ml) k kb o m2 a2 (nI (n + 1)) ml) A s.heap H1 locs1 := G1
    rw [sbX_sbX] at G1
    exact G1
theorem sb_apS (hC : CallFix p m c cc nL s args Ts own) (hT : tB D cy A s s.heap) (hA : ∀ q, s.heap.size ≤ q → A q) (S : sbW D cy lay X A s.heap H locs k kb n) (hk : k < 128) (hkb : kb < 128) (hkn : kn < 128) (hne : kb ≠ k) (hnk : kn ≠ k) (hnb : kn ≠ kb) (h3 : X kn = none) {sa w : Nat} (hX : tX sa w A s s.heap) (hw : w ≤ 16) (hn : n + w ≤ 70)
    (cw : CallW R s args own RJ4 index yJ4_append_15ec4 cJ4_append_15ec4 2 (some (.object "java/lang/StringBuilder")) wsJ4_append_15ec4 (rmS 5 1 70) 1 70 1) (hls : ls.size = nL) (hW : (rest.map fun v => v.category).sum ≤ 8) (hdg : decode cc pc = .ok (.invokevirtual index, 3)) (hf : cells + 1 ≤ R.cells ∧ slots + 70 ≤ R.slots)
    (kk : ∀ (H1 : Heap) (locs1 : List Loc), sbW D cy lay X A s.heap H1 locs1 k kb (n + w) → W p l e R s m args below meth c H1 locs1 (cells + 1) (slots + 70) Q (F0 m (pc + 3) ls (.ref (lay k) :: rest))) : W p l e R s m args below meth c H locs cells slots Q (F0 m pc ls (.ref sa :: .ref (lay k) :: rest)) := by
  obtain ⟨L, m1, a, ml, hf1, hm, hnm, hL, G⟩ := S
  have e1 : L k = lay k := gU_out hL (Ne.symm hne)
  rw [← e1]
  refine k_r (f := fun _ => L k) G hA (s_runV (As := [.ref sa]) (rest := rest) (b := L k) (tx := some (sa, w)) hC hT hA G (fun q h => by cases h; exact hX) (c_apS l D cy L (sbX cy X k kb (L kb) m1 a (nI n) ml) hk hkb hkn hne sbX_k (sbX_b hne) ((sbX_o hnk hnb).trans h3) hf1 hm hnm hw hn _) cw (s_recv hT G hk sbX_k k_SB) rfl hls rfl hW hdg hf) (fun Y H1 locs1 hY G1 => ?_)
  obtain ⟨o, m2, a2, hf2, hm2, hq2, rfl⟩ := hY
  rw [e1]
  refine kk H1 locs1 ⟨gU L kb o, m2, a2, ml, hf2, hm2, hq2, ?_, ?_⟩
  · rw [gU_eq, gU_over hL]
  · rw [gU_eq]
    have G1 : gG D (gU L kb o) (sbX cy (sbX cy X k kb (L kb) m1 a (nI n) ml) k kb o m2 a2 (nI (n + w)) ml) A s.heap H1 locs1 := G1
    rw [sbX_sbX] at G1
    exact G1
theorem sb_len (hC : CallFix p m c cc nL s args Ts own) (hT : tB D cy A s s.heap) (hA : ∀ q, s.heap.size ≤ q → A q) (S : sbW D cy lay X A s.heap H locs k kb n) (hk : k < 128) (hne : kb ≠ k)
    (cw : CallW R s args own RJ4 index yJ4_length_8abf5 cJ4_length_8abf5 1 (some .int) wsJ4_length_8abf5 (rmS 1 0 0) 0 0 0) (hls : ls.size = nL) (hW : (rest.map fun v => v.category).sum ≤ 8) (hdg : decode cc pc = .ok (.invokevirtual index, 3)) (hf : cells + 0 ≤ R.cells ∧ slots + 0 ≤ R.slots)
    (kk : ∀ (H1 : Heap) (locs1 : List Loc), sbW D cy lay X A s.heap H1 locs1 k kb n → W p l e R s m args below meth c H1 locs1 (cells + 0) (slots + 0) Q (F0 m (pc + 3) ls (.int (nI n) :: rest))) : W p l e R s m args below meth c H locs cells slots Q (F0 m pc ls (.ref (lay k) :: rest)) := by
  obtain ⟨L, m1, a, ml, hf1, hm, hnm, hL, G⟩ := S
  have e1 : L k = lay k := gU_out hL (Ne.symm hne)
  rw [← e1]
  refine g_i G hA (s_runV (As := []) (rest := rest) (b := L k) (tx := none) hC hT hA G (fun _ h => by cases h) (c_len l D cy L (sbX cy X k kb (L kb) m1 a (nI n) ml) hk sbX_k _) cw (s_recv hT G hk sbX_k k_SB) rfl hls rfl hW hdg hf) (fun r Y H1 locs1 hY G1 => ?_)
  obtain ⟨rfl, rfl⟩ := hY
  exact kk H1 locs1 ⟨L, m1, a, ml, hf1, hm, hnm, hL, G1⟩
/-- toString: the world goes on, with other cells in k, kb, ks, kr -/
theorem sb_toS (hC : CallFix p m c cc nL s args Ts own) (hT : tB D cy A s s.heap) (hA : ∀ q, s.heap.size ≤ q → A q) (S : sbW D cy lay X A s.heap H locs k kb n) (hk : k < 128) (hkb : kb < 128) {ks kr : Nat} (hks : ks < 128) (hkr : kr < 128) (hne : kb ≠ k) (hne3 : ks ≠ kr) (h1 : ks ≠ k) (h2 : ks ≠ kb) (h3 : kr ≠ k) (h4 : kr ≠ kb) (h5 : X ks = none) (h6 : X kr = none)
    (cw : CallW R s args own RJ4 index yJ4_toString_0e30d cJ4_toString_0e30d 1 (some (.object "java/lang/String")) wsJ4_toString_0e30d (rmS 5 2 74) 2 74 0) (hls : ls.size = nL) (hW : (rest.map fun v => v.category).sum ≤ 8) (hdg : decode cc pc = .ok (.invokevirtual index, 3)) (hf : cells + 2 ≤ R.cells ∧ slots + 74 ≤ R.slots)
    (kk : ∀ (q : Nat) (L' : Nat → Nat) (X' : Nat → Option va_E) (H1 : Heap) (locs1 : List Loc), (∀ j, j ≠ k → j ≠ kb → j ≠ ks → j ≠ kr → L' j = lay j ∧ X' j = X j) → gG D L' X' A s.heap H1 locs1 → W p l e R s m args below meth c H1 locs1 (cells + 2) (slots + 74) Q (F0 m (pc + 3) ls (.ref q :: rest))) : W p l e R s m args below meth c H locs cells slots Q (F0 m pc ls (.ref (lay k) :: rest)) := by
  obtain ⟨L, m1, a, ml, hf1, hm, hnm, hL, G⟩ := S
  have e1 : L k = lay k := gU_out hL (Ne.symm hne)
  rw [← e1]
  refine k_r (f := fun Y => Y.1 ks) G hA (s_runV (As := []) (rest := rest) (b := L k) (tx := none) hC hT hA G (fun _ h => by cases h) (c_toS l D cy L (sbX cy X k kb (L kb) m1 a (nI n) ml) hks hkr hk hkb hne3 sbX_k (sbX_b hne) ((sbX_o h3 h4).trans h6) ((sbX_o h1 h2).trans h5) hf1 hm hnm _) cw (s_recv hT G hk sbX_k k_SB) rfl hls rfl hW hdg hf) (fun Y H1 locs1 hY G1 => ?_)
  obtain ⟨q, o, a', hf', rfl⟩ := hY
  refine kk _ _ _ H1 locs1 (fun j g1 g2 g3 g4 => ⟨?_, ?_⟩) G1
  · show gU (gU L ks q) kr o j = lay j
    rw [gU_ne g4, gU_ne g3, gU_out hL g2]
  · show gU (gU (gU (sbX cy X k kb (L kb) m1 a (nI n) ml) ks _) kr _) ks _ j = X j
    rw [gU_ne g3, gU_ne g4, gU_ne g3, sbX_o g1 g2]
/-- a new StringBuilder -/
theorem sb_new (hC : CallFix p m c cc nL s args Ts own) (hT : tB D cy A s s.heap) (hA : ∀ q, s.heap.size ≤ q → A q) (G : gG D lay X A s.heap H locs) (hk : k < 128) (hkb : kb < 128) (hne : kb ≠ k) (h1 : X k = none) (h2 : X kb = none) (hin : ∀ w ∈ u_ws RJ4 TJ4 4, w ∈ Ts) {i2 : Nat} (hlk : Cond.classLink own index RJ4 ∈ Ts) (hins : Cond.instantiable RJ4 4 ∈ Ts) (hini : Cond.initialized RJ4 ∈ Ts)
    (cw : CallB R s args own i2 yJ4_init_da8c8 cJ4_init_da8c8 1 none wsJ4_init_da8c8 (rmS 2 1 16) 1 16 0 ∧ yJ4_init_da8c8.name = "<init>" ∧ (Cond.instanceMethod yJ4_init_da8c8).before args s = true) (hls : ls.size = nL) (hW : (rest.map fun v => v.category).sum ≤ 7) (d0 : decode cc pc = .ok (.new index, 3)) (d3 : decode cc (pc + 3) = .ok (.dup, 1)) (d4 : decode cc (pc + 4) = .ok (.invokespecial i2, 3)) (hf : cells + 2 ≤ R.cells ∧ slots + 20 ≤ R.slots)
    (kk : ∀ (q : Nat) (H1 : Heap) (locs1 : List Loc), sbW D cy (gU lay k q) X A s.heap H1 locs1 k kb 0 → W p l e R s m args below meth c H1 locs1 (cells + 2) (slots + 20) Q (F0 m (pc + 7) ls (.ref (gU lay k q k) :: rest))) : W p l e R s m args below meth c H locs cells slots Q (F0 m pc ls rest) := by
  refine g_new (k := k) (fs := [.null, .int 0, .int 0, .int 0]) hC hT.1 G hA h1 k_SB hin hlk hins hini df_SB (by omega) (by omega) d0 (fun q H1 G1 => ?_)
  refine lv_dup hC.1 hC.2.1 d3 rfl ?_
  refine g_v G1 hA (s_runI (As := []) (rest := .ref (gU lay k q k) :: rest) (b := gU lay k q k) (tx := none) hC hT hA G1 (fun _ h => by cases h) (c_sb0 l D cy (gU lay k q) (gU X k (some (.inr (1, [.null, .int 0, .int 0, .int 0])))) hk hkb hne gU_eq ((gU_ne hne).trans h2) _) cw rfl hls rfl (by show (1 + (rest.map fun v => v.category).sum) ≤ 8; omega) d4 ⟨by omega, by omega⟩) (fun Y H2 locs2 hY G2 => ?_)
  obtain ⟨o, rfl⟩ := hY
  refine W.widen (k := cells + 2) (n := slots + 20) (by omega) (by omega) ?_
  refine kk q H2 locs2 ⟨gU (gU lay k q) kb o, 16, fun _ => 0, 0, sb_fit0, Or.inl rfl, by omega, by rw [gU_eq], ?_⟩
  rw [gU_eq]
  have G2 : gG D (gU (gU lay k q) kb o) (sbX cy (gU X k (some (.inr (1, [.null, .int 0, .int 0, .int 0])))) k kb o 16 (fun _ => 0) (nI 0) 0) A s.heap H2 locs2 := G2
  rw [sbX_over] at G2
  exact G2
theorem sb_get {C : String} {T : u_T} {N ci j : Nat} {ty : Nat → FieldType} (hC : CallFix p m c cc nL s args Ts own) (hT : tB D cy A s s.heap) (S : sbW D cy lay X A s.heap H locs k kb n) (hj : j < 128) (hjk : j ≠ k) (hjb : j ≠ kb) {fs : List Value} (he : X j = some (.inr (ci, fs))) (hcl : agCl C T N ci ty) (hin : ∀ w ∈ u_ws C T N, w ∈ Ts) (i : Nat) (hi : i < N) (hl : Cond.fieldLink own index (T i).1 (T i).2.1 (T i).2.2.1 ∈ Ts) {v : Value} (hv : fs[i]? = some v) (hdg : decode cc pc = .ok (.getfield index, 3))
    (kk : W p l e R s m args below meth c H locs cells slots Q (F0 m (pc + 3) ls (v :: rest))) : W p l e R s m args below meth c H locs cells slots Q (F0 m pc ls (.ref (lay j) :: rest)) := by
  obtain ⟨L, m1, a, ml, hf1, hm, hnm, hL, G⟩ := S
  rw [← gU_out hL hjb]
  exact g_get hC hT.1 G hj ((sbX_o hjk hjb).trans he) hcl hin i hi hl hv hdg kk
theorem sb_iald {j N : Nat} (hC : CallFix p m c cc nL s args Ts own) (hT : tB D cy A s s.heap) (S : sbW D cy lay X A s.heap H locs k kb n) (hj : j < 128) (hjk : j ≠ k) (hjb : j ≠ kb) {f : Nat → Int32} (he : X j = some (.inl (cy 0, N, .inl f))) {i : Int32} (hin : vp_in i N) (hdg : decode cc pc = .ok (.iaload, 1))
    (kk : W p l e R s m args below meth c H locs cells slots Q (F0 m (pc + 1) ls (.int (f i.toNatClampNeg) :: rest))) : W p l e R s m args below meth c H locs cells slots Q (F0 m pc ls (.int i :: .ref (lay j) :: rest)) := by
  obtain ⟨L, m1, a, ml, hf1, hm, hnm, hL, G⟩ := S
  rw [← gU_out hL hjb]
  obtain ⟨q0, hq⟩ := gW_pos (lay := L) hj ((sbX_o hjk hjb).trans he)
  exact va_iald hC.1 hC.2.1 hT.1 (gP_list G.1) q0 0 hq rfl hin hdg kk
theorem sb_recv {ci j : Nat} {C : String} {T : u_T} {N : Nat} {ty : Nat → FieldType} {fs : List Value} (hT : tB D cy A s s.heap) (S : sbW D cy lay X A s.heap H locs k kb n) (hj : j < 128) (hjk : j ≠ k) (hjb : j ≠ kb) (he : X j = some (.inr (ci, fs))) (hcl : agCl C T N ci ty) : ∃ cell : Cell, H[lay j]? = some cell ∧ cell.vm.isStatics = false ∧ s.vm.findClass C = some cell.cls := by
  obtain ⟨L, m1, a, ml, hf1, hm, hnm, hL, G⟩ := S
  rw [← gU_out hL hjb]
  exact s_recv hT G hj ((sbX_o hjk hjb).trans he) hcl
end SBW
