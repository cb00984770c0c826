/-! THE LAW'S WORLD: the class's cells and Out; the reference's apart from them -/
theorem k_X8 : agCl RX8 TX8 2 13 tyX8 := ⟨rfl, tyX8_ok, nmX8⟩
/-- the class's numbers, Out's number, Out's text -/
abbrev OU : Type := MS × Int64 × Value
def woW (cy : Nat → ClassId) (lay : Nat → Nat) (o : Nat) (u : OU) : va_W := agW cy lay u.1 ++ [(o, .inr (13, [.long u.2.1, u.2.2]))]
def woC (lay : Nat → Nat) (o : Nat) : Nat → Prop := fun q => (∃ k, k < 87 ∧ q = lay k) ∨ q = o
def woA (lay : Nat → Nat) (o n : Nat) : Nat → Prop := fun q => woC lay o q ∨ n ≤ q
def woG (D : va_G) (cy : Nat → ClassId) (lay : Nat → Nat) (o : Nat) (u : OU) (s : State) (H : Heap) (locs : List Loc) : Prop :=
  va_P D vwCl (woW cy lay o u) H ∧ va_D (fun _ => True) (woW cy lay o u) ∧ va_S (woA lay o s.heap.size) s.heap H locs
def ncL : List (String × String) := [(xIA, xIO), (xIS, xIO), (xIS, xIA)]
def woT (U : State) : Prop := ∀ q ∈ ncL, va_Nc q.1 q.2 U
def woI (D : va_G) (cy : Nat → ClassId) (lay : Nat → Nat) (o : Nat) (u : OU) (sz : Nat) (U : State) : Prop :=
  agI D cy lay u.1 sz U ∧ (va_P D vwCl (woW cy lay o u) U.heap ∧ va_D (fun _ => True) (woW cy lay o u)) ∧ woT U
def woIK (D : va_G) (cy : Nat → ClassId) (lay : Nat → Nat) (o : Nat) (ac : Nat → Nat) (u : OU) (sz : Nat) (U : State) : Prop :=
  agIK D cy lay u.1 ac sz U ∧ (va_P D vwCl (woW cy lay o u) U.heap ∧ va_D (fun _ => True) (woW cy lay o u)) ∧ woT U
def woO (D : va_G) (cy : Nat → ClassId) (lay : Nat → Nat) (o : Nat) (u : OU) (t : State) : Prop := va_P D vwCl (woW cy lay o u) t.heap ∧ va_D (fun _ => True) (woW cy lay o u)
section WOA
variable {D : va_G} {cy : Nat → ClassId} {lay : Nat → Nat} {o : Nat} {u u' : OU} {σ σ' : MS} {H0 H H1 : Heap} {locs locs1 : List Loc} {s t U : State} {As : List Value} {sz : Nat}
theorem wo_lo {k : Nat} (hk : k < 87) : (woW cy lay o u)[k]? = (agW cy lay u.1)[k]? := List.getElem?_append_left (by rw [ag_len]; exact hk)
theorem wo_hi {j : Nat} : (woW cy lay o u)[87 + j]? = ([(o, .inr (13, [.long u.2.1, u.2.2]))] : va_W)[j]? := by
  unfold woW
  rw [List.getElem?_append_right (by rw [ag_len]; omega), ag_len, show 87 + j - 87 = j by omega]
theorem wo_87 : (woW cy lay o u)[87]? = some (o, .inr (13, [.long u.2.1, u.2.2])) := wo_hi (j := 0)
theorem wo_pre {k : Nat} {q : Nat × va_E} (h : (agW cy lay u.1)[k]? = some q) : (woW cy lay o u)[k]? = some q := by
  rw [wo_lo (ag_of h).1]; exact h
theorem wo_cell {k : Nat} {q : Nat × va_E} (h : (woW cy lay o u)[k]? = some q) : (k < 87 ∧ q.1 = lay k) ∨ (k = 87 ∧ q.1 = o) := by
  by_cases hk : k < 87
  · rw [wo_lo hk] at h
    obtain ⟨-, rfl⟩ := ag_of h
    exact Or.inl ⟨hk, rfl⟩
  · obtain ⟨j, rfl⟩ : ∃ j, k = 87 + j := ⟨k - 87, by omega⟩
    rw [wo_hi] at h
    match j, h with
    | 0, h => cases h; exact Or.inr ⟨rfl, rfl⟩
    | j + 1, h => simp at h
theorem wo_at {k : Nat} (hk : k < 88) : ∃ q, (woW cy lay o u)[k]? = some q ∧ q.1 = (if k < 87 then lay k else o) := by
  by_cases h : k < 87
  · exact ⟨_, wo_pre (ag_at h rfl), by rw [if_pos h]⟩
  · obtain rfl : k = 87 := by omega
    exact ⟨_, wo_87, by rw [if_neg h]⟩
theorem wo_inC {k : Nat} {q : Nat × va_E} (h : (woW cy lay o u)[k]? = some q) : woC lay o q.1 := by
  rcases wo_cell h with ⟨h1, h2⟩ | ⟨-, h2⟩
  · exact Or.inl ⟨k, h1, h2⟩
  · exact Or.inr h2
/-- the addresses stay as the numbers change -/
theorem wo_D {A B : Nat → Prop} (h : va_D A (woW cy lay o u)) (hB : ∀ q, woC lay o q → A q → B q) : va_D B (woW cy lay o u') := by
  have adr : ∀ (k : Nat) (q : Nat × va_E), (woW cy lay o u')[k]? = some q → ∃ q0 : Nat × va_E, (woW cy lay o u)[k]? = some q0 ∧ q0.1 = q.1 := fun k q hk => by
    rcases wo_cell hk with ⟨h1, h2⟩ | ⟨h1, h2⟩
    · obtain ⟨q0, e1, e2⟩ := wo_at (cy := cy) (lay := lay) (o := o) (u := u) (k := k) (by omega)
      exact ⟨q0, e1, by rw [e2, if_pos h1, h2]⟩
    · obtain ⟨q0, e1, e2⟩ := wo_at (cy := cy) (lay := lay) (o := o) (u := u) (k := k) (by omega)
      exact ⟨q0, e1, by rw [e2, if_neg (by omega), h2]⟩
  refine ⟨fun i j p q hi hj e => ?_, fun k q hk => ?_⟩
  · obtain ⟨p0, h1, e1⟩ := adr i p hi
    obtain ⟨q0, h2, e2⟩ := adr j q hj
    exact h.1 i j p0 q0 h1 h2 (by rw [e1, e2]; exact e)
  · obtain ⟨q0, h1, e1⟩ := adr k q hk
    rw [← e1]
    exact hB _ (wo_inC h1) (h.2 k q0 h1)
theorem wo_ne (h : va_D (fun _ => True) (woW cy lay o u)) {k : Nat} (hk : k < 87) : o ≠ lay k := fun e => by
  obtain ⟨q0, e1, e2⟩ := wo_at (cy := cy) (lay := lay) (o := o) (u := u) (k := k) (by omega)
  have := h.1 87 k _ q0 wo_87 e1 (by rw [e2, if_pos hk]; exact e)
  omega
theorem wo_lt (h : va_P D vwCl (woW cy lay o u) H) : ∀ q, woC lay o q → q < H.size := fun q hq => by
  rcases hq with ⟨k, hk, rfl⟩ | rfl
  · obtain ⟨q0, e1, e2⟩ := wo_at (cy := cy) (lay := lay) (o := o) (u := u) (k := k) (by omega)
    have := (h k q0 e1).lt
    rw [e2, if_pos hk] at this
    exact this
  · exact (h 87 _ wo_87).lt
/-- behind a call of the class's: Out is as it was -/
theorem wo_back (hP : va_P D vwCl (woW cy lay o u) H) (hD : va_D (fun _ => True) (woW cy lay o u)) (hB : agO D cy lay σ' t) (ht : t.heap = H1) (hk : ∀ q : Nat, q < H.size → ¬ agA lay H.size q → H1[q]? = H[q]?) : va_P D vwCl (woW cy lay o (σ', u.2)) H1 ∧ va_D (fun _ => True) (woW cy lay o (σ', u.2)) := by
  refine ⟨va_P.app (by rw [← ht]; exact hB.1) (fun j q hj => ?_), wo_D hD (fun _ _ _ => trivial)⟩
  have h0 := hP (87 + j) q (by rw [wo_hi]; exact hj)
  have ho : q.1 = o := by
    rcases wo_cell (cy := cy) (lay := lay) (o := o) (u := u) (k := 87 + j) (by rw [wo_hi]; exact hj) with ⟨h, -⟩ | ⟨-, h⟩
    · omega
    · exact h
  refine h0.kept (hk q.1 h0.lt (fun h => ?_))
  rcases h with ⟨k, hk2, e⟩ | h
  · exact wo_ne hD hk2 (ho.symm.trans e)
  · exact absurd h0.lt (Nat.not_lt.mpr h)
theorem wo_le {n k : Nat} (h : n ≤ k) : ∀ q, agA lay k q → woA lay o n q := fun q hq => hq.elim (fun z => Or.inl (Or.inl z)) (fun z => Or.inr (Nat.le_trans h z))
theorem woT.moved (hvm : s.vm.Alike U.vm) (h : woT s) : woT U := fun q hq => (h q hq).moved hvm
theorem woI_blind : FrameBlind (va_Pc As (woI D cy lay o u sz)) := by
  intro a U g mk h
  obtain ⟨h0, h1, h2, h3⟩ := h
  have := agI_blind (D := D) (cy := cy) (lay := lay) (σ := u.1) (sz := sz) (As := As) a U g mk ⟨h0, h1⟩
  exact ⟨this.1, this.2, h2, woT.moved (s := U) (U := U.calling g mk a) (Vm.Alike.refl U.vm) h3⟩
theorem woIK_blind {ac : Nat → Nat} : FrameBlind (va_Pc As (woIK D cy lay o ac u sz)) := by
  intro a U g mk h
  obtain ⟨h0, h1, h2, h3⟩ := h
  have := agIK_blind (D := D) (cy := cy) (lay := lay) (σ := u.1) (ad := ac) (sz := sz) (As := As) a U g mk ⟨h0, h1⟩
  exact ⟨this.1, this.2, h2, woT.moved (s := U) (U := U.calling g mk a) (Vm.Alike.refl U.vm) h3⟩
theorem woI_sz : ∀ sz U, woI D cy lay o u sz U → U.heap.size = sz := fun _ _ h => h.1.1
theorem woIK_sz {ac : Nat → Nat} : ∀ sz U, woIK D cy lay o ac u sz U → U.heap.size = sz := fun _ _ h => h.1.1.1
theorem wo_of (h : agI D cy lay σ s.heap.size s) : agT D cy lay s ∧ agG D cy lay σ (agA lay s.heap.size) s.heap s.heap [] := ⟨h.2.1, h.2.2.1, agD_of h.2.2.2, va_S.rf⟩
end WOA
section WOR
variable {p : Program} {l : Launch} {e : Env} {R : Room} {s : State} {m : MethodId} {args : Array Value} {below : List Frame} {meth : Method} {c : Code} {H : Heap} {locs : List Loc} {cells slots : Nat} {Q : State → Prop}
variable {cc bytes : ByteArray} {pc nL maxL mc ms kc ks n index : Nat} {ls : Array Slot} {ST rest As : List Value} {D : va_G} {cy : Nat → ClassId} {lay : Nat → Nat} {o : Nat} {u : OU} {σ : MS} {Ts ws : List Cond} {own Cn host : String} {y : MethodName} {ret : Option FieldType} {rm : Room} {b : Addr} {hh : List (Nat × Nat × Nat × Nat)}
variable {Qc : Array Value → State → Outcome → State → Prop} {free : Addr → Prop} {pex : String → MS → Prop}
theorem wo_ofH {ws' : List Cond} {maxL : Nat} {sz : Nat} {I : Nat → State → Prop} {Qc : Nat → Array Value → State → Outcome → State → Prop} {fr : Nat → Addr → Prop} (hI : ∀ sz U, I sz U → U.heap.size = sz) (hy : plainName y.cls = true) (hw : ws = Cond.codeWith y cc maxL ret hh :: ws') (hnl : (lg_sl As).length ≤ maxL) (hoo : y.cls = own)
    (body : ∀ (p : Program) (e : Env) (s : State) (m : MethodId) (args : Array Value) (below : List Frame) (meth : Method) (c : Code) (ls : Array Slot), CallFix p m c cc maxL s args ws own → meth.sig.returnType = ret → meth.locks = false → c.exceptionTable.toList = tableOf hh → I s.heap.size s → lv_has ls maxL (lv_args 0 As) →
      W p l e rm s m args below meth c s.heap [] 0 0 (MQ below (Qc s.heap.size) args s mc ms (fr s.heap.size)) (F0 m 0 ls [])) : Met l y ws rm (va_Pc As (I sz)) (Qc sz) mc ms (fr sz) := by
  refine va_MetW (cc := cc) (maxL := maxL) (ret := ret) (hh := hh) hy hw ?_
  intro p e s m args below meth c s₁ B hml hv
  obtain ⟨rfl, hv⟩ := hv
  have hsz := hI _ _ hv
  subst hsz
  have hl := lv_entry As (n := maxL) hnl
  rw [lg_entry_eq]
  have hown : s.vm.findClass y.cls = some m.cls := findClass_of_methodNamed B.named
  rw [hoo] at hown
  have hts := atoms_spec (ws := ws) B.pre
  have htab := vx_table (x := y) B (hts (Cond.codeWith y cc maxL ret hh) (by rw [hw]; exact List.mem_cons_self))
  exact body p e s m As.toArray below meth c _ ⟨B.exec, B.bytes, hml, hown, hts⟩ B.returns B.notSynchronized htab hv hl
/-- a call of the class's in 'try', an int comes back -/
theorem wo_iC {post : Int32 → MS → Prop} {a : Array Value} (G : woG D cy lay o u s H locs) (hr : vx_Run p l e R s m args below meth c H locs cells slots kc ks (F0 m pc ls ST) rest (va_Qi post (agO D cy lay) (agA lay H.size) a) (agXC D cy lay pex H.size) (agA lay H.size))
    (kx : ∀ (E : String) (ce : Cell) (q9 : Addr) (σ' : MS) (H1 : Heap) (locs1 : List Loc), pex E σ' → woG D cy lay o (σ', u.2) s H1 locs1 → H1[q9]? = some ce → ce.vm = .none → s.vm.findClass E = some ce.cls → vx_W p l e R s m args below meth c H1 locs1 (cells + kc) (slots + ks) Q (F0 m pc ls rest) q9)
    (kk : ∀ (r : Int32) (σ' : MS) (H1 : Heap) (locs1 : List Loc), post r σ' → woG D cy lay o (σ', u.2) s H1 locs1 → W p l e R s m args below meth c H1 locs1 (cells + kc) (slots + ks) Q (F0 m (pc + 3) ls (.int r :: rest))) : W p l e R s m args below meth c H locs cells slots Q (F0 m pc ls ST) :=
  vx_calli hr G.2.2 (fun q _ h => wo_le G.2.2.1 q h) (wo_le G.2.2.1) (fun q _ h => wo_le G.2.2.1 q h)
    (fun E ce q9 v t H1 locs1 ht hvm hp hB hz hk hS h1 h2 h3 => by
      obtain ⟨E0, σ0⟩ := v
      obtain ⟨e1, hO⟩ := hB
      dsimp only at e1 hp hO
      subst e1
      have hw := wo_back G.1 G.2.1 hO ht hk
      exact kx _ ce q9 σ0 H1 locs1 hp ⟨hw.1, hw.2, hS⟩ h1 h2 h3)
    (fun r v t H1 locs1 ht hvm hw hB hz hk hS => by
      have hx := wo_back G.1 G.2.1 hB ht hk
      exact kk r v H1 locs1 hw ⟨hx.1, hx.2, hS⟩)
theorem vx_callr {S SX : Type} {A0 A1 : Nat → Prop} {H0 : Heap} {a : Array Value} {st0 : List Value} {post : S → Prop} {px : SX → Prop} {B : S → Nat → State → Prop} {BX : String → SX → State → Prop} {AX : Nat → Prop} (hr : vx_Run p l e R s m args below meth c H locs cells slots mc ms (F0 m pc ls st0) rest (va_Qr post B A1 a) (vx_X px BX AX) free) (hS : va_S A0 H0 H locs) (hA : ∀ q, q < H.size → A1 q → A0 q) (hf : ∀ q, free q → A0 q) (hAX : ∀ q, q < H.size → AX q → A0 q)
    (kx : ∀ (E : String) (ce : Cell) (q9 : Addr) (u : SX) (t : State) (H1 : Heap) (locs1 : List Loc), t.heap = H1 → s.vm.Alike t.vm → px u → BX E u t → H.size ≤ H1.size → (∀ q : Nat, q < H.size → ¬ AX q → H1[q]? = H[q]?) → va_S A0 H0 H1 locs1 → H1[q9]? = some ce → ce.vm = .none → s.vm.findClass E = some ce.cls → vx_W p l e R s m args below meth c H1 locs1 (cells + mc) (slots + ms) Q (F0 m pc ls rest) q9)
    (kk : ∀ (u : S) (ra : Nat) (t : State) (H1 : Heap) (locs1 : List Loc), t.heap = H1 → s.vm.Alike t.vm → post u → B u ra t → H.size ≤ H1.size → (∀ q : Nat, q < H.size → ¬ A1 q → H1[q]? = H[q]?) → va_S A0 H0 H1 locs1 → W p l e R s m args below meth c H1 locs1 (cells + mc) (slots + ms) Q (F0 m (pc + 3) ls (.ref ra :: rest))) : W p l e R s m args below meth c H locs cells slots Q (F0 m pc ls st0) := by
  intro T hT X
  rcases hr T hT X with ⟨v, st₀, t, T', L, h0, X', hL, e1, e2, ⟨⟨u, ra, hv, hp, hb⟩, hF⟩, st⟩ | ⟨q, st₀, t, T', L, E, ce, h0, X', hL, e1, e2, ⟨u, hp, hb, hF⟩, hce, hcv, hcl, st⟩
  · cases hv
    obtain ⟨k1, k2, k3⟩ := vx_keep h0 e1 hS hA hf hL hF
    obtain ⟨t2, a1, b1⟩ := kk u ra t T'.heap (locs ++ L) e1.symm (by rw [← e2]; exact X'.warmed.alike) hp hb k1 k2 k3 T' rfl X'
    exact ⟨t2, st t2 a1, b1⟩
  · obtain ⟨k1, k2, k3⟩ := vx_keep h0 e1 hS hAX hf hL hF
    obtain ⟨t2, a1, b1⟩ := kx E ce q u t T'.heap (locs ++ L) e1.symm (by rw [← e2]; exact X'.warmed.alike) hp hb k1 k2 k3 (by rw [e1]; exact hce) hcv hcl T' rfl X'
    exact ⟨t2, st.trans a1, b1⟩
/-- .. a text comes back -/
theorem wo_rC {post : MS → Prop} {a : Array Value} (G : woG D cy lay o u s H locs) (hr : vx_Run p l e R s m args below meth c H locs cells slots kc ks (F0 m pc ls ST) rest (va_Qr (S := MS) post (fun τ _ t => agO D cy lay τ t) (agA lay H.size) a) (agXC D cy lay pex H.size) (agA lay H.size))
    (kx : ∀ (E : String) (ce : Cell) (q9 : Addr) (σ' : MS) (H1 : Heap) (locs1 : List Loc), pex E σ' → woG D cy lay o (σ', u.2) s H1 locs1 → H1[q9]? = some ce → ce.vm = .none → s.vm.findClass E = some ce.cls → vx_W p l e R s m args below meth c H1 locs1 (cells + kc) (slots + ks) Q (F0 m pc ls rest) q9)
    (kk : ∀ (ra : Nat) (σ' : MS) (H1 : Heap) (locs1 : List Loc), post σ' → woG D cy lay o (σ', u.2) s H1 locs1 → W p l e R s m args below meth c H1 locs1 (cells + kc) (slots + ks) Q (F0 m (pc + 3) ls (.ref ra :: rest))) : W p l e R s m args below meth c H locs cells slots Q (F0 m pc ls ST) :=
  vx_callr hr G.2.2 (fun q _ h => wo_le G.2.2.1 q h) (wo_le G.2.2.1) (fun q _ h => wo_le G.2.2.1 q h)
    (fun E ce q9 v t H1 locs1 ht hvm hp hB hz hk hS h1 h2 h3 => by
      obtain ⟨E0, σ0⟩ := v
      obtain ⟨e1, hO⟩ := hB
      dsimp only at e1 hp hO
      subst e1
      have hw := wo_back G.1 G.2.1 hO ht hk
      exact kx _ ce q9 σ0 H1 locs1 hp ⟨hw.1, hw.2, hS⟩ h1 h2 h3)
    (fun v ra t H1 locs1 ht hvm hw hB hz hk hS => by
      have hx := wo_back G.1 G.2.1 hB ht hk
      exact kk ra v H1 locs1 hw ⟨hx.1, hx.2, hS⟩)
/-- Out's number is put -/
theorem wo_putn (hC : CallFix p m c cc nL s args Ts own) (hK : va_K D vwCl (fdT cy) s) (G : woG D cy lay o u s H locs) (hin : ∀ w ∈ wsX80, w ∈ Ts) {v : Int64} (hl : (Cond.fieldLinkNest own index "FirstdanceAgencyLaw$Out" "n" "J" host).before args s = true) (hdg : decode cc pc = .ok (.putfield index, 3))
    (kk : ∀ (H1 : Heap) (locs1 : List Loc), woG D cy lay o (u.1, v, u.2.2) s H1 locs1 → W p l e R s m args below meth c H1 locs1 cells slots Q (F0 m (pc + 3) ls rest)) : W p l e R s m args below meth c H locs cells slots Q (F0 m pc ls (.long v :: .ref o :: rest)) :=
  va_putN hC.1 hC.2.1 hC.2.2.2.2 hin tyX8 k_X8.2.1 k_X8.2.2 hC.2.2.2.1 hK G.1 (wo_D (u' := u) G.2.1 (fun q h _ => Or.inl h)) G.2.2 87 wo_87 k_X8.1 0 (by decide) hl (fun _ h => h) rfl (k_X8.2.1 0 (by decide)) rfl rfl (by simp) hdg (fun H1 locs1 hP hD hS => by
    have e1 : (woW cy lay o u).set 87 (o, .inr (13, [Value.long u.2.1, u.2.2].set 0 (.long v))) = woW cy lay o (u.1, v, u.2.2) := by
      unfold woW
      rw [List.set_append_right _ _ (by rw [ag_len]; exact Nat.le_refl _), ag_len]
      rfl
    rw [e1] at hP hD
    exact kk H1 locs1 ⟨hP, wo_D hD (fun _ _ _ => trivial), hS⟩)
/-- Out's text is put -/
theorem wo_puts (hC : CallFix p m c cc nL s args Ts own) (hK : va_K D vwCl (fdT cy) s) (G : woG D cy lay o u s H locs) (hin : ∀ w ∈ wsX80, w ∈ Ts) {v : Nat} (hl : (Cond.fieldLinkNest own index "FirstdanceAgencyLaw$Out" "s" "Ljava/lang/String;" host).before args s = true) (hdg : decode cc pc = .ok (.putfield index, 3))
    (kk : ∀ (H1 : Heap) (locs1 : List Loc), woG D cy lay o (u.1, u.2.1, .ref v) s H1 locs1 → W p l e R s m args below meth c H1 locs1 cells slots Q (F0 m (pc + 3) ls rest)) : W p l e R s m args below meth c H locs cells slots Q (F0 m pc ls (.ref v :: .ref o :: rest)) :=
  va_putN hC.1 hC.2.1 hC.2.2.2.2 hin tyX8 k_X8.2.1 k_X8.2.2 hC.2.2.2.1 hK G.1 (wo_D (u' := u) G.2.1 (fun q h _ => Or.inl h)) G.2.2 87 wo_87 k_X8.1 1 (by decide) hl (fun _ h => h) rfl (k_X8.2.1 1 (by decide)) rfl rfl (by simp) hdg (fun H1 locs1 hP hD hS => by
    have e1 : (woW cy lay o u).set 87 (o, .inr (13, [Value.long u.2.1, u.2.2].set 1 (.ref v))) = woW cy lay o (u.1, u.2.1, .ref v) := by
      unfold woW
      rw [List.set_append_right _ _ (by rw [ag_len]; exact Nat.le_refl _), ag_len]
      rfl
    rw [e1] at hP hD
    exact kk H1 locs1 ⟨hP, wo_D hD (fun _ _ _ => trivial), hS⟩)
theorem wo_iret {post : Int32 → OU → Prop} {v : Int32} (hC : CallFix p m c cc nL s args Ts own) (hr : meth.sig.returnType = some .int) (hlocks : meth.locks = false) (G : woG D cy lay o u s H locs) (h : post v u) (hdg : decode cc pc = .ok (.ireturn, 1)) :
    W p l e R s m args below meth c H locs cells slots (MQ below (va_Qi post (woO D cy lay o) (woA lay o s.heap.size)) args s cells slots (woA lay o s.heap.size)) (F0 m pc ls [.int v]) :=
  W.iret hC.1 hC.2.1 hr (fun t ht hW => ⟨⟨v, u, rfl, h, by rw [ht]; exact G.1, G.2.1⟩, G.2.2.F ht⟩) G.2.2.2.2 hdg hlocks
end WOR
/-! the handlers' classes among the words -/
def lkL : List Cond := [Cond.classLink RL 19 xIO, Cond.classLink RL 21 xIA, Cond.classLink RL 23 xIS]
theorem lk0 {T : List Cond} : Cond.classLink RL 19 xIO ∈ T ++ lkL := List.mem_append_right _ List.mem_cons_self
theorem lk1 {T : List Cond} : Cond.classLink RL 21 xIA ∈ T ++ lkL := List.mem_append_right _ (List.mem_cons_of_mem _ List.mem_cons_self)
theorem lk2 {T : List Cond} : Cond.classLink RL 23 xIS ∈ T ++ lkL := List.mem_append_right _ (List.mem_cons_of_mem _ (List.mem_cons_of_mem _ List.mem_cons_self))
theorem lkG : GoodIn lkL lkL := goodIn_of _ (by decide +kernel)
theorem gM_w {T X : List Cond} (h : GoodIn T X) : GoodIn (T ++ lkL) X := fun w hw => ⟨List.mem_append_left _ (h w hw).1, (h w hw).2⟩
theorem gM_s {T ws : List Cond} {own : String} {index : Nat} {y : MethodName} (h : GoodIn T (va_wsS own index y ws)) : GoodIn (T ++ lkL) (va_wsS own index y (ws ++ lkL)) := fun w hw => by
  unfold va_wsS at hw h
  rw [← List.append_assoc] at hw
  rcases List.mem_append.mp hw with hw | hw
  · exact gM_w h w hw
  · exact ⟨List.mem_append_right _ hw, (lkG w hw).2⟩
section WOT
variable {p : Program} {l : Launch} {e : Env} {R : Room} {s : State} {m : MethodId} {args : Array Value} {below : List Frame} {meth : Method} {c : Code} {H : Heap} {locs : List Loc} {cells slots : Nat} {Q : State → Prop}
variable {cc bytes : ByteArray} {pc nL maxL mc ms kc ks n index : Nat} {ls : Array Slot} {ST rest As : List Value} {D : va_G} {cy : Nat → ClassId} {lay : Nat → Nat} {σ : MS} {Ts ws : List Cond} {own Cn host : String} {y : MethodName} {ret : Option FieldType} {rm : Room} {b : Addr}
variable {Qc : Array Value → State → Outcome → State → Prop} {free : Addr → Prop}
theorem tB_warm {A : Nat → Prop} {s U : State} {H : Heap} (hW : s.WarmedH U.vm) (h : tB D cy A s H) : tB D cy A U H := tB.moved hW.alike (va_Nw.warmC hW h.2.1) h
/-- the class's text methods, called at a method's start -/
theorem va_runIKt {ac : Nat → Nat} (hC : CallFix p m c cc nL s args Ts own) (hI : agIK D cy lay σ ac s.heap.size s) {XC : String → State → State → Prop} (hM : vx_Met l y ws rm (va_Pc (.ref b :: As) (agIK D cy lay σ ac s.heap.size)) Qc XC kc ks free) (cw : CallW R s args own Cn index y bytes maxL ret ws rm kc ks n) (hrv : ∃ cell : Cell, s.heap[b]? = some cell ∧ cell.vm.isStatics = false ∧ s.vm.findClass Cn = some cell.cls)
    (hn : As.length = n) (hls : ls.size = nL) (hst : ST = As.reverse ++ .ref b :: rest) (hW : (rest.map fun v => v.category).sum ≤ 8) (hdg : decode cc pc = .ok (.invokevirtual index, 3)) (hf : cells + kc ≤ R.cells ∧ slots + ks ≤ R.slots) :
    vx_Run p l e R s m args below meth c s.heap locs cells slots kc ks (F0 m pc ls ST) rest (Qc (.ref b :: As).toArray) XC free :=
  vx_runV hC hM cw ⟨agIK_blind, hrv, fun U hU hW => ⟨rfl, by
    obtain ⟨hT, G⟩ := wo_of hI.1
    have h1 := agI_next hT G hU hW
    refine ⟨h1, ?_, ?_⟩
    · rw [hU]; exact tB_warm hW hI.2.1
    · rw [hU]; exact kS.warm hW hI.2.2⟩⟩ rfl hn hls hst (lv_room hW) hdg hf
end WOT
