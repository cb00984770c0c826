theorem df_X7 : ∀ j, j < 15 → defaultValue (tyX7 j) = vp_V [.null, .null, .null, .null, .null, .null, .int 0, .int 0, .int 0, .int 0, .int 0, .null, .null, .null, .null] j := by decide
theorem i_L_agency_X7 : ∀ w ∈ wsX70, w ∈ wsL_agency := fun w h => by unfold wsL_agency; simp only [List.mem_cons, List.mem_append, h, true_or, or_true]
theorem hdI_X7 : yX7_init.cls ≠ "java/lang/invoke/MethodHandle" ∧ yX7_init.cls ≠ "java/lang/invoke/VarHandle" ∧ (parseMethodDescriptor yX7_init.desc).map (fun d => d.parameters.length) = some 0 := by decide +kernel
def lgPA (D : va_G) (cy : Nat → ClassId) (b L : Nat) (xs : Nat → Int32) (sz : Nat) (U : State) : Prop := U.heap.size = sz ∧ lgT D cy U ∧ gT D cy U ∧ va_X b L xs U U.heap ∧ b < U.heap.size
set_option maxHeartbeats 8000000 in
set_option maxRecDepth 100000 in
/-- agency: whatever the script, a new agency of which post holds -/
theorem c_L_agency (l : Launch) (hl0 : l.stackTraces = false) (D : va_G) (cy : Nat → ClassId) {post : MS → Prop} (h : u_L_agency_8 post σ0) (b L : Nat) (hL : L ≤ 260) (xs : Nat → Int32) (sz : Nat) : Met l yL_agency wsL_agency rm_L_agency (va_Pc [.ref b] (lgPA D cy b L xs sz)) (agenQ D cy post sz) 103 2472 (lgA sz) := by
  refine Met.ofW (cc := cL_agency) (maxL := 6) (ret := some (.object "FirstdanceAgency")) (by decide) rfl ?_
  intro p e s m args below meth c s₁ B hml hv
  obtain ⟨rfl, hsz, hT, hgT, hX, hb⟩ := hv
  subst hsz
  have hl := lv_entry [.ref b] (n := 6) (Nat.le_of_ble_eq_true rfl)
  rw [lg_entry_eq]
  generalize (lg_sl ([.ref b]) ++ List.replicate (6 - (lg_sl ([.ref b])).length) Slot.unset).toArray = ls at hl ⊢
  have hl : lv_has ls 6 [(0, .ref b)] := hl
  have hown : s.vm.findClass RL = some m.cls := findClass_of_methodNamed B.named
  have hC : CallFix p m c cL_agency 6 s [Value.ref b].toArray wsL_agency RL := ⟨B.exec, B.bytes, hml, hown, atoms_spec (ws := wsL_agency) B.pre⟩
  have G0 : gG D (fun _ => 0) (fun _ => none) (lgA s.heap.size) s.heap s.heap [] := ⟨fun k e _ h => (by cases h), ⟨fun i j e f _ _ h => (by cases h), fun k e _ h => (by cases h)⟩, va_S.rf⟩
  have hA : ∀ q, s.heap.size ≤ q → lgA s.heap.size q := fun _ h => h
  refine g_new (k := 0) (fs := [.null, .null, .null, .null, .null, .null, .int 0, .int 0, .int 0, .int 0, .int 0, .null, .null, .null, .null]) hC hT.1 G0 hA rfl k_X7 i_L_agency_X7 (wm 1 rfl) (wm 2 rfl) (wm 3 rfl) df_X7 (Nat.le_of_ble_eq_true rfl) (Nat.le_of_ble_eq_true rfl) dL_agency_0 (fun q1 H G => ?_)
  rw [gU_eq]
  refine lv_dup hC.1 hC.2.1 dL_agency_3 rfl ?_
  refine g_v (post := inPost cy _ _) G hA (g_runI (b := gU (fun _ => 0) 0 q1 0) (As := []) (rest := [.ref q1]) hC hgT G (c_X7_init l D cy _ _ gU_eq (fun i h1 h2 => gU_ne (by omega)) _) ⟨callB_of 0 hC.2.2.2.2 gL_agency_X7_init rfl rfl rfl (hC.2.2.2.2 (.initialized RX7) (wm 3 rfl)) (hC.2.2.2.2 (.methodLink RL 11 yX7_init) (wm 6 rfl)) hdI_X7 ⟨Nat.le_of_ble_eq_true rfl, Nat.le_of_ble_eq_true rfl⟩, rfl, hC.2.2.2.2 (.instanceMethod yX7_init) (wm 7 rfl)⟩ rfl hl.1 rfl (Nat.le_of_ble_eq_true rfl) dL_agency_4 ⟨Nat.le_of_ble_eq_true rfl, Nat.le_of_ble_eq_true rfl⟩) (fun Y H locs hY G => ?_)
  obtain ⟨lay1, X1⟩ := Y
  obtain ⟨⟨e0, -⟩, e1⟩ := hY
  dsimp only at e0 e1 G
  subst e1
  have hPD := inX_ag G.1 G.2.1
  have G2 : lgG D cy lay1 σ0 [] s.heap H locs := ⟨by rw [List.append_nil]; exact hPD.1, by rw [List.append_nil]; exact hPD.2, G.2.2⟩
  rw [gU_eq] at e0
  refine lv_astore_n (lv' := [(1, .ref q1), (0, .ref b)]) hC.1 hC.2.1 dL_agency_7 rfl hl (by decide) rfl (fun ls hl => ?_)
  rw [← e0] at hl
  refine W.widen (k := 87) (n := 24 * 87) (Nat.le_of_ble_eq_true rfl) (Nat.le_of_ble_eq_true rfl) ?_
  exact l_L_agency_8 hl0 hC B.returns B.notSynchronized hT hL hX hb 87 σ0 (by decide) h _ _ _ G2 (lv_sub hl [1, 0] rfl)
