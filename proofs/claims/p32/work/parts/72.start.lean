/-! THE START: what the tables say, of the class and of the law; the law from its entry -/
theorem vk_Rof {own tx : String} {k : Nat} {A : Array Value} {U : State} (h : (Cond.stringRef own k tx).before A U = true) : ∃ sa, vk_R own k tx sa U := by
  have h0 : (Cond.stringRef own k tx).before #[] U = true := h
  cases hr : U.resolvedAt? own k with
  | none => cases hc : U.vm.findClass own <;> simp [Cond.before, Cond.holds, Cond.value, hr, hc] at h
  | some r =>
    cases r with
    | string a =>
      refine ⟨a, h0, ?_⟩
      simp only [State.resolvedAt?, Option.bind_eq_bind, Option.bind_eq_some_iff] at hr
      obtain ⟨c, h1, k', h2, h3⟩ := hr
      simp [Term.eval, h1, h2, h3]
    | _ => cases hc : U.vm.findClass own <;> simp [Cond.before, Cond.holds, Cond.value, hr, hc] at h
theorem lw_arrC {ty : FieldType} {A : Array Value} {s : State} (h : (Cond.arrayClass ty).before A s = true) : ∃ c, ArrOfT s c ty ∧ s.vm.findClass ("[" ++ ty.toString) = some c := by
  obtain ⟨c, k, comp, h1, h2, h3⟩ := Cond.arrayClass_spec h
  exact ⟨c, fun n z => ⟨fun k h => (by cases h), k, h2, comp, h3⟩, h1⟩
theorem lw_arrO {C : String} {A : Array Value} {s : State} (h : (Cond.arrayOver (.object C)).before A s = true) : ∃ c, ArrOfT s c (.object C) ∧ va_RA s c (.object C) := by
  obtain ⟨comp, c, k, h1, h2, h3, h4, h5⟩ := Cond.arrayOver_spec h
  exact ⟨c, fun n z => ⟨fun k h => (by cases h), k, h3, comp, h4⟩, k, comp, h3, h4, h1, h5⟩
theorem lw_arrA {t : FieldType} {A : Array Value} {s : State} (h : (Cond.arrayOver (.array t)).before A s = true) : ∃ c, ArrOfT s c (.array t) ∧ va_RA s c (.array t) := by
  obtain ⟨comp, c, k, h1, h2, h3, h4⟩ := Cond.arrayOver_specA h
  exact ⟨c, fun n z => ⟨fun k h => (by cases h), k, h2, comp, h3⟩, h4⟩
theorem nestL_in : ∀ w ∈ nestL, w ∈ lw_tbl := by decide +kernel
theorem nestL_tab : ∀ w ∈ nestL, w.onTables = true := by decide +kernel
theorem strL_in : ∀ q ∈ strL, Cond.stringRef q.1 q.2.1 q.2.2 ∈ lw_tbl := by decide +kernel
theorem newL_in : ∀ C ∈ newL, Cond.arrayOver (.object C) ∈ lw_tbl := by decide +kernel
theorem lw_ar1 : Cond.arrayClass .int ∈ lw_tbl := by decide +kernel
theorem lw_ar2 : Cond.arrayClass .boolean ∈ lw_tbl := by decide +kernel
theorem lw_ar3 : Cond.arrayOver (.array .int) ∈ lw_tbl := by decide +kernel
theorem lw_thr1 : Cond.laysStatic Bundle.tN "UNASSIGNED_STACK" Bundle.steD ∈ lw_tbl := by decide +kernel
theorem lw_thr2 : Cond.laysStatic Bundle.tN "SUPPRESSED_SENTINEL" Bundle.listD ∈ lw_tbl := by decide +kernel
theorem lw_thr3 : Cond.initialized Bundle.tN ∈ lw_tbl := by decide +kernel
theorem hdS_L_agency : yL_agency.cls ≠ "java/lang/invoke/MethodHandle" ∧ yL_agency.cls ≠ "java/lang/invoke/VarHandle" ∧ (parseMethodDescriptor yL_agency.desc).map (fun d => d.parameters.length) = some 1 := by decide +kernel
theorem lgT_next {D : va_G} {cy : Nat → ClassId} {s U : State} (hT : lgT D cy s) (hU : U.heap = s.heap) (hW : s.WarmedH U.vm) : lgT D cy U := by
  obtain ⟨h1, h2, h3, h4, h5⟩ := hT
  refine ⟨va_K.moved hW.alike h1, fun w hw => nest_warm hW w (nestL_ok w hw) (h2 w hw), fun q hq => ?_, ?_, ?_⟩
  · obtain ⟨sa, h⟩ := h3 q hq
    exact ⟨sa, vk_R.warm hW h⟩
  · rw [hU]
    exact h4.moved hW.alike
  · rw [hU]
    exact h5.moved hW.alike
theorem lgPA_blind {D : va_G} {cy : Nat → ClassId} {b L : Nat} {xs : Nat → Int32} {sz : Nat} {As : List Value} : FrameBlind (va_Pc As (lgPA D cy b L xs sz)) := by
  intro a U g mk h
  obtain ⟨h0, h1, ⟨k1, k2, k3, k4, k5⟩, h2, h3, h4⟩ := h
  refine ⟨h0, h1, ⟨va_K.moved (u := U) (U := U.calling g mk a) (Vm.Alike.refl U.vm) k1, fun w hw => nest_same (u := U) (U := U.calling g mk a) rfl w (nestL_ok w hw) (k2 w hw), fun q hq => ?_, ?_, ?_⟩, gT_same (s := U) (U := U.calling g mk a) h2 rfl (Vm.Alike.refl U.vm), va_X.moved (u := U) (U := U.calling g mk a) (Vm.Alike.refl U.vm) h3, h4⟩
  · obtain ⟨sa, h⟩ := k3 q hq
    exact ⟨sa, vk_R.same (u := U) (U := U.calling g mk a) rfl h⟩
  · exact vx_Zq.moved (u := U) (U := U.calling g mk a) (Vm.Alike.refl U.vm) k4
  · exact vx_Zq.moved (u := U) (U := U.calling g mk a) (Vm.Alike.refl U.vm) k5
theorem lw_K {s : State} {args : Array Value} (hts : ∀ w ∈ lw_tbl, w.before args s = true) : ∃ (D : va_G) (cy : Nat → ClassId), va_K D vwCl (fdT cy) s := by
  obtain ⟨c0, i0, k0⟩ := u_known (C := RX0) (T := TX0) (N := 3) (n := 3) hts inX0 (hts (.instantiable RX0 3) (by decide +kernel))
  obtain ⟨c1, i1, k1⟩ := u_known (C := RX1) (T := TX1) (N := 7) (n := 7) hts inX1 (hts (.instantiable RX1 7) (by decide +kernel))
  obtain ⟨c2, i2, k2⟩ := u_known (C := RX2) (T := TX2) (N := 6) (n := 6) hts inX2 (hts (.instantiable RX2 6) (by decide +kernel))
  obtain ⟨c3, i3, k3⟩ := u_known (C := RX3) (T := TX3) (N := 8) (n := 8) hts inX3 (hts (.instantiable RX3 8) (by decide +kernel))
  obtain ⟨c4, i4, k4⟩ := u_known (C := RX4) (T := TX4) (N := 2) (n := 2) hts inX4 (hts (.instantiable RX4 2) (by decide +kernel))
  obtain ⟨c5, i5, k5⟩ := u_known (C := RX5) (T := TX5) (N := 4) (n := 4) hts inX5 (hts (.instantiable RX5 4) (by decide +kernel))
  obtain ⟨c6, i6, k6⟩ := u_known (C := RX6) (T := TX6) (N := 12) (n := 12) hts inX6 (hts (.instantiable RX6 12) (by decide +kernel))
  obtain ⟨c7, i7, k7⟩ := u_known (C := RX7) (T := TX7) (N := 15) (n := 15) hts inX7 (hts (.instantiable RX7 15) (by decide +kernel))
  obtain ⟨a0, x0, y0⟩ := lw_arrC (hts _ lw_ar1)
  obtain ⟨a1, x1, y1⟩ := lw_arrC (hts _ lw_ar2)
  obtain ⟨a2, z2⟩ := lw_arrO (hts _ (newL_in "FirstdanceAgency$Player" (by decide)))
  obtain ⟨a3, z3⟩ := lw_arrO (hts _ (newL_in "FirstdanceAgency$Song" (by decide)))
  obtain ⟨a4, z4⟩ := lw_arrO (hts _ (newL_in "FirstdanceAgency$Band" (by decide)))
  obtain ⟨a5, z5⟩ := lw_arrO (hts _ (newL_in "FirstdanceAgency$Wedding" (by decide)))
  obtain ⟨a6, z6⟩ := lw_arrA (hts _ lw_ar3)
  refine ⟨(fun k => match k with | 6 => c1 | 7 => c2 | 8 => c3 | 9 => c4 | 10 => c5 | 11 => c6 | 12 => c7 | _ => c0, fun k => match k with | 6 => i1 | 7 => i2 | 8 => i3 | 9 => i4 | 10 => i5 | 11 => i6 | 12 => i7 | _ => i0),
    fun k => match k with | 0 => a0 | 1 => a1 | 2 => a2 | 3 => a3 | 4 => a4 | 5 => a5 | _ => a6, fun k q hq => ?_, fun k q hq => ?_⟩
  · match k, hq with
    | 0, hq => cases hq; exact k0
    | 1, hq => cases hq; exact k0
    | 2, hq => cases hq; exact k0
    | 3, hq => cases hq; exact k0
    | 4, hq => cases hq; exact k0
    | 5, hq => cases hq; exact k0
    | 6, hq => cases hq; exact k1
    | 7, hq => cases hq; exact k2
    | 8, hq => cases hq; exact k3
    | 9, hq => cases hq; exact k4
    | 10, hq => cases hq; exact k5
    | 11, hq => cases hq; exact k6
    | 12, hq => cases hq; exact k7
    | k + 13, hq => simp [vwCl] at hq
  · match k, hq with
    | 0, hq => cases hq; exact ⟨x0, y0⟩
    | 1, hq => cases hq; exact ⟨x1, y1⟩
    | 2, hq => cases hq; exact z2
    | 3, hq => cases hq; exact z3
    | 4, hq => cases hq; exact z4
    | 5, hq => cases hq; exact z5
    | 6, hq => cases hq; exact z6
    | k + 7, hq => simp [fdT] at hq
set_option maxHeartbeats 4000000 in
set_option maxRecDepth 100000 in
theorem lw_start {p : Program} {e : Env} {s : State} {m : MethodId} {below : List Frame} {meth : Method} {c : Code} (l : Launch) (hl0 : l.stackTraces = false) {b L : Nat} {xs : Nat → Int32} (hL : L ≤ 260) (C0 : lw_At p s m meth c b L xs) (hu : (Cond.isRef (.static Bundle.tN "UNASSIGNED_STACK" Bundle.steD)).before #[Value.ref b] s = true) (hs : (Cond.isRef (.static Bundle.tN "SUPPRESSED_SENTINEL" Bundle.listD)).before #[Value.ref b] s = true) : W p l e room_1 s m #[Value.ref b] below meth c s.heap [] 0 0 (lw_Z below #[Value.ref b] s) (entryFrame m ([Value.ref b] : List Value).toArray 16) := by
  obtain ⟨hx, hb, hr, hml, hown, hts, hX, hbl, hlocks, hgv⟩ := id C0
  obtain ⟨D, cy, hK⟩ := lw_K hts
  have hA : ∀ a : Nat, a < s.heap.size → ¬ lgA s.heap.size a := fun a h => Nat.not_le.mpr h
  have hT : lgT D cy s := ⟨hK, fun w hw => va_tabs (nestL_tab w hw) rfl (hts w (nestL_in w hw)), fun q hq => vk_Rof (hts _ (strL_in q hq)), vx_Zqof (hts _ lw_thr1) (hts _ lw_thr3) hu hA, vx_Zqof (hts _ lw_thr2) (hts _ lw_thr3) hs hA⟩
  have hG : gT D cy s := ⟨hK, fun w hw => va_tabs (nestL_tab w hw) rfl (hts w (nestL_in w hw)), fun C hC => hts _ (newL_in C hC), hts _ lw_ar3⟩
  have hC : CallFix p m c cL_law 16 s #[Value.ref b] wsL_law RL := ⟨hx, hb, hml, hown, fun w hw => hts w (wsL_law_in w hw)⟩
  have hl := lv_entry [.ref b] (n := 16) (Nat.le_of_ble_eq_true rfl)
  rw [lg_entry_eq]
  generalize (lg_sl ([.ref b]) ++ List.replicate (16 - (lg_sl ([.ref b])).length) Slot.unset).toArray = ls at hl ⊢
  have hl : lv_has ls 16 [(0, .ref b)] := hl
  refine lv_aload_n hC.1 hC.2.1 dL_law_0 rfl (lv_at hl 0 rfl) ?_
  refine va_callr (va_runS (As := [.ref b]) (rest := []) hC (c_L_agency l hl0 D cy (law_agency (post := u_L_law_4) (fun _ h => h)) b L hL xs s.heap.size) (va_cwS 1 hC.2.2.2.2 gL_law_L_agency rfl rfl rfl hdS_L_agency ⟨Nat.le_of_ble_eq_true rfl, Nat.le_of_ble_eq_true rfl⟩) ⟨lgPA_blind, fun U hU hW => ⟨rfl, by rw [hU], lgT_next hT hU hW, gT_next hG hW, by rw [hU]; exact va_X.moved hW.alike hX, by rw [hU]; exact hbl⟩⟩ rfl rfl hl.1 rfl (lv_room (Nat.le_of_ble_eq_true rfl)) dL_law_1 ⟨Nat.le_of_ble_eq_true rfl, Nat.le_of_ble_eq_true rfl⟩) va_S.rf (fun q _ h => h) (fun q h => h) (fun u ra t H1 locs1 ht hvm hp hB hz hk hS => ?_)
  obtain ⟨lay, σ⟩ := u
  obtain ⟨e0, hlay, hO⟩ := hB
  dsimp only at e0 hlay hO hp
  subst e0
  have G : lgG D cy lay σ [] s.heap H1 locs1 := by
    refine ⟨by rw [List.append_nil, ← ht]; exact hO.1, ?_, hS⟩
    rw [List.append_nil]
    exact ⟨hO.2.1, fun k q hq => by
      obtain ⟨hk87, eq⟩ := ag_of hq
      rw [eq]
      exact hlay k hk87⟩
  exact l_L_law_4 hl0 hC hr hlocks hT hL hX hbl 103 σ (by decide) hp _ _ _ G hl
