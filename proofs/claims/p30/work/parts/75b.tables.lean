/-! THE TABLES: what the Statement says of classes, statics, texts -/
def subC : List Bool → Cond → Cond
  | [], c => c
  | b :: q, .and x y => subC q (if b then y else x)
  | _ :: _, c => c
theorem subC_before {args : Array Value} {s : State} : ∀ (q : List Bool) (c : Cond), c.before args s = true → (subC q c).before args s = true
  | [], _, h => h
  | b :: q, c, h => by
    cases c with
    | and x y =>
      have h2 := h
      rw [Cond.before_and, Bool.and_eq_true] at h2
      refine subC_before q (if b then y else x) ?_
      cases b
      · exact h2.1
      · exact h2.2
    | _ => exact h
abbrev gvn : Cond := Jvm.Cond.and given_1 narrow_1
theorem pqC {args : Array Value} {s : State} {c : Cond} (hgv : gvn.before args s = true) (q : List Bool) (h : subC q gvn = c) : c.before args s = true := h ▸ subC_before q _ hgv
theorem tw {w : Cond} (K i : Nat) (h : (lwu K)[i]? = some w) : w ∈ lwx := lwu_in K w (List.mem_of_getElem? h)
theorem vk_Rof {own tx : String} {k : Nat} {A : Array Value} {U : State} (h : (Cond.stringRef own k tx).before A U = true) : ∃ sa, vk_R own k tx sa U := by
  have h0 : (Cond.stringRef own k tx).before #[] U = true := h
  cases hr : U.resolvedAt? own k with
  | none => cases hc : U.vm.findClass own <;> simp [Cond.before, Cond.holds, Cond.value, hr, hc] at h
  | some r =>
    cases r with
    | string a =>
      refine ⟨a, h0, ?_⟩
      simp only [State.resolvedAt?, Option.bind_eq_bind, Option.bind_eq_some_iff] at hr
      obtain ⟨c, h1, k', h2, h3⟩ := hr
      simp [Term.eval, h1, h2, h3]
    | _ => cases hc : U.vm.findClass own <;> simp [Cond.before, Cond.holds, Cond.value, hr, hc] at h
theorem lw_arrC {ty : FieldType} {A : Array Value} {s : State} (h : (Cond.arrayClass ty).before A s = true) : ∃ c, ArrOfT s c ty ∧ s.vm.findClass ("[" ++ ty.toString) = some c := by
  obtain ⟨c, k, comp, h1, h2, h3⟩ := Cond.arrayClass_spec h
  exact ⟨c, fun n z => ⟨fun k h => (by cases h), k, h2, comp, h3⟩, h1⟩
theorem lw_arrO {C : String} {A : Array Value} {s : State} (h : (Cond.arrayOver (.object C)).before A s = true) : ∃ c, ArrOfT s c (.object C) ∧ va_RA s c (.object C) := by
  obtain ⟨comp, c, k, h1, h2, h3, h4, h5⟩ := Cond.arrayOver_spec h
  exact ⟨c, fun n z => ⟨fun k h => (by cases h), k, h3, comp, h4⟩, k, comp, h3, h4, h1, h5⟩
theorem lw_arrA {t : FieldType} {A : Array Value} {s : State} (h : (Cond.arrayOver (.array t)).before A s = true) : ∃ c, ArrOfT s c (.array t) ∧ va_RA s c (.array t) := by
  obtain ⟨comp, c, k, h1, h2, h3, h4⟩ := Cond.arrayOver_specA h
  exact ⟨c, fun n z => ⟨fun k h => (by cases h), k, h2, comp, h3⟩, h4⟩
theorem tx_of {args : Array Value} {s : State} {own : String} {k w : Nat} {tx : String} {byt : List Int32} {A : Nat → Prop} (hw : w < 2 ^ 31) (hr : (Cond.stringRef own k tx).before args s = true) (hex : (Cond.exactly (.string own k) "java/lang/String").before args s = true) (hco : (Cond.eq (.field (.string own k) "java/lang/String" "coder" "B") (.int 0)).before args s = true) (har : (Cond.arrayOf (.field (.string own k) "java/lang/String" "value" "[B") .byte).before args s = true) (hle : (Cond.eq (.length (.field (.string own k) "java/lang/String" "value" "[B")) (.int (Int32.ofNat w))).before args s = true) (hel : ∀ j, j < w → (Cond.eq (.elem (.field (.string own k) "java/lang/String" "value" "[B") (.int (Int32.ofNat j))) (.int (byt.getD j 0))).before args s = true) (hf : ∀ j, j < w → fits .byte (.int (byt.getD j 0)) = true) (hA : ∀ a : Nat, a < s.heap.size → ¬ A a) : ∃ sa, vk_R own k tx sa s ∧ tX sa w A s s.heap := by
  obtain ⟨sa, hk⟩ := vk_Rof hr
  have ht : (Term.string own k).eval args s none [] s = some (.ref sa) := hk.2
  obtain ⟨ra, hra, hT⟩ := va_Tof (f := fun j => .int (byt.getD j 0)) (A := A) hw har (va_eqt hle) (fun j hj => va_eqt (hel j hj)) hA
  exact ⟨sa, hk, va_Oof hex ht hA, vk_OFof ht (va_eqt hco) hA, ra, fun j => byt.getD j 0, vk_OFof ht hra hA, hT, hf⟩
theorem kS_of {s : State} {own : String} {L : List (Nat × String × Nat)} {A : Nat → Prop} (h : ∀ q ∈ L, ∃ sa, vk_R own q.1 q.2.1 sa s ∧ tX sa q.2.2 A s s.heap) : ∃ ad, kS own L ad A s s.heap := by
  have h0 : ∀ i : Nat, ∃ sa : Nat, ∀ q, L[i]? = some q → vk_R own q.1 q.2.1 sa s ∧ tX sa q.2.2 A s s.heap := fun i => by
    cases e : L[i]? with
    | none => exact ⟨0, fun q hq => by cases hq⟩
    | some q0 =>
      obtain ⟨sa, h1⟩ := h q0 (List.mem_of_getElem? e)
      exact ⟨sa, fun q hq => by cases hq; exact h1⟩
  obtain ⟨ad, had⟩ := Classical.axiomOfChoice h0
  exact ⟨ad, fun i q hi => had i q hi⟩
theorem inw_J0 : ∀ w ∈ wsJ00, w ∈ lwx := gTt [(5, 191), (5, 193), (5, 195), (5, 197)] rfl
theorem inw_J4 : ∀ w ∈ wsJ40, w ∈ lwx := gTt [(4, 201), (4, 203), (4, 205), (4, 207)] rfl
theorem inw_J6 : ∀ w ∈ wsJ60, w ∈ lwx := gTt [(7, 42)] rfl
theorem inw_Jx35411 : ∀ w ∈ wsJx354110, w ∈ lwx := gTt [(7, 189), (7, 191), (7, 193), (7, 195)] rfl
theorem inw_Jx4a65c : ∀ w ∈ wsJx4a65c0, w ∈ lwx := gTt [(6, 64), (6, 60), (6, 62)] rfl
theorem inw_X0 : ∀ w ∈ wsX00, w ∈ lwx := gTt [(1, 204), (1, 206), (1, 208)] rfl
theorem inw_X1 : ∀ w ∈ wsX10, w ∈ lwx := gTt [(1, 116), (1, 118), (1, 120), (1, 122), (1, 124), (1, 126), (1, 128)] rfl
theorem inw_X2 : ∀ w ∈ wsX20, w ∈ lwx := gTt [(1, 86), (1, 88), (1, 90), (1, 92), (1, 94), (1, 96)] rfl
theorem inw_X3 : ∀ w ∈ wsX30, w ∈ lwx := gTt [(1, 152), (1, 154), (1, 156), (1, 158), (1, 160), (1, 162), (1, 164), (1, 166)] rfl
theorem inw_X4 : ∀ w ∈ wsX40, w ∈ lwx := gTt [(1, 63), (1, 65)] rfl
theorem inw_X5 : ∀ w ∈ wsX50, w ∈ lwx := gTt [(1, 184), (1, 186), (1, 188), (1, 190)] rfl
theorem inw_X6 : ∀ w ∈ wsX60, w ∈ lwx := gTt [(2, 0), (2, 2), (2, 4), (2, 6), (2, 8), (2, 10), (2, 12), (2, 14), (2, 16), (2, 18), (2, 20), (2, 22)] rfl
theorem inw_X7 : ∀ w ∈ wsX70, w ∈ lwx := gTt [(2, 40), (2, 42), (2, 44), (2, 46), (2, 48), (2, 50), (2, 52), (2, 54), (2, 56), (2, 58), (2, 60), (2, 62), (2, 64), (2, 66), (2, 68)] rfl
theorem inw_X8 : ∀ w ∈ wsX80, w ∈ lwx := gTt [(3, 169), (3, 171)] rfl
theorem inw_X9 : ∀ w ∈ wsX90, w ∈ lwx := gTt [(6, 145), (6, 147), (6, 149), (6, 151), (6, 153), (6, 155), (6, 157)] rfl
theorem inw_X10 : ∀ w ∈ wsX100, w ∈ lwx := gTt [(7, 82), (7, 84), (7, 86), (7, 88), (7, 90), (7, 92), (7, 94), (7, 96), (7, 98), (7, 100), (7, 102), (7, 104)] rfl
theorem inw_X11 : ∀ w ∈ wsX110, w ∈ lwx := gTt [(6, 84), (6, 86), (6, 88), (6, 90), (6, 92), (6, 94), (6, 96), (6, 98), (6, 100), (6, 102), (6, 104), (6, 106), (6, 108)] rfl
theorem nestL_in : ∀ w ∈ nestL, w ∈ lwx := gTt [(2, 145), (2, 147), (2, 149), (2, 219), (2, 143), (3, 191), (3, 167), (3, 168), (7, 76), (7, 67), (7, 68), (7, 69), (7, 71), (7, 73), (7, 74), (7, 75), (6, 144), (7, 77), (7, 78), (7, 81), (7, 80), (6, 142), (6, 137), (6, 138), (6, 139), (6, 140), (6, 141), (6, 54), (1, 71), (1, 102), (1, 132), (1, 194), (1, 212), (3, 133), (3, 1), (3, 163), (7, 63), (6, 133)] rfl
theorem nestL_tab : ∀ w ∈ nestL, w.onTables = true := by decide +kernel
theorem nestR_in : ∀ w ∈ nestR, w ∈ lwx := gTt [(6, 54), (6, 133), (6, 137), (6, 138), (6, 139), (6, 140), (6, 141), (6, 142), (6, 144), (7, 63), (7, 67), (7, 68), (7, 69), (7, 71), (7, 73), (7, 74), (7, 75), (7, 76), (7, 77), (7, 78), (7, 80), (7, 81), (7, 201), (7, 211), (7, 202), (8, 217), (8, 218), (8, 206)] rfl
theorem nestR_tab : ∀ w ∈ nestR, w.onTables = true := by decide +kernel
theorem strL_in0 : ∀ w ∈ strL.map (fun q => Cond.stringRef q.1 q.2.1 q.2.2), w ∈ lwx := gTt [(3, 159), (3, 188), (3, 198), (3, 212), (3, 220), (3, 228), (3, 236), (4, 16), (4, 17), (4, 32), (4, 37), (4, 49), (4, 50), (4, 69), (4, 101), (4, 102), (4, 110), (4, 111), (3, 4), (3, 18), (3, 28), (3, 59), (4, 166), (3, 124), (4, 178), (2, 182), (5, 211), (5, 213), (5, 214), (6, 2), (3, 12), (2, 226), (3, 27), (3, 45), (4, 85), (5, 218), (5, 219), (5, 220), (5, 221), (5, 226), (5, 227), (8, 114), (8, 118), (8, 121), (8, 143), (8, 144), (8, 145), (8, 146), (8, 147), (8, 148), (8, 149), (8, 150), (8, 151), (5, 135)] rfl
theorem strL_in : ∀ q ∈ strL, Cond.stringRef q.1 q.2.1 q.2.2 ∈ lwx := fun q hq => strL_in0 _ (List.mem_map.mpr ⟨q, hq, rfl⟩)
theorem newL_in0 : ∀ w ∈ newL.map (fun C => Cond.arrayOver (.object C)), w ∈ lwx := gTt [(1, 46), (1, 48), (1, 50), (1, 52), (6, 208)] rfl
theorem newL_in : ∀ C ∈ newL, Cond.arrayOver (.object C) ∈ lwx := fun C hC => newL_in0 _ (List.mem_map.mpr ⟨C, hC, rfl⟩)
set_option maxHeartbeats 4000000 in
theorem lw_K {s : State} {args : Array Value} (hts : ∀ w ∈ lwx, w.before args s = true) : ∃ (D : va_G) (cy : Nat → ClassId), va_K D vwCl (fdT cy) s := by
  obtain ⟨c0, i0, k0⟩ := u_known (C := RJ0) (T := TJ0) (N := 4) (n := 4) hts inw_J0 (hts _ (tw 5 100 rfl))
  obtain ⟨c1, i1, k1⟩ := u_known (C := RJ4) (T := TJ4) (N := 4) (n := 4) hts inw_J4 (hts _ (tw 4 180 rfl))
  obtain ⟨c2, i2, k2⟩ := u_known (C := RJ6) (T := TJ6) (N := 1) (n := 1) hts inw_J6 (hts _ (tw 7 33 rfl))
  obtain ⟨c3, i3, k3⟩ := u_known (C := RJx35411) (T := TJx35411) (N := 4) (n := 4) hts inw_Jx35411 (hts _ (tw 7 180 rfl))
  obtain ⟨c4, i4, k4⟩ := u_known (C := RJx4a65c) (T := TJx4a65c) (N := 3) (n := 3) hts inw_Jx4a65c (hts _ (tw 6 39 rfl))
  obtain ⟨c5, i5, k5⟩ := u_known (C := RX0) (T := TX0) (N := 3) (n := 3) hts inw_X0 (hts _ (tw 1 193 rfl))
  obtain ⟨c6, i6, k6⟩ := u_known (C := RX1) (T := TX1) (N := 7) (n := 7) hts inw_X1 (hts _ (tw 1 101 rfl))
  obtain ⟨c7, i7, k7⟩ := u_known (C := RX2) (T := TX2) (N := 6) (n := 6) hts inw_X2 (hts _ (tw 1 70 rfl))
  obtain ⟨c8, i8, k8⟩ := u_known (C := RX3) (T := TX3) (N := 8) (n := 8) hts inw_X3 (hts _ (tw 1 131 rfl))
  obtain ⟨c9, i9, k9⟩ := u_known (C := RX4) (T := TX4) (N := 2) (n := 2) hts inw_X4 (hts _ (tw 1 54 rfl))
  obtain ⟨c10, i10, k10⟩ := u_known (C := RX5) (T := TX5) (N := 4) (n := 4) hts inw_X5 (hts _ (tw 1 169 rfl))
  obtain ⟨c11, i11, k11⟩ := u_known (C := RX6) (T := TX6) (N := 12) (n := 12) hts inw_X6 (hts _ (tw 1 211 rfl))
  obtain ⟨c12, i12, k12⟩ := u_known (C := RX7) (T := TX7) (N := 15) (n := 15) hts inw_X7 (hts _ (tw 1 38 rfl))
  obtain ⟨c13, i13, k13⟩ := u_known (C := RX8) (T := TX8) (N := 2) (n := 2) hts inw_X8 (hts _ (tw 3 162 rfl))
  obtain ⟨c14, i14, k14⟩ := u_known (C := RX9) (T := TX9) (N := 7) (n := 7) hts inw_X9 (hts _ (tw 6 132 rfl))
  obtain ⟨c15, i15, k15⟩ := u_known (C := RX10) (T := TX10) (N := 12) (n := 12) hts inw_X10 (hts _ (tw 7 62 rfl))
  obtain ⟨c16, i16, k16⟩ := u_known (C := RX11) (T := TX11) (N := 13) (n := 13) hts inw_X11 (hts _ (tw 6 33 rfl))
  obtain ⟨a0, x0, y0⟩ := lw_arrC (ty := .int) (hts _ (tw 1 68 rfl))
  obtain ⟨a1, x1, y1⟩ := lw_arrC (ty := .boolean) (hts _ (tw 1 99 rfl))
  obtain ⟨a2, z2⟩ := lw_arrO (C := "FirstdanceAgency$Player") (hts _ (tw 1 46 rfl))
  obtain ⟨a3, z3⟩ := lw_arrO (C := "FirstdanceAgency$Song") (hts _ (tw 1 48 rfl))
  obtain ⟨a4, z4⟩ := lw_arrO (C := "FirstdanceAgency$Band") (hts _ (tw 1 50 rfl))
  obtain ⟨a5, z5⟩ := lw_arrO (C := "FirstdanceAgency$Wedding") (hts _ (tw 1 52 rfl))
  obtain ⟨a6, z6⟩ := lw_arrA (t := .int) (hts _ (tw 1 60 rfl))
  obtain ⟨a7, z7⟩ := lw_arrO (C := "java/lang/Object") (hts _ (tw 6 208 rfl))
  obtain ⟨a8, x8, y8⟩ := lw_arrC (ty := .byte) (hts _ (tw 2 208 rfl))
  refine ⟨(fun k => match k with | 1 => c1 | 2 => c2 | 3 => c3 | 4 => c4 | 5 => c5 | 6 => c6 | 7 => c7 | 8 => c8 | 9 => c9 | 10 => c10 | 11 => c11 | 12 => c12 | 13 => c13 | 14 => c14 | 15 => c15 | 16 => c16 | _ => c0, fun k => match k with | 1 => i1 | 2 => i2 | 3 => i3 | 4 => i4 | 5 => i5 | 6 => i6 | 7 => i7 | 8 => i8 | 9 => i9 | 10 => i10 | 11 => i11 | 12 => i12 | 13 => i13 | 14 => i14 | 15 => i15 | 16 => i16 | _ => i0),
    fun k => match k with | 0 => a0 | 1 => a1 | 2 => a2 | 3 => a3 | 4 => a4 | 5 => a5 | 6 => a6 | 7 => a7 | _ => a8, fun k q hq => ?_, fun k q hq => ?_⟩
  · match k, hq with
    | 0, hq => cases hq; exact k0
    | 1, hq => cases hq; exact k1
    | 2, hq => cases hq; exact k2
    | 3, hq => cases hq; exact k3
    | 4, hq => cases hq; exact k4
    | 5, hq => cases hq; exact k5
    | 6, hq => cases hq; exact k6
    | 7, hq => cases hq; exact k7
    | 8, hq => cases hq; exact k8
    | 9, hq => cases hq; exact k9
    | 10, hq => cases hq; exact k10
    | 11, hq => cases hq; exact k11
    | 12, hq => cases hq; exact k12
    | 13, hq => cases hq; exact k13
    | 14, hq => cases hq; exact k14
    | 15, hq => cases hq; exact k15
    | 16, hq => cases hq; exact k16
    | k + 17, hq => simp [vwCl] at hq
  · match k, hq with
    | 0, hq => cases hq; exact ⟨x0, y0⟩
    | 1, hq => cases hq; exact ⟨x1, y1⟩
    | 2, hq => cases hq; exact z2
    | 3, hq => cases hq; exact z3
    | 4, hq => cases hq; exact z4
    | 5, hq => cases hq; exact z5
    | 6, hq => cases hq; exact z6
    | 7, hq => cases hq; exact z7
    | 8, hq => cases hq; exact ⟨x8, y8⟩
    | k + 9, hq => simp [fdT] at hq
def dgDigitOnes : List Int32 := [48, 49, 50, 51, 52, 53, 54, 55, 56, 57, 48, 49, 50, 51, 52, 53, 54, 55, 56, 57, 48, 49, 50, 51, 52, 53, 54, 55, 56, 57, 48, 49, 50, 51, 52, 53, 54, 55, 56, 57, 48, 49, 50, 51, 52, 53, 54, 55, 56, 57, 48, 49, 50, 51, 52, 53, 54, 55, 56, 57, 48, 49, 50, 51, 52, 53, 54, 55, 56, 57, 48, 49, 50, 51, 52, 53, 54, 55, 56, 57, 48, 49, 50, 51, 52, 53, 54, 55, 56, 57, 48, 49, 50, 51, 52, 53, 54, 55, 56, 57]
theorem elDigitOnes {args : Array Value} {s : State} (hgv : gvn.before args s = true) : ∀ j, j < 100 → (Cond.eq (.elem (.static "java/lang/Integer" "DigitOnes" "[B") (.int (Int32.ofNat j))) (.int (dgDigitOnes.getD j 0))).before args s = true := fun j hj => match j, hj with
  | 0, _ => pqC hgv [true, false, false, false, false, false, false, true, false, false, false] rfl
  | 1, _ => pqC hgv [true, false, false, false, false, false, false, true, false, false, true, false] rfl
  | 2, _ => pqC hgv [true, false, false, false, false, false, false, true, false, false, true, true] rfl
  | 3, _ => pqC hgv [true, false, false, false, false, false, false, true, false, true, false] rfl
  | 4, _ => pqC hgv [true, false, false, false, false, false, false, true, false, true, true, false] rfl
  | 5, _ => pqC hgv [true, false, false, false, false, false, false, true, false, true, true, true] rfl
  | 6, _ => pqC hgv [true, false, false, false, false, false, false, true, true, false, false] rfl
  | 7, _ => pqC hgv [true, false, false, false, false, false, false, true, true, false, true, false] rfl
  | 8, _ => pqC hgv [true, false, false, false, false, false, false, true, true, false, true, true] rfl
  | 9, _ => pqC hgv [true, false, false, false, false, false, false, true, true, true, false, false] rfl
  | 10, _ => pqC hgv [true, false, false, false, false, false, false, true, true, true, false, true] rfl
  | 11, _ => pqC hgv [true, false, false, false, false, false, false, true, true, true, true, false] rfl
  | 12, _ => pqC hgv [true, false, false, false, false, false, false, true, true, true, true, true] rfl
  | 13, _ => pqC hgv [true, false, false, false, false, false, true, false, false, false, false] rfl
  | 14, _ => pqC hgv [true, false, false, false, false, false, true, false, false, false, true, false] rfl
  | 15, _ => pqC hgv [true, false, false, false, false, false, true, false, false, false, true, true] rfl
  | 16, _ => pqC hgv [true, false, false, false, false, false, true, false, false, true, false] rfl
  | 17, _ => pqC hgv [true, false, false, false, false, false, true, false, false, true, true, false] rfl
  | 18, _ => pqC hgv [true, false, false, false, false, false, true, false, false, true, true, true] rfl
  | 19, _ => pqC hgv [true, false, false, false, false, false, true, false, true, false, false] rfl
  | 20, _ => pqC hgv [true, false, false, false, false, false, true, false, true, false, true, false] rfl
  | 21, _ => pqC hgv [true, false, false, false, false, false, true, false, true, false, true, true] rfl
  | 22, _ => pqC hgv [true, false, false, false, false, false, true, false, true, true, false] rfl
  | 23, _ => pqC hgv [true, false, false, false, false, false, true, false, true, true, true, false] rfl
  | 24, _ => pqC hgv [true, false, false, false, false, false, true, false, true, true, true, true] rfl
  | 25, _ => pqC hgv [true, false, false, false, false, false, true, true, false, false, false] rfl
  | 26, _ => pqC hgv [true, false, false, false, false, false, true, true, false, false, true, false] rfl
  | 27, _ => pqC hgv [true, false, false, false, false, false, true, true, false, false, true, true] rfl
  | 28, _ => pqC hgv [true, false, false, false, false, false, true, true, false, true, false] rfl
  | 29, _ => pqC hgv [true, false, false, false, false, false, true, true, false, true, true, false] rfl
  | 30, _ => pqC hgv [true, false, false, false, false, false, true, true, false, true, true, true] rfl
  | 31, _ => pqC hgv [true, false, false, false, false, false, true, true, true, false, false] rfl
  | 32, _ => pqC hgv [true, false, false, false, false, false, true, true, true, false, true, false] rfl
  | 33, _ => pqC hgv [true, false, false, false, false, false, true, true, true, false, true, true] rfl
  | 34, _ => pqC hgv [true, false, false, false, false, false, true, true, true, true, false, false] rfl
  | 35, _ => pqC hgv [true, false, false, false, false, false, true, true, true, true, false, true] rfl
  | 36, _ => pqC hgv [true, false, false, false, false, false, true, true, true, true, true, false] rfl
  | 37, _ => pqC hgv [true, false, false, false, false, false, true, true, true, true, true, true] rfl
  | 38, _ => pqC hgv [true, false, false, false, false, true, false, false, false, false, false] rfl
  | 39, _ => pqC hgv [true, false, false, false, false, true, false, false, false, false, true, false] rfl
  | 40, _ => pqC hgv [true, false, false, false, false, true, false, false, false, false, true, true] rfl
  | 41, _ => pqC hgv [true, false, false, false, false, true, false, false, false, true, false] rfl
  | 42, _ => pqC hgv [true, false, false, false, false, true, false, false, false, true, true, false] rfl
  | 43, _ => pqC hgv [true, false, false, false, false, true, false, false, false, true, true, true] rfl
  | 44, _ => pqC hgv [true, false, false, false, false, true, false, false, true, false, false] rfl
  | 45, _ => pqC hgv [true, false, false, false, false, true, false, false, true, false, true, false] rfl
  | 46, _ => pqC hgv [true, false, false, false, false, true, false, false, true, false, true, true] rfl
  | 47, _ => pqC hgv [true, false, false, false, false, true, false, false, true, true, false] rfl
  | 48, _ => pqC hgv [true, false, false, false, false, true, false, false, true, true, true, false] rfl
  | 49, _ => pqC hgv [true, false, false, false, false, true, false, false, true, true, true, true] rfl
  | 50, _ => pqC hgv [true, false, false, false, false, true, false, true, false, false, false] rfl
  | 51, _ => pqC hgv [true, false, false, false, false, true, false, true, false, false, true, false] rfl
  | 52, _ => pqC hgv [true, false, false, false, false, true, false, true, false, false, true, true] rfl
  | 53, _ => pqC hgv [true, false, false, false, false, true, false, true, false, true, false] rfl
  | 54, _ => pqC hgv [true, false, false, false, false, true, false, true, false, true, true, false] rfl
  | 55, _ => pqC hgv [true, false, false, false, false, true, false, true, false, true, true, true] rfl
  | 56, _ => pqC hgv [true, false, false, false, false, true, false, true, true, false, false] rfl
  | 57, _ => pqC hgv [true, false, false, false, false, true, false, true, true, false, true, false] rfl
  | 58, _ => pqC hgv [true, false, false, false, false, true, false, true, true, false, true, true] rfl
  | 59, _ => pqC hgv [true, false, false, false, false, true, false, true, true, true, false, false] rfl
  | 60, _ => pqC hgv [true, false, false, false, false, true, false, true, true, true, false, true] rfl
  | 61, _ => pqC hgv [true, false, false, false, false, true, false, true, true, true, true, false] rfl
  | 62, _ => pqC hgv [true, false, false, false, false, true, false, true, true, true, true, true] rfl
  | 63, _ => pqC hgv [true, false, false, false, false, true, true, false, false, false, false] rfl
  | 64, _ => pqC hgv [true, false, false, false, false, true, true, false, false, false, true, false] rfl
  | 65, _ => pqC hgv [true, false, false, false, false, true, true, false, false, false, true, true] rfl
  | 66, _ => pqC hgv [true, false, false, false, false, true, true, false, false, true, false] rfl
  | 67, _ => pqC hgv [true, false, false, false, false, true, true, false, false, true, true, false] rfl
  | 68, _ => pqC hgv [true, false, false, false, false, true, true, false, false, true, true, true] rfl
  | 69, _ => pqC hgv [true, false, false, false, false, true, true, false, true, false, false] rfl
  | 70, _ => pqC hgv [true, false, false, false, false, true, true, false, true, false, true, false] rfl
  | 71, _ => pqC hgv [true, false, false, false, false, true, true, false, true, false, true, true] rfl
  | 72, _ => pqC hgv [true, false, false, false, false, true, true, false, true, true, false] rfl
  | 73, _ => pqC hgv [true, false, false, false, false, true, true, false, true, true, true, false] rfl
  | 74, _ => pqC hgv [true, false, false, false, false, true, true, false, true, true, true, true] rfl
  | 75, _ => pqC hgv [true, false, false, false, false, true, true, true, false, false, false] rfl
  | 76, _ => pqC hgv [true, false, false, false, false, true, true, true, false, false, true, false] rfl
  | 77, _ => pqC hgv [true, false, false, false, false, true, true, true, false, false, true, true] rfl
  | 78, _ => pqC hgv [true, false, false, false, false, true, true, true, false, true, false] rfl
  | 79, _ => pqC hgv [true, false, false, false, false, true, true, true, false, true, true, false] rfl
  | 80, _ => pqC hgv [true, false, false, false, false, true, true, true, false, true, true, true] rfl
  | 81, _ => pqC hgv [true, false, false, false, false, true, true, true, true, false, false] rfl
  | 82, _ => pqC hgv [true, false, false, false, false, true, true, true, true, false, true, false] rfl
  | 83, _ => pqC hgv [true, false, false, false, false, true, true, true, true, false, true, true] rfl
  | 84, _ => pqC hgv [true, false, false, false, false, true, true, true, true, true, false, false] rfl
  | 85, _ => pqC hgv [true, false, false, false, false, true, true, true, true, true, false, true] rfl
  | 86, _ => pqC hgv [true, false, false, false, false, true, true, true, true, true, true, false] rfl
  | 87, _ => pqC hgv [true, false, false, false, false, true, true, true, true, true, true, true] rfl
  | 88, _ => pqC hgv [true, false, false, false, true, false, false, false, false, false, false] rfl
  | 89, _ => pqC hgv [true, false, false, false, true, false, false, false, false, false, true, false] rfl
  | 90, _ => pqC hgv [true, false, false, false, true, false, false, false, false, false, true, true] rfl
  | 91, _ => pqC hgv [true, false, false, false, true, false, false, false, false, true, false] rfl
  | 92, _ => pqC hgv [true, false, false, false, true, false, false, false, false, true, true, false] rfl
  | 93, _ => pqC hgv [true, false, false, false, true, false, false, false, false, true, true, true] rfl
  | 94, _ => pqC hgv [true, false, false, false, true, false, false, false, true, false, false] rfl
  | 95, _ => pqC hgv [true, false, false, false, true, false, false, false, true, false, true, false] rfl
  | 96, _ => pqC hgv [true, false, false, false, true, false, false, false, true, false, true, true] rfl
  | 97, _ => pqC hgv [true, false, false, false, true, false, false, false, true, true, false] rfl
  | 98, _ => pqC hgv [true, false, false, false, true, false, false, false, true, true, true, false] rfl
  | 99, _ => pqC hgv [true, false, false, false, true, false, false, false, true, true, true, true] rfl
  | j + 100, hj => absurd hj (by omega)
theorem dzDigitOnes {args : Array Value} {s : State} {A : Nat → Prop} (hts : ∀ w ∈ lwx, w.before args s = true) (hgv : gvn.before args s = true) (hA : ∀ a : Nat, a < s.heap.size → ¬ A a) : ∃ (q : Nat) (f : Nat → Int32), va_Z "java/lang/Integer" "DigitOnes" "[B" (.ref q) A s s.heap ∧ va_T .byte q 100 (fun j => .int (f j)) A s s.heap := by
  obtain ⟨t, ht, hT⟩ := va_Tof (tm := .static "java/lang/Integer" "DigitOnes" "[B") (N := 100) (f := fun j => .int (dgDigitOnes.getD j 0)) (A := A) (by decide) (pqC hgv [true, false, false, false, false, false, false, false, true, true, true, false] rfl) (va_eqt (pqC hgv [true, false, false, false, false, false, false, false, true, true, true, true] rfl)) (fun j hj => va_eqt (elDigitOnes hgv j hj)) hA
  exact ⟨t, fun j => dgDigitOnes.getD j 0, va_Zof (hts _ (tw 5 75 rfl)) (hts _ (tw 1 26 rfl)) ht hA, hT⟩
def dgDigitTens : List Int32 := [48, 48, 48, 48, 48, 48, 48, 48, 48, 48, 49, 49, 49, 49, 49, 49, 49, 49, 49, 49, 50, 50, 50, 50, 50, 50, 50, 50, 50, 50, 51, 51, 51, 51, 51, 51, 51, 51, 51, 51, 52, 52, 52, 52, 52, 52, 52, 52, 52, 52, 53, 53, 53, 53, 53, 53, 53, 53, 53, 53, 54, 54, 54, 54, 54, 54, 54, 54, 54, 54, 55, 55, 55, 55, 55, 55, 55, 55, 55, 55, 56, 56, 56, 56, 56, 56, 56, 56, 56, 56, 57, 57, 57, 57, 57, 57, 57, 57, 57, 57]
theorem elDigitTens {args : Array Value} {s : State} (hgv : gvn.before args s = true) : ∀ j, j < 100 → (Cond.eq (.elem (.static "java/lang/Integer" "DigitTens" "[B") (.int (Int32.ofNat j))) (.int (dgDigitTens.getD j 0))).before args s = true := fun j hj => match j, hj with
  | 0, _ => pqC hgv [true, false, false, false, true, false, false, true, false, true, false] rfl
  | 1, _ => pqC hgv [true, false, false, false, true, false, false, true, false, true, true, false] rfl
  | 2, _ => pqC hgv [true, false, false, false, true, false, false, true, false, true, true, true] rfl
  | 3, _ => pqC hgv [true, false, false, false, true, false, false, true, true, false, false] rfl
  | 4, _ => pqC hgv [true, false, false, false, true, false, false, true, true, false, true, false] rfl
  | 5, _ => pqC hgv [true, false, false, false, true, false, false, true, true, false, true, true] rfl
  | 6, _ => pqC hgv [true, false, false, false, true, false, false, true, true, true, false, false] rfl
  | 7, _ => pqC hgv [true, false, false, false, true, false, false, true, true, true, false, true] rfl
  | 8, _ => pqC hgv [true, false, false, false, true, false, false, true, true, true, true, false] rfl
  | 9, _ => pqC hgv [true, false, false, false, true, false, false, true, true, true, true, true] rfl
  | 10, _ => pqC hgv [true, false, false, false, true, false, true, false, false, false, false] rfl
  | 11, _ => pqC hgv [true, false, false, false, true, false, true, false, false, false, true, false] rfl
  | 12, _ => pqC hgv [true, false, false, false, true, false, true, false, false, false, true, true] rfl
  | 13, _ => pqC hgv [true, false, false, false, true, false, true, false, false, true, false] rfl
  | 14, _ => pqC hgv [true, false, false, false, true, false, true, false, false, true, true, false] rfl
  | 15, _ => pqC hgv [true, false, false, false, true, false, true, false, false, true, true, true] rfl
  | 16, _ => pqC hgv [true, false, false, false, true, false, true, false, true, false, false] rfl
  | 17, _ => pqC hgv [true, false, false, false, true, false, true, false, true, false, true, false] rfl
  | 18, _ => pqC hgv [true, false, false, false, true, false, true, false, true, false, true, true] rfl
  | 19, _ => pqC hgv [true, false, false, false, true, false, true, false, true, true, false] rfl
  | 20, _ => pqC hgv [true, false, false, false, true, false, true, false, true, true, true, false] rfl
  | 21, _ => pqC hgv [true, false, false, false, true, false, true, false, true, true, true, true] rfl
  | 22, _ => pqC hgv [true, false, false, false, true, false, true, true, false, false, false] rfl
  | 23, _ => pqC hgv [true, false, false, false, true, false, true, true, false, false, true, false] rfl
  | 24, _ => pqC hgv [true, false, false, false, true, false, true, true, false, false, true, true] rfl
  | 25, _ => pqC hgv [true, false, false, false, true, false, true, true, false, true, false] rfl
  | 26, _ => pqC hgv [true, false, false, false, true, false, true, true, false, true, true, false] rfl
  | 27, _ => pqC hgv [true, false, false, false, true, false, true, true, false, true, true, true] rfl
  | 28, _ => pqC hgv [true, false, false, false, true, false, true, true, true, false, false] rfl
  | 29, _ => pqC hgv [true, false, false, false, true, false, true, true, true, false, true, false] rfl
  | 30, _ => pqC hgv [true, false, false, false, true, false, true, true, true, false, true, true] rfl
  | 31, _ => pqC hgv [true, false, false, false, true, false, true, true, true, true, false, false] rfl
  | 32, _ => pqC hgv [true, false, false, false, true, false, true, true, true, true, false, true] rfl
  | 33, _ => pqC hgv [true, false, false, false, true, false, true, true, true, true, true, false] rfl
  | 34, _ => pqC hgv [true, false, false, false, true, false, true, true, true, true, true, true] rfl
  | 35, _ => pqC hgv [true, false, false, false, true, true, false, false, false, false, false] rfl
  | 36, _ => pqC hgv [true, false, false, false, true, true, false, false, false, false, true, false] rfl
  | 37, _ => pqC hgv [true, false, false, false, true, true, false, false, false, false, true, true] rfl
  | 38, _ => pqC hgv [true, false, false, false, true, true, false, false, false, true, false] rfl
  | 39, _ => pqC hgv [true, false, false, false, true, true, false, false, false, true, true, false] rfl
  | 40, _ => pqC hgv [true, false, false, false, true, true, false, false, false, true, true, true] rfl
  | 41, _ => pqC hgv [true, false, false, false, true, true, false, false, true, false, false] rfl
  | 42, _ => pqC hgv [true, false, false, false, true, true, false, false, true, false, true, false] rfl
  | 43, _ => pqC hgv [true, false, false, false, true, true, false, false, true, false, true, true] rfl
  | 44, _ => pqC hgv [true, false, false, false, true, true, false, false, true, true, false] rfl
  | 45, _ => pqC hgv [true, false, false, false, true, true, false, false, true, true, true, false] rfl
  | 46, _ => pqC hgv [true, false, false, false, true, true, false, false, true, true, true, true] rfl
  | 47, _ => pqC hgv [true, false, false, false, true, true, false, true, false, false, false] rfl
  | 48, _ => pqC hgv [true, false, false, false, true, true, false, true, false, false, true, false] rfl
  | 49, _ => pqC hgv [true, false, false, false, true, true, false, true, false, false, true, true] rfl
  | 50, _ => pqC hgv [true, false, false, false, true, true, false, true, false, true, false] rfl
  | 51, _ => pqC hgv [true, false, false, false, true, true, false, true, false, true, true, false] rfl
  | 52, _ => pqC hgv [true, false, false, false, true, true, false, true, false, true, true, true] rfl
  | 53, _ => pqC hgv [true, false, false, false, true, true, false, true, true, false, false] rfl
  | 54, _ => pqC hgv [true, false, false, false, true, true, false, true, true, false, true, false] rfl
  | 55, _ => pqC hgv [true, false, false, false, true, true, false, true, true, false, true, true] rfl
  | 56, _ => pqC hgv [true, false, false, false, true, true, false, true, true, true, false, false] rfl
  | 57, _ => pqC hgv [true, false, false, false, true, true, false, true, true, true, false, true] rfl
  | 58, _ => pqC hgv [true, false, false, false, true, true, false, true, true, true, true, false] rfl
  | 59, _ => pqC hgv [true, false, false, false, true, true, false, true, true, true, true, true] rfl
  | 60, _ => pqC hgv [true, false, false, false, true, true, true, false, false, false, false] rfl
  | 61, _ => pqC hgv [true, false, false, false, true, true, true, false, false, false, true, false] rfl
  | 62, _ => pqC hgv [true, false, false, false, true, true, true, false, false, false, true, true] rfl
  | 63, _ => pqC hgv [true, false, false, false, true, true, true, false, false, true, false] rfl
  | 64, _ => pqC hgv [true, false, false, false, true, true, true, false, false, true, true, false] rfl
  | 65, _ => pqC hgv [true, false, false, false, true, true, true, false, false, true, true, true] rfl
  | 66, _ => pqC hgv [true, false, false, false, true, true, true, false, true, false, false] rfl
  | 67, _ => pqC hgv [true, false, false, false, true, true, true, false, true, false, true, false] rfl
  | 68, _ => pqC hgv [true, false, false, false, true, true, true, false, true, false, true, true] rfl
  | 69, _ => pqC hgv [true, false, false, false, true, true, true, false, true, true, false] rfl
  | 70, _ => pqC hgv [true, false, false, false, true, true, true, false, true, true, true, false] rfl
  | 71, _ => pqC hgv [true, false, false, false, true, true, true, false, true, true, true, true] rfl
  | 72, _ => pqC hgv [true, false, false, false, true, true, true, true, false, false, false] rfl
  | 73, _ => pqC hgv [true, false, false, false, true, true, true, true, false, false, true, false] rfl
  | 74, _ => pqC hgv [true, false, false, false, true, true, true, true, false, false, true, true] rfl
  | 75, _ => pqC hgv [true, false, false, false, true, true, true, true, false, true, false] rfl
  | 76, _ => pqC hgv [true, false, false, false, true, true, true, true, false, true, true, false] rfl
  | 77, _ => pqC hgv [true, false, false, false, true, true, true, true, false, true, true, true] rfl
  | 78, _ => pqC hgv [true, false, false, false, true, true, true, true, true, false, false] rfl
  | 79, _ => pqC hgv [true, false, false, false, true, true, true, true, true, false, true, false] rfl
  | 80, _ => pqC hgv [true, false, false, false, true, true, true, true, true, false, true, true] rfl
  | 81, _ => pqC hgv [true, false, false, false, true, true, true, true, true, true, false, false] rfl
  | 82, _ => pqC hgv [true, false, false, false, true, true, true, true, true, true, false, true] rfl
  | 83, _ => pqC hgv [true, false, false, false, true, true, true, true, true, true, true, false] rfl
  | 84, _ => pqC hgv [true, false, false, false, true, true, true, true, true, true, true, true] rfl
  | 85, _ => pqC hgv [true, false, false, true, false, false, false, false, false, false, false] rfl
  | 86, _ => pqC hgv [true, false, false, true, false, false, false, false, false, false, true, false] rfl
  | 87, _ => pqC hgv [true, false, false, true, false, false, false, false, false, false, true, true] rfl
  | 88, _ => pqC hgv [true, false, false, true, false, false, false, false, false, true, false] rfl
  | 89, _ => pqC hgv [true, false, false, true, false, false, false, false, false, true, true, false] rfl
  | 90, _ => pqC hgv [true, false, false, true, false, false, false, false, false, true, true, true] rfl
  | 91, _ => pqC hgv [true, false, false, true, false, false, false, false, true, false, false] rfl
  | 92, _ => pqC hgv [true, false, false, true, false, false, false, false, true, false, true, false] rfl
  | 93, _ => pqC hgv [true, false, false, true, false, false, false, false, true, false, true, true] rfl
  | 94, _ => pqC hgv [true, false, false, true, false, false, false, false, true, true, false] rfl
  | 95, _ => pqC hgv [true, false, false, true, false, false, false, false, true, true, true, false] rfl
  | 96, _ => pqC hgv [true, false, false, true, false, false, false, false, true, true, true, true] rfl
  | 97, _ => pqC hgv [true, false, false, true, false, false, false, true, false, false, false] rfl
  | 98, _ => pqC hgv [true, false, false, true, false, false, false, true, false, false, true, false] rfl
  | 99, _ => pqC hgv [true, false, false, true, false, false, false, true, false, false, true, true] rfl
  | j + 100, hj => absurd hj (by omega)
theorem dzDigitTens {args : Array Value} {s : State} {A : Nat → Prop} (hts : ∀ w ∈ lwx, w.before args s = true) (hgv : gvn.before args s = true) (hA : ∀ a : Nat, a < s.heap.size → ¬ A a) : ∃ (q : Nat) (f : Nat → Int32), va_Z "java/lang/Integer" "DigitTens" "[B" (.ref q) A s s.heap ∧ va_T .byte q 100 (fun j => .int (f j)) A s s.heap := by
  obtain ⟨t, ht, hT⟩ := va_Tof (tm := .static "java/lang/Integer" "DigitTens" "[B") (N := 100) (f := fun j => .int (dgDigitTens.getD j 0)) (A := A) (by decide) (pqC hgv [true, false, false, false, true, false, false, true, false, false, true, false] rfl) (va_eqt (pqC hgv [true, false, false, false, true, false, false, true, false, false, true, true] rfl)) (fun j hj => va_eqt (elDigitTens hgv j hj)) hA
  exact ⟨t, fun j => dgDigitTens.getD j 0, va_Zof (hts _ (tw 5 77 rfl)) (hts _ (tw 1 26 rfl)) ht hA, hT⟩
theorem tx_RX7_364 {args : Array Value} {s : State} {A : Nat → Prop} (hts : ∀ w ∈ lwx, w.before args s = true) (hgv : gvn.before args s = true) (hA : ∀ a : Nat, a < s.heap.size → ¬ A a) : ∃ sa, vk_R RX7 364 "-" sa s ∧ tX sa 1 A s s.heap :=
  tx_of (own := RX7) (k := 364) (w := 1) (tx := "-") (byt := [45]) (by decide) (hts _ (tw 4 178 rfl)) (pqC hgv [true, true, true, false, false, false, true, false, true, false, false] rfl) (pqC hgv [true, true, true, false, false, false, true, false, true, false, true] rfl) (pqC hgv [true, true, true, false, false, false, true, false, true, true, false] rfl) (pqC hgv [true, true, true, false, false, false, true, false, true, true, true] rfl) (fun j hj => match j, hj with | 0, _ => pqC hgv [true, true, true, false, false, false, true, true, false, false, false] rfl | j + 1, hj => absurd hj (by omega)) (fun j hj => match j, hj with | 0, _ => rfl | j + 1, hj => absurd hj (by omega)) hA
theorem tx_RX7_400 {args : Array Value} {s : State} {A : Nat → Prop} (hts : ∀ w ∈ lwx, w.before args s = true) (hgv : gvn.before args s = true) (hA : ∀ a : Nat, a < s.heap.size → ¬ A a) : ∃ sa, vk_R RX7 400 " on day " sa s ∧ tX sa 8 A s s.heap :=
  tx_of (own := RX7) (k := 400) (w := 8) (tx := " on day ") (byt := [32, 111, 110, 32, 100, 97, 121, 32]) (by decide) (hts _ (tw 5 211 rfl)) (pqC hgv [true, true, true, false, false, false, true, true, true, true, true, true] rfl) (pqC hgv [true, true, true, false, false, true, false, false, false, false, false] rfl) (pqC hgv [true, true, true, false, false, true, false, false, false, false, true] rfl) (pqC hgv [true, true, true, false, false, true, false, false, false, true, false] rfl) (fun j hj => match j, hj with | 0, _ => pqC hgv [true, true, true, false, false, true, false, false, false, true, true] rfl | 1, _ => pqC hgv [true, true, true, false, false, true, false, false, true, false, false] rfl | 2, _ => pqC hgv [true, true, true, false, false, true, false, false, true, false, true] rfl | 3, _ => pqC hgv [true, true, true, false, false, true, false, false, true, true, false] rfl | 4, _ => pqC hgv [true, true, true, false, false, true, false, false, true, true, true] rfl | 5, _ => pqC hgv [true, true, true, false, false, true, false, true, false, false, false] rfl | 6, _ => pqC hgv [true, true, true, false, false, true, false, true, false, false, true] rfl | 7, _ => pqC hgv [true, true, true, false, false, true, false, true, false, true, false] rfl | j + 8, hj => absurd hj (by omega)) (fun j hj => match j, hj with | 0, _ => rfl | 1, _ => rfl | 2, _ => rfl | 3, _ => rfl | 4, _ => rfl | 5, _ => rfl | 6, _ => rfl | 7, _ => rfl | j + 8, hj => absurd hj (by omega)) hA
theorem tx_RX7_405 {args : Array Value} {s : State} {A : Nat → Prop} (hts : ∀ w ∈ lwx, w.before args s = true) (hgv : gvn.before args s = true) (hA : ∀ a : Nat, a < s.heap.size → ¬ A a) : ∃ sa, vk_R RX7 405 " in " sa s ∧ tX sa 4 A s s.heap :=
  tx_of (own := RX7) (k := 405) (w := 4) (tx := " in ") (byt := [32, 105, 110, 32]) (by decide) (hts _ (tw 5 213 rfl)) (pqC hgv [true, true, true, false, false, true, false, true, false, true, true] rfl) (pqC hgv [true, true, true, false, false, true, false, true, true, false, false] rfl) (pqC hgv [true, true, true, false, false, true, false, true, true, false, true] rfl) (pqC hgv [true, true, true, false, false, true, false, true, true, true, false] rfl) (fun j hj => match j, hj with | 0, _ => pqC hgv [true, true, true, false, false, true, false, true, true, true, true, false] rfl | 1, _ => pqC hgv [true, true, true, false, false, true, false, true, true, true, true, true] rfl | 2, _ => pqC hgv [true, true, true, false, false, true, true, false, false, false, false] rfl | 3, _ => pqC hgv [true, true, true, false, false, true, true, false, false, false, true] rfl | j + 4, hj => absurd hj (by omega)) (fun j hj => match j, hj with | 0, _ => rfl | 1, _ => rfl | 2, _ => rfl | 3, _ => rfl | j + 4, hj => absurd hj (by omega)) hA
theorem tx_RX7_407 {args : Array Value} {s : State} {A : Nat → Prop} (hts : ∀ w ∈ lwx, w.before args s = true) (hgv : gvn.before args s = true) (hA : ∀ a : Nat, a < s.heap.size → ¬ A a) : ∃ sa, vk_R RX7 407 ", " sa s ∧ tX sa 2 A s s.heap :=
  tx_of (own := RX7) (k := 407) (w := 2) (tx := ", ") (byt := [44, 32]) (by decide) (hts _ (tw 5 214 rfl)) (pqC hgv [true, true, true, false, false, true, true, false, false, true, false] rfl) (pqC hgv [true, true, true, false, false, true, true, false, false, true, true] rfl) (pqC hgv [true, true, true, false, false, true, true, false, true, false, false] rfl) (pqC hgv [true, true, true, false, false, true, true, false, true, false, true] rfl) (fun j hj => match j, hj with | 0, _ => pqC hgv [true, true, true, false, false, true, true, false, true, true, false] rfl | 1, _ => pqC hgv [true, true, true, false, false, true, true, false, true, true, true] rfl | j + 2, hj => absurd hj (by omega)) (fun j hj => match j, hj with | 0, _ => rfl | 1, _ => rfl | j + 2, hj => absurd hj (by omega)) hA
theorem tx_RX7_543 {args : Array Value} {s : State} {A : Nat → Prop} (hts : ∀ w ∈ lwx, w.before args s = true) (hgv : gvn.before args s = true) (hA : ∀ a : Nat, a < s.heap.size → ¬ A a) : ∃ sa, vk_R RX7 543 "asked" sa s ∧ tX sa 5 A s s.heap :=
  tx_of (own := RX7) (k := 543) (w := 5) (tx := "asked") (byt := [97, 115, 107, 101, 100]) (by decide) (hts _ (tw 5 218 rfl)) (pqC hgv [true, true, true, false, false, true, true, true, false, false, false] rfl) (pqC hgv [true, true, true, false, false, true, true, true, false, false, true] rfl) (pqC hgv [true, true, true, false, false, true, true, true, false, true, false] rfl) (pqC hgv [true, true, true, false, false, true, true, true, false, true, true] rfl) (fun j hj => match j, hj with | 0, _ => pqC hgv [true, true, true, false, false, true, true, true, true, false, false] rfl | 1, _ => pqC hgv [true, true, true, false, false, true, true, true, true, false, true] rfl | 2, _ => pqC hgv [true, true, true, false, false, true, true, true, true, true, false] rfl | 3, _ => pqC hgv [true, true, true, false, false, true, true, true, true, true, true, false] rfl | 4, _ => pqC hgv [true, true, true, false, false, true, true, true, true, true, true, true] rfl | j + 5, hj => absurd hj (by omega)) (fun j hj => match j, hj with | 0, _ => rfl | 1, _ => rfl | 2, _ => rfl | 3, _ => rfl | 4, _ => rfl | j + 5, hj => absurd hj (by omega)) hA
theorem tx_RX7_545 {args : Array Value} {s : State} {A : Nat → Prop} (hts : ∀ w ∈ lwx, w.before args s = true) (hgv : gvn.before args s = true) (hA : ∀ a : Nat, a < s.heap.size → ¬ A a) : ∃ sa, vk_R RX7 545 "fixed" sa s ∧ tX sa 5 A s s.heap :=
  tx_of (own := RX7) (k := 545) (w := 5) (tx := "fixed") (byt := [102, 105, 120, 101, 100]) (by decide) (hts _ (tw 5 219 rfl)) (pqC hgv [true, true, true, false, true, false, false, false, false, false, false] rfl) (pqC hgv [true, true, true, false, true, false, false, false, false, false, true] rfl) (pqC hgv [true, true, true, false, true, false, false, false, false, true, false] rfl) (pqC hgv [true, true, true, false, true, false, false, false, false, true, true] rfl) (fun j hj => match j, hj with | 0, _ => pqC hgv [true, true, true, false, true, false, false, false, true, false, false] rfl | 1, _ => pqC hgv [true, true, true, false, true, false, false, false, true, false, true] rfl | 2, _ => pqC hgv [true, true, true, false, true, false, false, false, true, true, false] rfl | 3, _ => pqC hgv [true, true, true, false, true, false, false, false, true, true, true] rfl | 4, _ => pqC hgv [true, true, true, false, true, false, false, true, false, false, false] rfl | j + 5, hj => absurd hj (by omega)) (fun j hj => match j, hj with | 0, _ => rfl | 1, _ => rfl | 2, _ => rfl | 3, _ => rfl | 4, _ => rfl | j + 5, hj => absurd hj (by omega)) hA
theorem tx_RX7_547 {args : Array Value} {s : State} {A : Nat → Prop} (hts : ∀ w ∈ lwx, w.before args s = true) (hgv : gvn.before args s = true) (hA : ∀ a : Nat, a < s.heap.size → ¬ A a) : ∃ sa, vk_R RX7 547 "played" sa s ∧ tX sa 6 A s s.heap :=
  tx_of (own := RX7) (k := 547) (w := 6) (tx := "played") (byt := [112, 108, 97, 121, 101, 100]) (by decide) (hts _ (tw 5 220 rfl)) (pqC hgv [true, true, true, false, true, false, false, true, false, false, true] rfl) (pqC hgv [true, true, true, false, true, false, false, true, false, true, false] rfl) (pqC hgv [true, true, true, false, true, false, false, true, false, true, true] rfl) (pqC hgv [true, true, true, false, true, false, false, true, true, false, false] rfl) (fun j hj => match j, hj with | 0, _ => pqC hgv [true, true, true, false, true, false, false, true, true, false, true] rfl | 1, _ => pqC hgv [true, true, true, false, true, false, false, true, true, true, false] rfl | 2, _ => pqC hgv [true, true, true, false, true, false, false, true, true, true, true, false] rfl | 3, _ => pqC hgv [true, true, true, false, true, false, false, true, true, true, true, true] rfl | 4, _ => pqC hgv [true, true, true, false, true, false, true, false, false, false, false] rfl | 5, _ => pqC hgv [true, true, true, false, true, false, true, false, false, false, true] rfl | j + 6, hj => absurd hj (by omega)) (fun j hj => match j, hj with | 0, _ => rfl | 1, _ => rfl | 2, _ => rfl | 3, _ => rfl | 4, _ => rfl | 5, _ => rfl | j + 6, hj => absurd hj (by omega)) hA
theorem tx_RX7_548 {args : Array Value} {s : State} {A : Nat → Prop} (hts : ∀ w ∈ lwx, w.before args s = true) (hgv : gvn.before args s = true) (hA : ∀ a : Nat, a < s.heap.size → ¬ A a) : ∃ sa, vk_R RX7 548 "lost" sa s ∧ tX sa 4 A s s.heap :=
  tx_of (own := RX7) (k := 548) (w := 4) (tx := "lost") (byt := [108, 111, 115, 116]) (by decide) (hts _ (tw 5 221 rfl)) (pqC hgv [true, true, true, false, true, false, true, false, false, true, false] rfl) (pqC hgv [true, true, true, false, true, false, true, false, false, true, true] rfl) (pqC hgv [true, true, true, false, true, false, true, false, true, false, false] rfl) (pqC hgv [true, true, true, false, true, false, true, false, true, false, true] rfl) (fun j hj => match j, hj with | 0, _ => pqC hgv [true, true, true, false, true, false, true, false, true, true, false] rfl | 1, _ => pqC hgv [true, true, true, false, true, false, true, false, true, true, true] rfl | 2, _ => pqC hgv [true, true, true, false, true, false, true, true, false, false, false] rfl | 3, _ => pqC hgv [true, true, true, false, true, false, true, true, false, false, true] rfl | j + 4, hj => absurd hj (by omega)) (fun j hj => match j, hj with | 0, _ => rfl | 1, _ => rfl | 2, _ => rfl | 3, _ => rfl | j + 4, hj => absurd hj (by omega)) hA
theorem tx_RX7_550 {args : Array Value} {s : State} {A : Nat → Prop} (hts : ∀ w ∈ lwx, w.before args s = true) (hgv : gvn.before args s = true) (hA : ∀ a : Nat, a < s.heap.size → ¬ A a) : ∃ sa, vk_R RX7 550 ": " sa s ∧ tX sa 2 A s s.heap :=
  tx_of (own := RX7) (k := 550) (w := 2) (tx := ": ") (byt := [58, 32]) (by decide) (hts _ (tw 5 226 rfl)) (pqC hgv [true, true, true, false, true, false, true, true, false, true, false] rfl) (pqC hgv [true, true, true, false, true, false, true, true, false, true, true] rfl) (pqC hgv [true, true, true, false, true, false, true, true, true, false, false] rfl) (pqC hgv [true, true, true, false, true, false, true, true, true, false, true] rfl) (fun j hj => match j, hj with | 0, _ => pqC hgv [true, true, true, false, true, false, true, true, true, true, false] rfl | 1, _ => pqC hgv [true, true, true, false, true, false, true, true, true, true, true, false] rfl | j + 2, hj => absurd hj (by omega)) (fun j hj => match j, hj with | 0, _ => rfl | 1, _ => rfl | j + 2, hj => absurd hj (by omega)) hA
theorem tx_RX7_552 {args : Array Value} {s : State} {A : Nat → Prop} (hts : ∀ w ∈ lwx, w.before args s = true) (hgv : gvn.before args s = true) (hA : ∀ a : Nat, a < s.heap.size → ¬ A a) : ∃ sa, vk_R RX7 552 "," sa s ∧ tX sa 1 A s s.heap :=
  tx_of (own := RX7) (k := 552) (w := 1) (tx := ",") (byt := [44]) (by decide) (hts _ (tw 5 227 rfl)) (pqC hgv [true, true, true, false, true, false, true, true, true, true, true, true] rfl) (pqC hgv [true, true, true, false, true, true, false, false, false, false, false] rfl) (pqC hgv [true, true, true, false, true, true, false, false, false, false, true] rfl) (pqC hgv [true, true, true, false, true, true, false, false, false, true, false] rfl) (fun j hj => match j, hj with | 0, _ => pqC hgv [true, true, true, false, true, true, false, false, false, true, true] rfl | j + 1, hj => absurd hj (by omega)) (fun j hj => match j, hj with | 0, _ => rfl | j + 1, hj => absurd hj (by omega)) hA
theorem kS_cTx {args : Array Value} {s : State} {A : Nat → Prop} (hts : ∀ w ∈ lwx, w.before args s = true) (hgv : gvn.before args s = true) (hA : ∀ a : Nat, a < s.heap.size → ¬ A a) : ∃ ad, kS RX7 cTx ad A s s.heap := by
  refine kS_of (fun q hq => ?_)
  unfold cTx at hq
  simp only [List.mem_cons, List.not_mem_nil, or_false] at hq
  rcases hq with rfl | rfl | rfl | rfl | rfl | rfl | rfl | rfl | rfl | rfl
  · exact tx_RX7_364 hts hgv hA
  · exact tx_RX7_400 hts hgv hA
  · exact tx_RX7_405 hts hgv hA
  · exact tx_RX7_407 hts hgv hA
  · exact tx_RX7_543 hts hgv hA
  · exact tx_RX7_545 hts hgv hA
  · exact tx_RX7_547 hts hgv hA
  · exact tx_RX7_548 hts hgv hA
  · exact tx_RX7_550 hts hgv hA
  · exact tx_RX7_552 hts hgv hA
theorem tx_RX11_323 {args : Array Value} {s : State} {A : Nat → Prop} (hts : ∀ w ∈ lwx, w.before args s = true) (hgv : gvn.before args s = true) (hA : ∀ a : Nat, a < s.heap.size → ¬ A a) : ∃ sa, vk_R RX11 323 "" sa s ∧ tX sa 0 A s s.heap :=
  tx_of (own := RX11) (k := 323) (w := 0) (tx := "") (byt := []) (by decide) (hts _ (tw 8 114 rfl)) (pqC hgv [true, true, true, false, true, true, true, false, false, false, false] rfl) (pqC hgv [true, true, true, false, true, true, true, false, false, false, true] rfl) (pqC hgv [true, true, true, false, true, true, true, false, false, true, false] rfl) (pqC hgv [true, true, true, false, true, true, true, false, false, true, true] rfl) (fun j hj => absurd hj (Nat.not_lt_zero _)) (fun j hj => absurd hj (Nat.not_lt_zero _)) hA
theorem tx_RX11_330 {args : Array Value} {s : State} {A : Nat → Prop} (hts : ∀ w ∈ lwx, w.before args s = true) (hgv : gvn.before args s = true) (hA : ∀ a : Nat, a < s.heap.size → ¬ A a) : ∃ sa, vk_R RX11 330 " " sa s ∧ tX sa 1 A s s.heap :=
  tx_of (own := RX11) (k := 330) (w := 1) (tx := " ") (byt := [32]) (by decide) (hts _ (tw 8 118 rfl)) (pqC hgv [true, true, true, false, true, true, true, false, true, false, false] rfl) (pqC hgv [true, true, true, false, true, true, true, false, true, false, true] rfl) (pqC hgv [true, true, true, false, true, true, true, false, true, true, false] rfl) (pqC hgv [true, true, true, false, true, true, true, false, true, true, true] rfl) (fun j hj => match j, hj with | 0, _ => pqC hgv [true, true, true, false, true, true, true, true, false, false, false] rfl | j + 1, hj => absurd hj (by omega)) (fun j hj => match j, hj with | 0, _ => rfl | j + 1, hj => absurd hj (by omega)) hA
theorem tx_RX11_339 {args : Array Value} {s : State} {A : Nat → Prop} (hts : ∀ w ∈ lwx, w.before args s = true) (hgv : gvn.before args s = true) (hA : ∀ a : Nat, a < s.heap.size → ¬ A a) : ∃ sa, vk_R RX11 339 "-" sa s ∧ tX sa 1 A s s.heap :=
  tx_of (own := RX11) (k := 339) (w := 1) (tx := "-") (byt := [45]) (by decide) (hts _ (tw 8 121 rfl)) (pqC hgv [true, true, true, false, true, true, true, true, false, false, true] rfl) (pqC hgv [true, true, true, false, true, true, true, true, false, true, false] rfl) (pqC hgv [true, true, true, false, true, true, true, true, false, true, true] rfl) (pqC hgv [true, true, true, false, true, true, true, true, true, false, false] rfl) (fun j hj => match j, hj with | 0, _ => pqC hgv [true, true, true, false, true, true, true, true, true, false, true] rfl | j + 1, hj => absurd hj (by omega)) (fun j hj => match j, hj with | 0, _ => rfl | j + 1, hj => absurd hj (by omega)) hA
theorem tx_RX11_354 {args : Array Value} {s : State} {A : Nat → Prop} (hts : ∀ w ∈ lwx, w.before args s = true) (hgv : gvn.before args s = true) (hA : ∀ a : Nat, a < s.heap.size → ¬ A a) : ∃ sa, vk_R RX11 354 "asked" sa s ∧ tX sa 5 A s s.heap :=
  tx_of (own := RX11) (k := 354) (w := 5) (tx := "asked") (byt := [97, 115, 107, 101, 100]) (by decide) (hts _ (tw 8 143 rfl)) (pqC hgv [true, true, true, false, true, true, true, true, true, true, true, false] rfl) (pqC hgv [true, true, true, false, true, true, true, true, true, true, true, true] rfl) (pqC hgv [true, true, true, true, false, false, false, false, false, false, false] rfl) (pqC hgv [true, true, true, true, false, false, false, false, false, false, true] rfl) (fun j hj => match j, hj with | 0, _ => pqC hgv [true, true, true, true, false, false, false, false, false, true, false] rfl | 1, _ => pqC hgv [true, true, true, true, false, false, false, false, false, true, true] rfl | 2, _ => pqC hgv [true, true, true, true, false, false, false, false, true, false, false] rfl | 3, _ => pqC hgv [true, true, true, true, false, false, false, false, true, false, true] rfl | 4, _ => pqC hgv [true, true, true, true, false, false, false, false, true, true, false] rfl | j + 5, hj => absurd hj (by omega)) (fun j hj => match j, hj with | 0, _ => rfl | 1, _ => rfl | 2, _ => rfl | 3, _ => rfl | 4, _ => rfl | j + 5, hj => absurd hj (by omega)) hA
theorem tx_RX11_356 {args : Array Value} {s : State} {A : Nat → Prop} (hts : ∀ w ∈ lwx, w.before args s = true) (hgv : gvn.before args s = true) (hA : ∀ a : Nat, a < s.heap.size → ¬ A a) : ∃ sa, vk_R RX11 356 "fixed" sa s ∧ tX sa 5 A s s.heap :=
  tx_of (own := RX11) (k := 356) (w := 5) (tx := "fixed") (byt := [102, 105, 120, 101, 100]) (by decide) (hts _ (tw 8 144 rfl)) (pqC hgv [true, true, true, true, false, false, false, true, false, false, false] rfl) (pqC hgv [true, true, true, true, false, false, false, true, false, false, true] rfl) (pqC hgv [true, true, true, true, false, false, false, true, false, true, false] rfl) (pqC hgv [true, true, true, true, false, false, false, true, false, true, true] rfl) (fun j hj => match j, hj with | 0, _ => pqC hgv [true, true, true, true, false, false, false, true, true, false, false] rfl | 1, _ => pqC hgv [true, true, true, true, false, false, false, true, true, false, true] rfl | 2, _ => pqC hgv [true, true, true, true, false, false, false, true, true, true, false] rfl | 3, _ => pqC hgv [true, true, true, true, false, false, false, true, true, true, true, false] rfl | 4, _ => pqC hgv [true, true, true, true, false, false, false, true, true, true, true, true] rfl | j + 5, hj => absurd hj (by omega)) (fun j hj => match j, hj with | 0, _ => rfl | 1, _ => rfl | 2, _ => rfl | 3, _ => rfl | 4, _ => rfl | j + 5, hj => absurd hj (by omega)) hA
theorem tx_RX11_358 {args : Array Value} {s : State} {A : Nat → Prop} (hts : ∀ w ∈ lwx, w.before args s = true) (hgv : gvn.before args s = true) (hA : ∀ a : Nat, a < s.heap.size → ¬ A a) : ∃ sa, vk_R RX11 358 "played" sa s ∧ tX sa 6 A s s.heap :=
  tx_of (own := RX11) (k := 358) (w := 6) (tx := "played") (byt := [112, 108, 97, 121, 101, 100]) (by decide) (hts _ (tw 8 145 rfl)) (pqC hgv [true, true, true, true, false, false, true, false, false, false, true] rfl) (pqC hgv [true, true, true, true, false, false, true, false, false, true, false] rfl) (pqC hgv [true, true, true, true, false, false, true, false, false, true, true] rfl) (pqC hgv [true, true, true, true, false, false, true, false, true, false, false] rfl) (fun j hj => match j, hj with | 0, _ => pqC hgv [true, true, true, true, false, false, true, false, true, false, true] rfl | 1, _ => pqC hgv [true, true, true, true, false, false, true, false, true, true, false] rfl | 2, _ => pqC hgv [true, true, true, true, false, false, true, false, true, true, true] rfl | 3, _ => pqC hgv [true, true, true, true, false, false, true, true, false, false, false] rfl | 4, _ => pqC hgv [true, true, true, true, false, false, true, true, false, false, true] rfl | 5, _ => pqC hgv [true, true, true, true, false, false, true, true, false, true, false] rfl | j + 6, hj => absurd hj (by omega)) (fun j hj => match j, hj with | 0, _ => rfl | 1, _ => rfl | 2, _ => rfl | 3, _ => rfl | 4, _ => rfl | 5, _ => rfl | j + 6, hj => absurd hj (by omega)) hA
theorem tx_RX11_360 {args : Array Value} {s : State} {A : Nat → Prop} (hts : ∀ w ∈ lwx, w.before args s = true) (hgv : gvn.before args s = true) (hA : ∀ a : Nat, a < s.heap.size → ¬ A a) : ∃ sa, vk_R RX11 360 "lost" sa s ∧ tX sa 4 A s s.heap :=
  tx_of (own := RX11) (k := 360) (w := 4) (tx := "lost") (byt := [108, 111, 115, 116]) (by decide) (hts _ (tw 8 146 rfl)) (pqC hgv [true, true, true, true, false, false, true, true, true, false, false] rfl) (pqC hgv [true, true, true, true, false, false, true, true, true, false, true] rfl) (pqC hgv [true, true, true, true, false, false, true, true, true, true, false] rfl) (pqC hgv [true, true, true, true, false, false, true, true, true, true, true, false] rfl) (fun j hj => match j, hj with | 0, _ => pqC hgv [true, true, true, true, false, false, true, true, true, true, true, true] rfl | 1, _ => pqC hgv [true, true, true, true, false, true, false, false, false, false, false] rfl | 2, _ => pqC hgv [true, true, true, true, false, true, false, false, false, false, true] rfl | 3, _ => pqC hgv [true, true, true, true, false, true, false, false, false, true, false] rfl | j + 4, hj => absurd hj (by omega)) (fun j hj => match j, hj with | 0, _ => rfl | 1, _ => rfl | 2, _ => rfl | 3, _ => rfl | j + 4, hj => absurd hj (by omega)) hA
theorem tx_RX11_362 {args : Array Value} {s : State} {A : Nat → Prop} (hts : ∀ w ∈ lwx, w.before args s = true) (hgv : gvn.before args s = true) (hA : ∀ a : Nat, a < s.heap.size → ¬ A a) : ∃ sa, vk_R RX11 362 " on day " sa s ∧ tX sa 8 A s s.heap :=
  tx_of (own := RX11) (k := 362) (w := 8) (tx := " on day ") (byt := [32, 111, 110, 32, 100, 97, 121, 32]) (by decide) (hts _ (tw 8 147 rfl)) (pqC hgv [true, true, true, true, false, true, false, false, true, false, false] rfl) (pqC hgv [true, true, true, true, false, true, false, false, true, false, true] rfl) (pqC hgv [true, true, true, true, false, true, false, false, true, true, false] rfl) (pqC hgv [true, true, true, true, false, true, false, false, true, true, true] rfl) (fun j hj => match j, hj with | 0, _ => pqC hgv [true, true, true, true, false, true, false, true, false, false, false] rfl | 1, _ => pqC hgv [true, true, true, true, false, true, false, true, false, false, true] rfl | 2, _ => pqC hgv [true, true, true, true, false, true, false, true, false, true, false] rfl | 3, _ => pqC hgv [true, true, true, true, false, true, false, true, false, true, true] rfl | 4, _ => pqC hgv [true, true, true, true, false, true, false, true, true, false, false] rfl | 5, _ => pqC hgv [true, true, true, true, false, true, false, true, true, false, true] rfl | 6, _ => pqC hgv [true, true, true, true, false, true, false, true, true, true, false] rfl | 7, _ => pqC hgv [true, true, true, true, false, true, false, true, true, true, true, false] rfl | j + 8, hj => absurd hj (by omega)) (fun j hj => match j, hj with | 0, _ => rfl | 1, _ => rfl | 2, _ => rfl | 3, _ => rfl | 4, _ => rfl | 5, _ => rfl | 6, _ => rfl | 7, _ => rfl | j + 8, hj => absurd hj (by omega)) hA
theorem tx_RX11_364 {args : Array Value} {s : State} {A : Nat → Prop} (hts : ∀ w ∈ lwx, w.before args s = true) (hgv : gvn.before args s = true) (hA : ∀ a : Nat, a < s.heap.size → ¬ A a) : ∃ sa, vk_R RX11 364 " in " sa s ∧ tX sa 4 A s s.heap :=
  tx_of (own := RX11) (k := 364) (w := 4) (tx := " in ") (byt := [32, 105, 110, 32]) (by decide) (hts _ (tw 8 148 rfl)) (pqC hgv [true, true, true, true, false, true, true, false, false, false, false] rfl) (pqC hgv [true, true, true, true, false, true, true, false, false, false, true] rfl) (pqC hgv [true, true, true, true, false, true, true, false, false, true, false] rfl) (pqC hgv [true, true, true, true, false, true, true, false, false, true, true] rfl) (fun j hj => match j, hj with | 0, _ => pqC hgv [true, true, true, true, false, true, true, false, true, false, false] rfl | 1, _ => pqC hgv [true, true, true, true, false, true, true, false, true, false, true] rfl | 2, _ => pqC hgv [true, true, true, true, false, true, true, false, true, true, false] rfl | 3, _ => pqC hgv [true, true, true, true, false, true, true, false, true, true, true] rfl | j + 4, hj => absurd hj (by omega)) (fun j hj => match j, hj with | 0, _ => rfl | 1, _ => rfl | 2, _ => rfl | 3, _ => rfl | j + 4, hj => absurd hj (by omega)) hA
theorem tx_RX11_366 {args : Array Value} {s : State} {A : Nat → Prop} (hts : ∀ w ∈ lwx, w.before args s = true) (hgv : gvn.before args s = true) (hA : ∀ a : Nat, a < s.heap.size → ¬ A a) : ∃ sa, vk_R RX11 366 ", " sa s ∧ tX sa 2 A s s.heap :=
  tx_of (own := RX11) (k := 366) (w := 2) (tx := ", ") (byt := [44, 32]) (by decide) (hts _ (tw 8 149 rfl)) (pqC hgv [true, true, true, true, false, true, true, true, false, false, true] rfl) (pqC hgv [true, true, true, true, false, true, true, true, false, true, false] rfl) (pqC hgv [true, true, true, true, false, true, true, true, false, true, true] rfl) (pqC hgv [true, true, true, true, false, true, true, true, true, false, false] rfl) (fun j hj => match j, hj with | 0, _ => pqC hgv [true, true, true, true, false, true, true, true, true, false, true] rfl | 1, _ => pqC hgv [true, true, true, true, false, true, true, true, true, true, false] rfl | j + 2, hj => absurd hj (by omega)) (fun j hj => match j, hj with | 0, _ => rfl | 1, _ => rfl | j + 2, hj => absurd hj (by omega)) hA
theorem tx_RX11_368 {args : Array Value} {s : State} {A : Nat → Prop} (hts : ∀ w ∈ lwx, w.before args s = true) (hgv : gvn.before args s = true) (hA : ∀ a : Nat, a < s.heap.size → ¬ A a) : ∃ sa, vk_R RX11 368 "," sa s ∧ tX sa 1 A s s.heap :=
  tx_of (own := RX11) (k := 368) (w := 1) (tx := ",") (byt := [44]) (by decide) (hts _ (tw 8 150 rfl)) (pqC hgv [true, true, true, true, false, true, true, true, true, true, true, true] rfl) (pqC hgv [true, true, true, true, true, false, false, false, false, false, false] rfl) (pqC hgv [true, true, true, true, true, false, false, false, false, false, true] rfl) (pqC hgv [true, true, true, true, true, false, false, false, false, true, false] rfl) (fun j hj => match j, hj with | 0, _ => pqC hgv [true, true, true, true, true, false, false, false, false, true, true] rfl | j + 1, hj => absurd hj (by omega)) (fun j hj => match j, hj with | 0, _ => rfl | j + 1, hj => absurd hj (by omega)) hA
theorem tx_RX11_370 {args : Array Value} {s : State} {A : Nat → Prop} (hts : ∀ w ∈ lwx, w.before args s = true) (hgv : gvn.before args s = true) (hA : ∀ a : Nat, a < s.heap.size → ¬ A a) : ∃ sa, vk_R RX11 370 ": " sa s ∧ tX sa 2 A s s.heap :=
  tx_of (own := RX11) (k := 370) (w := 2) (tx := ": ") (byt := [58, 32]) (by decide) (hts _ (tw 8 151 rfl)) (pqC hgv [true, true, true, true, true, false, false, false, true, false, true] rfl) (pqC hgv [true, true, true, true, true, false, false, false, true, true, false] rfl) (pqC hgv [true, true, true, true, true, false, false, false, true, true, true] rfl) (pqC hgv [true, true, true, true, true, false, false, true, false, false, false] rfl) (fun j hj => match j, hj with | 0, _ => pqC hgv [true, true, true, true, true, false, false, true, false, false, true] rfl | 1, _ => pqC hgv [true, true, true, true, true, false, false, true, false, true, false] rfl | j + 2, hj => absurd hj (by omega)) (fun j hj => match j, hj with | 0, _ => rfl | 1, _ => rfl | j + 2, hj => absurd hj (by omega)) hA
theorem kS_mTx {args : Array Value} {s : State} {A : Nat → Prop} (hts : ∀ w ∈ lwx, w.before args s = true) (hgv : gvn.before args s = true) (hA : ∀ a : Nat, a < s.heap.size → ¬ A a) : ∃ ad, kS RX11 mTx ad A s s.heap := by
  refine kS_of (fun q hq => ?_)
  unfold mTx at hq
  simp only [List.mem_cons, List.not_mem_nil, or_false] at hq
  rcases hq with rfl | rfl | rfl | rfl | rfl | rfl | rfl | rfl | rfl | rfl | rfl | rfl
  · exact tx_RX11_323 hts hgv hA
  · exact tx_RX11_330 hts hgv hA
  · exact tx_RX11_339 hts hgv hA
  · exact tx_RX11_354 hts hgv hA
  · exact tx_RX11_356 hts hgv hA
  · exact tx_RX11_358 hts hgv hA
  · exact tx_RX11_360 hts hgv hA
  · exact tx_RX11_362 hts hgv hA
  · exact tx_RX11_364 hts hgv hA
  · exact tx_RX11_366 hts hgv hA
  · exact tx_RX11_368 hts hgv hA
  · exact tx_RX11_370 hts hgv hA
set_option maxHeartbeats 4000000 in
theorem lw_T {args : Array Value} {s : State} {D : va_G} {cy : Nat → ClassId} (hts : ∀ w ∈ lwx, w.before args s = true) (hgv : gvn.before args s = true) (hK : va_K D vwCl (fdT cy) s) : ∃ (ea mi ta : Nat) (ad ac am : Nat → Nat), lwT D cy ea mi ta ad ac am s := by
  have hA : ∀ a : Nat, a < s.heap.size → ¬ lgA s.heap.size a := fun a h => Nat.not_le.mpr h
  obtain ⟨ea, he, hE⟩ := va_Tof (tm := .static "java/util/ArrayList" "DEFAULTCAPACITY_EMPTY_ELEMENTDATA" "[Ljava/lang/Object;") (ty := .object "java/lang/Object") (N := 0) (f := fun _ => .null) (A := lgA s.heap.size) (by decide) (pqC hgv [true, false, false, true, false, false, false, true, false, true, true, false] rfl) (va_eqt (pqC hgv [true, false, false, true, false, false, false, true, true, false, false] rfl)) (fun j hj => absurd hj (Nat.not_lt_zero _)) hA
  obtain ⟨mi, hmi⟩ := va_Mi.of (pqC hgv [true, false, false, true, true, true, false, false, true, true, true, true] rfl)
  obtain ⟨ad, hC, hCe⟩ := vb_Cof (st := .static "java/lang/Integer$IntegerCache" "cache" "[Ljava/lang/Integer;") (A := lgA s.heap.size) rfl (va_eqt (pqC hgv [true, false, false, true, false, false, false, true, true, true, false, true] rfl)) (pqC hgv [true, false, false, true, false, false, false, true, true, true, true, false] rfl) hA
  obtain ⟨ta, hta, hTa⟩ := va_Tof (tm := .static "java/lang/Integer$IntegerCache" "cache" "[Ljava/lang/Integer;") (ty := .object "java/lang/Integer") (N := 256) (f := fun k => .ref (ad k)) (A := lgA s.heap.size) (by decide) (pqC hgv [true, false, false, true, false, false, false, true, true, true, false, false] rfl) (va_eqt (pqC hgv [true, false, false, true, false, false, false, true, true, true, false, true] rfl)) hCe hA
  obtain ⟨q1, f1, d1, d2⟩ := dzDigitOnes hts hgv hA
  obtain ⟨q2, f2, d3, d4⟩ := dzDigitTens hts hgv hA
  obtain ⟨ac, hac⟩ := kS_cTx hts hgv hA
  obtain ⟨am, ham⟩ := kS_mTx hts hgv hA
  refine ⟨ea, mi, ta, ad, ac, am, ?_, ?_, ?_, ?_, ?_, ?_, hac, ham⟩
  · exact ⟨hK, fun w hw => va_tabs (nestL_tab w hw) rfl (hts w (nestL_in w hw)), fun q hq => vk_Rof (hts _ (strL_in q hq)), vx_Zqof (hts _ (tw 2 168 rfl)) (hts _ (tw 1 14 rfl)) (pqC hgv [true, false, false, false, false, false, false, false, false, false, true, true] rfl) hA, vx_Zqof (hts _ (tw 2 170 rfl)) (hts _ (tw 1 14 rfl)) (pqC hgv [true, false, false, false, false, false, false, false, false, true, false] rfl) hA⟩
  · intro q hq
    unfold ncL at hq
    simp only [List.mem_cons, List.not_mem_nil, or_false] at hq
    rcases hq with rfl | rfl | rfl
    · exact va_Nc.of (pqC hgv [true, false, false, true, false, false, true, false, true, true, true, false] rfl)
    · exact va_Nc.of (pqC hgv [true, false, false, true, false, false, true, false, true, true, true, true] rfl)
    · exact va_Nc.of (pqC hgv [true, false, false, true, false, true, false, false, false, true, true, true] rfl)
  · exact ⟨fun w hw => va_tabs (nestR_tab w hw) rfl (hts w (nestR_in w hw)), va_Fw.of (hts _ (tw 7 201 rfl)) (hts _ (tw 7 200 rfl)) (hts _ (tw 7 206 rfl)) (hts _ (tw 7 204 rfl)) (hts _ (tw 7 202 rfl)), va_Fw.of (hts _ (tw 7 211 rfl)) (hts _ (tw 7 210 rfl)) (hts _ (tw 7 215 rfl)) (hts _ (tw 7 213 rfl)) (hts _ (tw 7 202 rfl))⟩
  · exact ⟨va_Zof (hts _ (tw 6 51 rfl)) (hts _ (tw 1 12 rfl)) he hA, hE, hA ea (hE.elim (fun _ hc => (Array.getElem?_eq_some_iff.mp hc.1).1)), va_AO.of (C := "java/lang/Object") (hts _ (tw 6 208 rfl)), hmi, va_Dc.of (hts _ (tw 8 225 rfl))⟩
  · exact ⟨va_Zof (hts _ (tw 7 29 rfl)) (hts _ (tw 1 29 rfl)) (va_eqt (pqC hgv [true, false, false, true, false, false, false, true, true, false, true, false] rfl)) hA, va_Zof (hts _ (tw 7 31 rfl)) (hts _ (tw 1 29 rfl)) hta hA, hTa, hC⟩
  · exact ⟨hK, va_tabs (c := .castable "[B" "java/lang/Cloneable") rfl rfl (hts _ (tw 5 2 rfl)), va_Zof (hts _ (tw 4 189 rfl)) (hts _ (tw 1 34 rfl)) (va_eqt (pqC hgv [true, false, false, false, false, false, false, false, false, true, true, false] rfl)) hA, q1, q2, f1, f2, d1, d2, d3, d4⟩
theorem lw_gT {args : Array Value} {s : State} {D : va_G} {cy : Nat → ClassId} (hts : ∀ w ∈ lwx, w.before args s = true) (hK : va_K D vwCl (fdT cy) s) : gT D cy s := ⟨hK, fun w hw => va_tabs (nestL_tab w hw) rfl (hts w (nestL_in w hw)), fun C hC => hts _ (newL_in C hC), (hts _ (tw 1 60 rfl))⟩
