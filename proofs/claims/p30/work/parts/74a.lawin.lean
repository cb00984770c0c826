/-! THE LAW'S WORDS among the tables', a list at a time, by their places -/
/-- private methods of the class above, called on a StringBuilder -/
def exL : List Cond := [Cond.selects RJ4 ⟨"java/lang/AbstractStringBuilder", "ensureCapacityInternal", "(I)V"⟩ yJ5_ensureCapacityInternal_d00df, Cond.selects RJ4 ⟨"java/lang/AbstractStringBuilder", "newCapacity", "(I)I"⟩ yJ5_newCapacity_0f7a4, Cond.selects RJ4 ⟨"java/lang/AbstractStringBuilder", "inflate", "()V"⟩ yJ5_inflate_da8c8, Cond.selects RJ4 ⟨"java/lang/AbstractStringBuilder", "appendNull", "()Ljava/lang/AbstractStringBuilder;"⟩ yJ5_appendNull_278bc, Cond.selects RJ4 ⟨"java/lang/AbstractStringBuilder", "putStringAt", "(ILjava/lang/String;)V"⟩ yJ5_putStringAt_47b60, Cond.selects RJ4 ⟨"java/lang/AbstractStringBuilder", "inflateIfNeededFor", "(Ljava/lang/String;)V"⟩ yJ5_inflateIfNeededFor_a7421]
def lwx : List Cond := exL ++ lw_tbl
def lwu (K : Nat) : List Cond := match K with
  | 0 => k2_sels lw_privs
  | 1 => tables_1_1
  | 2 => tables_1_2
  | 3 => tables_1_3
  | 4 => tables_1_4
  | 5 => tables_1_5
  | 6 => tables_1_6
  | 7 => tables_1_7
  | 8 => tables_1_8
  | 9 => exL
  | _ => []
theorem lwu_in : ∀ K w, w ∈ lwu K → w ∈ lwx := fun K w h => match K, h with
  | 0, h => List.mem_append_right _ (List.mem_append_left _ h)
  | 1, h => List.mem_append_right _ (List.mem_append_right _ (List.mem_append_left _ h))
  | 2, h => List.mem_append_right _ (List.mem_append_right _ (List.mem_append_right _ (List.mem_append_left _ h)))
  | 3, h => List.mem_append_right _ (List.mem_append_right _ (List.mem_append_right _ (List.mem_append_right _ (List.mem_append_left _ h))))
  | 4, h => List.mem_append_right _ (List.mem_append_right _ (List.mem_append_right _ (List.mem_append_right _ (List.mem_append_right _ (List.mem_append_left _ h)))))
  | 5, h => List.mem_append_right _ (List.mem_append_right _ (List.mem_append_right _ (List.mem_append_right _ (List.mem_append_right _ (List.mem_append_right _ (List.mem_append_left _ h))))))
  | 6, h => List.mem_append_right _ (List.mem_append_right _ (List.mem_append_right _ (List.mem_append_right _ (List.mem_append_right _ (List.mem_append_right _ (List.mem_append_right _ (List.mem_append_left _ h)))))))
  | 7, h => List.mem_append_right _ (List.mem_append_right _ (List.mem_append_right _ (List.mem_append_right _ (List.mem_append_right _ (List.mem_append_right _ (List.mem_append_right _ (List.mem_append_right _ (List.mem_append_left _ h))))))))
  | 8, h => List.mem_append_right _ (List.mem_append_right _ (List.mem_append_right _ (List.mem_append_right _ (List.mem_append_right _ (List.mem_append_right _ (List.mem_append_right _ (List.mem_append_right _ (List.mem_append_right _ (h)))))))))
  | 9, h => List.mem_append_left _ h
  | _ + 10, h => by cases h
theorem gTt {ws : List Cond} (ps : List (Nat × Nat)) (hp : ws = ps.filterMap (fun q => (lwu q.1)[q.2]?)) : ∀ w ∈ ws, w ∈ lwx := by
  intro w hw
  rw [hp] at hw
  obtain ⟨q, -, hq⟩ := List.mem_filterMap.mp hw
  exact lwu_in q.1 w (List.mem_of_getElem? hq)
theorem lwx_app {a b : List Cond} (h1 : ∀ w ∈ a, w ∈ lwx) (h2 : ∀ w ∈ b, w ∈ lwx) : ∀ w ∈ a ++ b, w ∈ lwx := fun w h => (List.mem_append.mp h).elim (h1 w) (h2 w)
/-- a private method is what a call of it selects, whatever class below it is called on -/
theorem selP {C : String} {y z : MethodName} {s : State} {args : Array Value} (hy : y.cls ≠ "java/lang/invoke/MethodHandle" ∧ y.cls ≠ "java/lang/invoke/VarHandle") (hz : (Cond.selects C z z).before args s = true) (hc : z.cls = y.cls) (hpriv : (Cond.privateMethod y).before args s = true) (hinst : (Cond.instanceMethod y).before args s = true) : (Cond.selects C y y).before args s = true := by
  obtain ⟨mk, methM, hnamed, hmethM, -, -⟩ := Cond.instanceMethod_spec hinst
  have hfound : s.methodFound? y.cls y.name y.desc = some mk := State.methodFound?_of_named hnamed hy
  simp only [Cond.before, Cond.holds, Cond.value] at hz
  cases h1 : s.vm.findClass C with
  | none => rw [h1] at hz; simp at hz
  | some c =>
    cases h2 : s.methodNamed? z with
    | none => rw [h1, h2] at hz; cases h3 : s.methodFound? z.cls z.name z.desc <;> rw [h3] at hz <;> simp at hz
    | some mz =>
      cases h3 : s.methodFound? z.cls z.name z.desc with
      | none => rw [h1, h2, h3] at hz; simp at hz
      | some r =>
        rw [h1, h2, h3] at hz
        dsimp only at hz
        have e1 : s.vm.findClass z.cls = some mz.cls := findClass_of_methodNamed h2
        have e2 : s.vm.findClass y.cls = some mk.cls := findClass_of_methodNamed hnamed
        have e3 : mz.cls = mk.cls := Option.some.inj (e1.symm.trans (hc ▸ e2))
        have hsel : selectMethod {} s.vm c mk = .method mk := selectMethod_private hmethM (Cond.privateMethod_at hpriv mk methM hnamed hmethM)
        have hany : (s.vm.classes[mk.cls]?).any (fun k => !k.isInterface) = true := by
          rw [← e3]
          cases h4 : selectMethod {} s.vm c r with
          | method m' => rw [h4] at hz; simp at hz; simpa using hz.2
          | _ => rw [h4] at hz; simp at hz
        simp only [Cond.before, Cond.holds, Cond.value, h1, hfound, hnamed, hsel]
        simp
        simpa using hany
set_option maxRecDepth 20000 in
theorem lin_r1 : ∀ w ∈ wsL_law0_r1, w ∈ lwx := gTt [(1, 37), (1, 38), (1, 1), (6, 32), (6, 33), (1, 9), (3, 161), (3, 162), (1, 13), (1, 39), (1, 40), (1, 41), (1, 42), (1, 43), (1, 44), (1, 45), (2, 25), (1, 47), (2, 26), (1, 49), (2, 27), (1, 51), (2, 28), (1, 53)] rfl
set_option maxRecDepth 20000 in
theorem lin_r2 : ∀ w ∈ wsL_law0_r2, w ∈ lwx := gTt [(1, 54), (1, 2), (2, 29), (1, 68), (2, 30), (2, 31), (2, 32), (2, 33), (2, 34), (2, 35), (2, 36), (1, 99), (2, 37), (1, 69), (1, 70), (1, 3), (2, 38), (1, 100), (1, 101), (1, 4), (2, 39), (1, 131), (1, 5), (1, 169)] rfl
set_option maxRecDepth 20000 in
theorem lin_r3 : ∀ w ∈ wsL_law0_r3, w ∈ lwx := gTt [(1, 6), (1, 193), (1, 7), (1, 211), (1, 8), (1, 55), (1, 56), (1, 57), (1, 58), (1, 59), (1, 61), (1, 62), (1, 72), (1, 73), (1, 74), (1, 75), (1, 77), (1, 79), (1, 80), (1, 82), (1, 84), (1, 103), (1, 104), (1, 105)] rfl
set_option maxRecDepth 20000 in
theorem lin_r4 : ∀ w ∈ wsL_law0_r4, w ∈ lwx := gTt [(1, 106), (1, 108), (1, 110), (1, 112), (1, 113), (1, 114), (1, 115), (1, 133), (1, 134), (1, 135), (1, 136), (1, 138), (1, 140), (1, 142), (1, 144), (1, 146), (1, 148), (1, 150), (1, 170), (1, 171), (1, 172), (1, 173), (1, 176), (1, 179)] rfl
set_option maxRecDepth 20000 in
theorem lin_r5 : ∀ w ∈ wsL_law0_r5, w ∈ lwx := gTt [(1, 182), (1, 174), (1, 195), (1, 196), (1, 197), (1, 198), (1, 200), (1, 202), (1, 213), (1, 214), (1, 215), (1, 216), (1, 218), (1, 220), (1, 222), (1, 224), (1, 226), (1, 228), (1, 230), (1, 232), (1, 234), (1, 236), (1, 238), (6, 34)] rfl
set_option maxRecDepth 20000 in
theorem lin_r6 : ∀ w ∈ wsL_law0_r6, w ∈ lwx := gTt [(6, 35), (6, 36), (6, 37), (6, 38), (6, 39), (1, 12), (6, 74), (6, 75), (6, 76), (6, 77), (6, 78), (6, 79), (6, 80), (6, 81), (6, 82), (6, 40), (6, 41), (6, 42), (6, 50), (6, 52), (6, 43), (6, 44), (1, 11), (6, 45)] rfl
set_option maxRecDepth 20000 in
theorem lin_r7 : ∀ w ∈ wsL_law0_r7, w ∈ lwx := gTt [(6, 56), (6, 46), (6, 47), (1, 10), (6, 48), (6, 49), (6, 67), (6, 69), (0, 53), (6, 70), (3, 164), (3, 165), (3, 166), (3, 174), (3, 175), (1, 0), (3, 176), (3, 177), (3, 180), (3, 181), (3, 182), (3, 183), (2, 217), (1, 17)] rfl
set_option maxRecDepth 20000 in
theorem lin_r8 : ∀ w ∈ wsL_law0_r8, w ∈ lwx := gTt [(2, 141), (1, 18), (3, 189), (1, 19), (1, 137), (1, 139), (1, 141), (1, 143), (3, 156), (3, 157), (3, 158), (3, 184), (3, 185), (3, 186), (3, 187), (6, 111), (6, 112), (6, 113), (6, 114), (6, 71), (6, 131), (6, 132), (1, 20), (6, 115)] rfl
set_option maxRecDepth 20000 in
theorem lin_r9 : ∀ w ∈ wsL_law0_r9, w ∈ lwx := gTt [(6, 116), (6, 117), (6, 118), (6, 120), (0, 54), (6, 121), (6, 122), (6, 124), (0, 55), (6, 125), (6, 126), (6, 127), (6, 128), (6, 129), (6, 130), (6, 55), (6, 134), (6, 135), (6, 136), (6, 143), (6, 160), (6, 161), (6, 162), (6, 163)] rfl
set_option maxRecDepth 20000 in
theorem lin_r10 : ∀ w ∈ wsL_law0_r10, w ∈ lwx := gTt [(6, 59), (6, 58), (6, 164), (6, 166), (0, 56), (6, 167), (6, 168), (6, 170), (0, 57), (6, 171), (6, 172), (6, 174), (0, 58), (6, 175), (6, 210), (2, 136), (1, 22), (2, 137), (6, 211), (6, 176), (4, 226), (1, 21), (4, 227), (4, 228)] rfl
set_option maxRecDepth 20000 in
theorem lin_r11 : ∀ w ∈ wsL_law0_r11, w ∈ lwx := gTt [(4, 229), (4, 230), (4, 231), (4, 232), (6, 177), (6, 178), (1, 23), (6, 179), (6, 180), (8, 224), (6, 181), (6, 203), (6, 204), (6, 205), (6, 206), (6, 207), (6, 209), (5, 4), (2, 139), (2, 140), (5, 5), (5, 7), (5, 6), (1, 24)] rfl
set_option maxRecDepth 20000 in
theorem lin_r12 : ∀ w ∈ wsL_law0_r12, w ∈ lwx := gTt [(3, 205), (3, 206), (3, 207), (3, 208), (3, 209), (3, 210), (3, 211), (2, 213), (2, 215), (0, 12), (2, 216), (2, 83), (2, 84), (1, 26), (2, 85), (2, 86), (2, 87), (2, 88), (6, 212), (6, 213), (6, 214), (6, 215), (6, 131), (6, 216)] rfl
set_option maxRecDepth 20000 in
theorem lin_r13 : ∀ w ∈ wsL_law0_r13, w ∈ lwx := gTt [(6, 218), (0, 59), (6, 219), (6, 220), (6, 221), (6, 222), (6, 223), (6, 224), (6, 225), (1, 27), (6, 226), (6, 227), (5, 59), (1, 28), (5, 60), (6, 228), (6, 229), (6, 230), (6, 231), (6, 232), (3, 213), (3, 214), (3, 215), (3, 216)] rfl
set_option maxRecDepth 20000 in
theorem lin_r14 : ∀ w ∈ wsL_law0_r14, w ∈ lwx := gTt [(3, 217), (3, 218), (3, 219), (1, 181), (1, 175), (1, 178), (3, 9), (3, 10), (3, 11), (6, 233), (6, 234), (6, 235), (6, 236), (3, 221), (3, 222), (3, 223), (3, 224), (3, 225), (3, 226), (3, 227), (1, 145), (3, 17), (3, 2), (3, 3)] rfl
set_option maxRecDepth 20000 in
theorem lin_r15 : ∀ w ∈ wsL_law0_r15, w ∈ lwx := gTt [(6, 237), (6, 238), (6, 239), (7, 0), (7, 1), (7, 2), (7, 3), (3, 229), (3, 230), (3, 231), (3, 232), (3, 233), (3, 234), (3, 235), (3, 153), (3, 154), (3, 155), (3, 237), (3, 238), (3, 239), (4, 0), (4, 1), (4, 2), (4, 3)] rfl
set_option maxRecDepth 20000 in
theorem lin_r16 : ∀ w ∈ wsL_law0_r16, w ∈ lwx := gTt [(4, 4), (4, 5), (3, 76), (3, 77), (3, 78), (3, 79), (7, 4), (7, 5), (7, 6), (7, 7), (7, 8), (7, 9), (7, 10), (7, 11), (7, 13), (0, 60), (7, 14), (4, 6), (4, 7), (4, 8), (3, 178), (4, 9), (4, 10), (4, 11)] rfl
set_option maxRecDepth 20000 in
theorem lin_r17 : ∀ w ∈ wsL_law0_r17, w ∈ lwx := gTt [(4, 12), (4, 13), (4, 14), (4, 15), (4, 18), (4, 19), (4, 20), (4, 21), (7, 15), (7, 16), (7, 17), (7, 18), (7, 19), (7, 20), (7, 21), (7, 22), (7, 23), (7, 24), (7, 25), (7, 26), (7, 27), (7, 28), (7, 30), (7, 32)] rfl
set_option maxRecDepth 20000 in
theorem lin_r18 : ∀ w ∈ wsL_law0_r18, w ∈ lwx := gTt [(7, 33), (7, 34), (7, 35), (7, 36), (7, 41), (7, 37), (7, 38), (1, 25), (7, 39), (7, 40), (4, 22), (4, 23), (4, 24), (4, 25), (4, 26), (4, 27), (4, 28), (1, 217), (1, 219), (1, 221), (1, 223), (1, 225), (1, 227), (1, 229)] rfl
set_option maxRecDepth 20000 in
theorem lin_r19 : ∀ w ∈ wsL_law0_r19, w ∈ lwx := gTt [(3, 23), (3, 25), (0, 15), (3, 26), (4, 29), (4, 30), (4, 31), (4, 33), (4, 35), (0, 36), (4, 36), (1, 231), (7, 45), (7, 46), (7, 47), (7, 48), (7, 61), (7, 62), (1, 30), (6, 72), (7, 49), (7, 51), (0, 61), (7, 52)] rfl
set_option maxRecDepth 20000 in
theorem lin_r20 : ∀ w ∈ wsL_law0_r20, w ∈ lwx := gTt [(7, 53), (7, 55), (0, 62), (7, 56), (7, 57), (7, 59), (0, 63), (7, 60), (7, 61), (7, 64), (7, 65), (7, 66), (4, 38), (4, 39), (4, 40), (4, 41), (4, 42), (4, 43), (4, 44), (1, 81), (1, 76), (1, 233), (1, 78), (1, 235)] rfl
set_option maxRecDepth 20000 in
theorem lin_r21 : ∀ w ∈ wsL_law0_r21, w ∈ lwx := gTt [(3, 41), (3, 43), (0, 18), (3, 44), (4, 45), (4, 47), (0, 37), (4, 48), (3, 46), (3, 48), (0, 19), (3, 49), (3, 50), (3, 52), (0, 20), (3, 53), (3, 60), (3, 62), (0, 21), (3, 63), (3, 64), (3, 66), (0, 22), (3, 67)] rfl
set_option maxRecDepth 20000 in
theorem lin_r22 : ∀ w ∈ wsL_law0_r22, w ∈ lwx := gTt [(3, 68), (3, 70), (0, 23), (3, 71), (3, 72), (3, 74), (0, 24), (3, 75), (2, 138), (2, 135), (3, 80), (3, 82), (0, 25), (3, 83), (3, 84), (3, 86), (0, 26), (3, 87), (1, 203), (1, 85), (3, 88), (3, 89), (3, 90), (3, 91)] rfl
set_option maxRecDepth 20000 in
theorem lin_r23 : ∀ w ∈ wsL_law0_r23, w ∈ lwx := gTt [(3, 92), (3, 94), (0, 27), (3, 95), (3, 96), (3, 98), (0, 28), (3, 99), (1, 201), (3, 100), (3, 102), (0, 29), (3, 103), (3, 104), (3, 106), (0, 30), (3, 107), (3, 108), (3, 110), (0, 31), (3, 111), (3, 112), (3, 114), (0, 32)] rfl
set_option maxRecDepth 20000 in
theorem lin_r24 : ∀ w ∈ wsL_law0_r24, w ∈ lwx := gTt [(3, 115), (3, 116), (3, 117), (3, 118), (3, 119), (4, 51), (4, 53), (0, 38), (4, 54), (4, 55), (4, 56), (4, 57), (4, 58), (4, 60), (0, 39), (4, 61), (1, 239), (7, 107), (7, 108), (7, 109), (7, 110), (7, 111), (7, 113), (0, 64)] rfl
set_option maxRecDepth 20000 in
theorem lin_r25 : ∀ w ∈ wsL_law0_r25, w ∈ lwx := gTt [(7, 114), (7, 115), (7, 117), (0, 65), (7, 118), (7, 119), (7, 121), (0, 66), (7, 122), (7, 123), (7, 125), (0, 67), (7, 126), (7, 127), (7, 129), (0, 68), (7, 130), (7, 131), (7, 133), (0, 69), (7, 134), (7, 135), (7, 136), (7, 137)] rfl
set_option maxRecDepth 20000 in
theorem lin_r26 : ∀ w ∈ wsL_law0_r26, w ∈ lwx := gTt [(7, 138), (7, 139), (7, 140), (7, 142), (0, 70), (7, 143), (7, 144), (7, 146), (0, 71), (7, 147), (7, 148), (7, 150), (0, 72), (7, 151), (7, 152), (7, 154), (0, 73), (7, 155), (7, 156), (7, 158), (0, 74), (7, 159), (7, 160), (7, 162)] rfl
set_option maxRecDepth 20000 in
theorem lin_r27 : ∀ w ∈ wsL_law0_r27, w ∈ lwx := gTt [(0, 75), (7, 163), (7, 164), (7, 166), (0, 76), (7, 167), (7, 168), (7, 170), (0, 77), (7, 171), (6, 73), (7, 172), (7, 173), (7, 174), (7, 175), (7, 176), (7, 177), (7, 178), (7, 179), (7, 180), (1, 31), (7, 181), (7, 182), (7, 183)] rfl
set_option maxRecDepth 20000 in
theorem lin_r28 : ∀ w ∈ wsL_law0_r28, w ∈ lwx := gTt [(7, 188), (7, 184), (7, 186), (6, 57), (7, 187), (7, 199), (7, 203), (7, 205), (7, 207), (7, 185), (7, 209), (7, 212), (7, 214), (7, 216), (6, 53), (7, 217), (7, 218), (7, 219), (7, 220), (4, 62), (4, 63), (4, 64), (4, 65), (4, 66)] rfl
set_option maxRecDepth 20000 in
theorem lin_r29 : ∀ w ∈ wsL_law0_r29, w ∈ lwx := gTt [(4, 67), (4, 68), (4, 70), (4, 72), (0, 40), (4, 73), (7, 221), (7, 222), (7, 223), (7, 224), (7, 229), (7, 225), (7, 227), (0, 78), (7, 228), (4, 74), (4, 75), (4, 76), (4, 77), (4, 78), (4, 79), (4, 80), (4, 81), (4, 83)] rfl
set_option maxRecDepth 20000 in
theorem lin_r30 : ∀ w ∈ wsL_law0_r30, w ∈ lwx := gTt [(0, 41), (4, 84), (4, 86), (4, 88), (0, 42), (4, 89), (2, 237), (2, 238), (2, 239), (3, 0), (4, 90), (4, 92), (0, 43), (4, 93), (7, 230), (7, 231), (7, 232), (7, 233), (7, 234), (7, 236), (0, 79), (7, 237), (4, 94), (4, 95)] rfl
set_option maxRecDepth 20000 in
theorem lin_r31 : ∀ w ∈ wsL_law0_r31, w ∈ lwx := gTt [(4, 96), (4, 97), (4, 98), (4, 99), (4, 100), (1, 237), (3, 54), (3, 55), (3, 56), (3, 57), (3, 58), (7, 238), (7, 239), (8, 0), (8, 1), (8, 2), (8, 3), (8, 4), (8, 5), (7, 79), (7, 70), (7, 72), (8, 6), (4, 103)] rfl
set_option maxRecDepth 20000 in
theorem lin_r32 : ∀ w ∈ wsL_law0_r32, w ∈ lwx := gTt [(4, 104), (4, 105), (4, 106), (4, 107), (4, 108), (4, 109), (4, 112), (4, 114), (0, 44), (4, 115), (4, 116), (4, 118), (0, 45), (4, 119), (1, 147), (1, 149), (1, 151), (1, 109), (1, 107), (1, 183), (4, 120), (4, 122), (0, 46), (4, 123)] rfl
set_option maxRecDepth 20000 in
theorem lin_r33 : ∀ w ∈ wsL_law0_r33, w ∈ lwx := gTt [(4, 124), (4, 126), (0, 47), (4, 127), (3, 125), (3, 126), (3, 127), (3, 128), (1, 180), (3, 129), (3, 131), (0, 33), (3, 132), (1, 177), (3, 134), (3, 135), (3, 136), (3, 137), (3, 138), (3, 139), (3, 140), (3, 141), (3, 143), (0, 34)] rfl
set_option maxRecDepth 20000 in
theorem lin_r34 : ∀ w ∈ wsL_law0_r34, w ∈ lwx := gTt [(3, 144), (3, 145), (3, 147), (0, 35), (3, 148), (4, 128), (4, 130), (0, 48), (4, 131), (8, 7), (8, 8), (8, 9), (8, 10), (8, 11), (8, 13), (0, 80), (8, 14), (8, 15), (8, 17), (0, 81), (8, 18), (8, 19), (8, 21), (0, 82)] rfl
set_option maxRecDepth 20000 in
theorem lin_r35 : ∀ w ∈ wsL_law0_r35, w ∈ lwx := gTt [(8, 22), (8, 23), (8, 25), (0, 83), (8, 26), (8, 27), (8, 29), (0, 84), (8, 30), (8, 37), (8, 31), (8, 33), (0, 85), (8, 34), (8, 35), (8, 36), (4, 132), (4, 133), (4, 134), (4, 135), (2, 210), (2, 211), (2, 212), (2, 233)] rfl
set_option maxRecDepth 20000 in
theorem lin_r36 : ∀ w ∈ wsL_law0_r36, w ∈ lwx := gTt [(2, 235), (0, 13), (2, 236), (8, 38), (8, 39), (8, 40), (8, 41), (8, 42), (8, 44), (0, 86), (8, 45), (8, 46), (8, 48), (0, 87), (8, 49), (4, 136), (4, 137), (4, 138), (4, 139), (3, 6), (3, 7), (3, 8), (2, 105), (2, 107)] rfl
set_option maxRecDepth 20000 in
theorem lin_r37 : ∀ w ∈ wsL_law0_r37, w ∈ lwx := gTt [(0, 6), (2, 108), (3, 13), (3, 15), (0, 14), (3, 16), (8, 50), (8, 51), (8, 52), (8, 53), (8, 54), (8, 56), (0, 88), (8, 57), (8, 58), (8, 60), (0, 89), (8, 61), (4, 140), (4, 141), (4, 142), (4, 143), (3, 20), (3, 21)] rfl
set_option maxRecDepth 20000 in
theorem lin_r38 : ∀ w ∈ wsL_law0_r38, w ∈ lwx := gTt [(3, 22), (1, 199), (3, 29), (3, 31), (0, 16), (3, 32), (8, 62), (8, 63), (8, 64), (8, 65), (8, 66), (8, 68), (0, 90), (8, 69), (4, 144), (4, 145), (4, 146), (4, 147), (3, 38), (3, 39), (3, 40), (8, 70), (8, 71), (8, 72)] rfl
set_option maxRecDepth 20000 in
theorem lin_r39 : ∀ w ∈ wsL_law0_r39, w ∈ lwx := gTt [(8, 73), (8, 74), (8, 76), (0, 91), (8, 77), (4, 148), (4, 149), (4, 150), (4, 151), (3, 150), (3, 151), (3, 152), (8, 78), (8, 79), (8, 80), (8, 81), (4, 152), (4, 153), (4, 154), (4, 155), (4, 156), (4, 157), (4, 158), (8, 82)] rfl
set_option maxRecDepth 20000 in
theorem lin_r40 : ∀ w ∈ wsL_law0_r40, w ∈ lwx := gTt [(8, 83), (8, 84), (8, 85), (4, 159), (4, 160), (4, 161), (4, 162), (4, 163), (4, 164), (4, 165), (8, 86), (8, 87), (8, 88), (8, 89), (8, 90), (8, 92), (0, 92), (8, 93), (8, 94), (8, 96), (0, 93), (8, 97), (8, 98), (8, 100)] rfl
set_option maxRecDepth 20000 in
theorem lin_r41 : ∀ w ∈ wsL_law0_r41, w ∈ lwx := gTt [(0, 94), (8, 101), (4, 167), (4, 168), (4, 169), (4, 170), (3, 121), (3, 122), (3, 123), (1, 111), (8, 102), (8, 103), (8, 104), (8, 105), (8, 106), (8, 108), (0, 95), (8, 109), (4, 171), (4, 172), (4, 173), (4, 174), (4, 175), (4, 176)] rfl
set_option maxRecDepth 20000 in
theorem lin_r42 : ∀ w ∈ wsL_law0_r42, w ∈ lwx := gTt [(4, 177), (4, 179), (4, 180), (1, 33), (4, 181), (4, 182), (4, 183), (4, 184), (4, 185), (1, 32), (4, 186), (4, 187), (4, 188), (2, 208), (4, 197), (4, 198), (4, 190), (4, 191), (1, 35), (4, 192), (4, 193), (4, 194), (4, 195), (4, 196)] rfl
set_option maxRecDepth 20000 in
theorem lin_r43 : ∀ w ∈ wsL_law0_r43, w ∈ lwx := gTt [(4, 210), (4, 211), (4, 212), (4, 213), (4, 214), (8, 192), (4, 209), (4, 215), (4, 216), (4, 200), (4, 217), (8, 193), (9, 0), (4, 219), (4, 220), (4, 221), (8, 194), (9, 1), (4, 223), (4, 224), (4, 233), (4, 225), (4, 234), (4, 235)] rfl
set_option maxRecDepth 20000 in
theorem lin_r44 : ∀ w ∈ wsL_law0_r44, w ∈ lwx := gTt [(4, 236), (4, 237), (4, 238), (4, 239), (5, 0), (5, 1), (5, 3), (5, 8), (5, 10), (5, 11), (5, 9), (5, 12), (5, 13), (5, 14), (1, 36), (5, 15), (5, 16), (8, 195), (9, 2), (5, 18), (5, 19), (5, 20), (5, 21), (5, 22)] rfl
set_option maxRecDepth 20000 in
theorem lin_r45 : ∀ w ∈ wsL_law0_r45, w ∈ lwx := gTt [(5, 23), (5, 24), (5, 25), (5, 26), (5, 27), (5, 28), (5, 29), (5, 30), (5, 31), (5, 32), (5, 33), (1, 34), (5, 34), (5, 35), (5, 37), (5, 38), (5, 39), (5, 40), (5, 41), (5, 42), (5, 43), (5, 45), (5, 47), (5, 49)] rfl
set_option maxRecDepth 20000 in
theorem lin_r46 : ∀ w ∈ wsL_law0_r46, w ∈ lwx := gTt [(5, 50), (5, 51), (5, 52), (5, 53), (5, 54), (5, 55), (5, 56), (5, 57), (5, 58), (5, 61), (5, 62), (5, 63), (5, 64), (5, 65), (8, 196), (5, 66), (5, 67), (5, 68), (5, 69), (5, 70), (5, 71), (5, 72), (5, 73), (5, 74)] rfl
set_option maxRecDepth 20000 in
theorem lin_r47 : ∀ w ∈ wsL_law0_r47, w ∈ lwx := gTt [(5, 76), (5, 78), (5, 79), (5, 80), (5, 81), (5, 82), (5, 83), (5, 84), (5, 85), (5, 86), (5, 87), (5, 88), (5, 89), (5, 90), (5, 91), (5, 92), (5, 93), (5, 94), (5, 95), (5, 96), (5, 97), (5, 98), (5, 99), (5, 100)] rfl
set_option maxRecDepth 20000 in
theorem lin_r48 : ∀ w ∈ wsL_law0_r48, w ∈ lwx := gTt [(5, 101), (5, 102), (5, 103), (5, 104), (5, 105), (5, 106), (5, 107), (5, 190), (5, 189), (5, 158), (4, 199), (5, 108), (5, 110), (5, 111), (5, 109), (5, 112), (5, 113), (5, 115), (5, 114), (5, 116), (5, 117), (5, 118), (5, 119), (5, 114)] rfl
set_option maxRecDepth 20000 in
theorem lin_r49 : ∀ w ∈ wsL_law0_r49, w ∈ lwx := gTt [(5, 120), (5, 121), (5, 122), (5, 123), (5, 124), (5, 125), (5, 126), (5, 127), (5, 128), (5, 129), (5, 130), (5, 132), (5, 176), (5, 177), (5, 178), (5, 179), (5, 180), (5, 181), (5, 182), (5, 183), (5, 184), (5, 185), (5, 186), (5, 187)] rfl
set_option maxRecDepth 20000 in
theorem lin_r50 : ∀ w ∈ wsL_law0_r50, w ∈ lwx := gTt [(5, 188), (8, 110), (8, 111), (8, 112), (8, 113), (8, 115), (8, 116), (8, 117), (8, 201), (8, 119), (5, 137), (5, 138), (5, 139), (5, 140), (8, 197), (5, 141), (5, 142), (5, 143), (8, 198), (9, 3), (5, 145), (5, 146), (5, 147), (5, 148)] rfl
set_option maxRecDepth 20000 in
theorem lin_r51 : ∀ w ∈ wsL_law0_r51, w ∈ lwx := gTt [(5, 149), (5, 150), (5, 151), (5, 152), (5, 153), (5, 154), (5, 155), (5, 156), (5, 157), (5, 159), (8, 199), (9, 4), (5, 161), (5, 162), (5, 163), (8, 200), (9, 5), (5, 165), (5, 166), (5, 167), (5, 168), (5, 169), (5, 170), (5, 171)] rfl
set_option maxRecDepth 20000 in
theorem lin_r52 : ∀ w ∈ wsL_law0_r52, w ∈ lwx := gTt [(5, 172), (5, 173), (8, 120), (8, 122), (5, 200), (5, 201), (5, 202), (5, 203), (2, 116), (2, 117), (2, 118), (2, 119), (2, 121), (0, 7), (2, 122), (2, 123), (2, 125), (0, 8), (2, 126), (2, 93), (2, 95), (0, 3), (2, 96), (2, 127)] rfl
set_option maxRecDepth 20000 in
theorem lin_r53 : ∀ w ∈ wsL_law0_r53, w ∈ lwx := gTt [(2, 129), (0, 9), (2, 130), (2, 131), (2, 133), (0, 10), (2, 134), (8, 123), (8, 124), (8, 125), (8, 126), (8, 127), (8, 129), (0, 96), (8, 130), (8, 131), (8, 133), (0, 97), (8, 134), (8, 135), (8, 136), (8, 137), (8, 138), (5, 204)] rfl
set_option maxRecDepth 20000 in
theorem lin_r54 : ∀ w ∈ wsL_law0_r54, w ∈ lwx := gTt [(5, 205), (5, 206), (5, 207), (5, 208), (5, 209), (5, 210), (5, 212), (5, 215), (5, 216), (5, 217), (5, 222), (5, 224), (0, 49), (5, 225), (8, 139), (8, 140), (8, 141), (8, 142), (5, 228), (5, 229), (5, 230), (5, 231), (5, 232), (5, 233)] rfl
set_option maxRecDepth 20000 in
theorem lin_r55 : ∀ w ∈ wsL_law0_r55, w ∈ lwx := gTt [(5, 234), (8, 152), (8, 153), (8, 154), (8, 155), (5, 235), (5, 236), (5, 237), (5, 238), (5, 239), (6, 0), (6, 1), (6, 3), (6, 5), (0, 50), (6, 6), (6, 7), (6, 8), (6, 9), (6, 10), (6, 12), (0, 51), (6, 13), (8, 156)] rfl
set_option maxRecDepth 20000 in
theorem lin_r56 : ∀ w ∈ wsL_law0_r56, w ∈ lwx := gTt [(8, 157), (8, 158), (8, 159), (8, 160), (8, 162), (0, 98), (8, 163), (8, 164), (6, 14), (6, 15), (6, 16), (6, 17), (6, 18), (6, 19), (6, 20), (6, 21), (6, 23), (0, 52), (6, 24), (8, 165), (8, 166), (8, 167), (8, 168), (6, 25)] rfl
set_option maxRecDepth 20000 in
theorem lin_r57 : ∀ w ∈ wsL_law0_r57, w ∈ lwx := gTt [(6, 26), (6, 27), (6, 28), (6, 29), (6, 30), (6, 31), (1, 83), (8, 169), (8, 170), (8, 171), (8, 172), (2, 71), (2, 72), (2, 73), (2, 74), (2, 75), (2, 77), (0, 0), (2, 78), (2, 79), (2, 81), (0, 1), (2, 82), (2, 89)] rfl
set_option maxRecDepth 20000 in
theorem lin_r58 : ∀ w ∈ wsL_law0_r58, w ∈ lwx := gTt [(2, 91), (0, 2), (2, 92), (2, 97), (2, 99), (0, 4), (2, 100), (2, 101), (2, 103), (0, 5), (2, 104), (8, 173), (8, 174), (8, 175), (8, 176), (8, 177), (8, 179), (0, 99), (8, 180), (2, 109), (2, 110), (2, 111), (2, 112), (2, 113)] rfl
set_option maxRecDepth 20000 in
theorem lin_r59 : ∀ w ∈ wsL_law0_r59, w ∈ lwx := gTt [(2, 114), (2, 115), (2, 209), (3, 5), (3, 19), (3, 33), (3, 35), (0, 17), (3, 36), (3, 37), (3, 120), (3, 149), (3, 160), (8, 181), (8, 182), (8, 183), (8, 184), (8, 185), (6, 83), (8, 186), (8, 188), (0, 100), (8, 189), (8, 190)] rfl
