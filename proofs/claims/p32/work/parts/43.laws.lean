/-! LAWS: free, filling, wouldLose, wouldCancel, key, drive -/
theorem nar_b (x : Bool) : narrow .boolean (.int (b01 x)) = .int (b01 x) := by cases x <;> rfl
def fillF (y : MS) : Nat → Int32
  | 0 => y 9 0
  | 1 => y 9 1
  | 2 => y 9 3
  | _ => y 9 5
def wcF (σ : MS) (w P : Nat) : Int32 := (if 0 < owedF σ w - σ (73 + w) 11 then owedF σ w - σ (73 + w) 11 else 0) - (((σ (73 + w) 9 - σ (73 + w) 11) + extraF σ w P) - wagesF σ w P)
/-- the first of the set, of n; else -1 -/
def keyF (s : Int32) : Nat → Nat → Int32
  | 0, _ => -1
  | n + 1, i => if bt s i = true then nI i else keyF s n (i + 1)
