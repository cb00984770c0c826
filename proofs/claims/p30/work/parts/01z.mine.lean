/-- the tables know the array class over an array type (the printed rows for 'new T[n][m]' ask for it; the kit lacks it) -/
def va_AOA (ty : FieldType) (U : State) : Prop := (Cond.arrayOver (.array ty)).before #[] U = true
theorem va_AOA.use {ty : FieldType} {A : Array Value} {U : State} (h : va_AOA ty U) : (Cond.arrayOver (.array ty)).before A U = true := h

/-- a decode row: decided once for good -/
theorem dkT {c : ByteArray} {pc : Nat} {r : _} (h : decide (decode c pc = r) = true) : decode c pc = r := of_decide_eq_true h
