abbrev rm_L_agency : Room := { frames := 9, cells := 103, slots := 2472, locals := 154 }
/-- what agency leaves: a new agency at lay 0, of whose cells none was there before, with numbers of which post holds -/
abbrev agenQ (D : va_G) (cy : Nat → ClassId) (post : MS → Prop) (sz : Nat) : Array Value → State → Outcome → State → Prop :=
  va_Qr (S := (Nat → Nat) × MS) (fun u => post u.2) (fun u a t => a = u.1 0 ∧ (∀ k, k < 87 → sz ≤ u.1 k) ∧ agO D cy u.1 u.2 t) (lgA sz)
section LGE
variable {p : Program} {l : Launch} {e : Env} {R : Room} {s : State} {m : MethodId} {args : Array Value} {below : List Frame} {meth : Method} {c : Code} {H : Heap} {locs : List Loc} {cells slots : Nat}
variable {cc : ByteArray} {pc nL : Nat} {ls : Array Slot} {D : va_G} {cy : Nat → ClassId} {lay : Nat → Nat} {σ : MS} {ex : va_W} {Ts : List Cond} {own : String}
theorem lg_aret {post : MS → Prop} (hC : CallFix p m c cc nL s args Ts own) (hr : meth.sig.returnType = some (.object "FirstdanceAgency")) (hlocks : meth.locks = false) (G : lgG D cy lay σ ex s.heap H locs) (h : post σ) (hdg : decode cc pc = .ok (.areturn, 1)) :
    W p l e R s m args below meth c H locs cells slots (MQ below (agenQ D cy post s.heap.size) args s cells slots (lgA s.heap.size)) (F0 m pc ls [.ref (lay 0)]) :=
  W.aret (v := .ref (lay 0)) hC.1 hC.2.1 hr (Or.inl ⟨_, rfl⟩) (Or.inr ⟨_, rfl⟩) (fun t ht hW => ⟨⟨(lay, σ), lay 0, rfl, h, rfl, fun k hk => lg_lay G hk, by rw [ht]; exact (lg_ag G).1, agD_t (lg_ag G).2.1⟩, G.2.2.F ht⟩) G.2.2.2.2 hdg hlocks
end LGE
