/-! THE LAW, CALL BY CALL -/
/-- what holds between the calls: each side's own, and the players' counts are one -/
def LI (ea : Nat) (u : OU) (Y : RY) : Prop := CI u.1 Y.2.1.1 ∧ rOk Y.2.1 Y.2.2 ∧ Y.2.1.2.2.2.1 = ea
theorem sx {i L j : Nat} {v : Int32} (h : 7 * i + 7 ≤ L) (hL : L ≤ 3584) (hj : j < 7) (e : v = nI j) : vp_in (nI (7 * i) + v) L := by
  rw [e, nI_add]
  exact vp_in_nI (by omega) (by omega)
theorem i_L_law_X8 : ∀ w ∈ wsX80, w ∈ wsL_law ++ lkL := fun w h => List.mem_append_left _ (by unfold wsL_law wsL_law0; simp only [List.mem_append, h, true_or, or_true])
section PLQ
variable {p : Program} {l : Launch} {e : Env} {R : Room} {s : State} {m : MethodId} {args : Array Value} {below : List Frame} {meth : Method} {c : Code} {H : Heap} {locs : List Loc} {cells slots : Nat} {Q : State → Prop}
variable {cc : ByteArray} {pc nL index : Nat} {ls : Array Slot} {rest : List Value} {D : va_G} {cy : Nat → ClassId} {lay : Nat → Nat} {o : Nat} {u : OU} {Y : RY} {Ts : List Cond} {own host : String}
theorem lw_getn (hC : CallFix p m c cc nL s args Ts own) (hK : va_K D vwCl (fdT cy) s) (G : lwG D cy lay o u Y s H locs) (hin : ∀ w ∈ wsX80, w ∈ Ts) (hl : (Cond.fieldLinkNest own index "FirstdanceAgencyLaw$Out" "n" "J" host).before args s = true) (hdg : decode cc pc = .ok (.getfield index, 3))
    (kk : W p l e R s m args below meth c H locs cells slots Q (F0 m (pc + 3) ls (.long u.2.1 :: rest))) : W p l e R s m args below meth c H locs cells slots Q (F0 m pc ls (.ref o :: rest)) :=
  va_getN hC.1 hC.2.1 hC.2.2.2.2 hin hC.2.2.2.1 hK G.1.1 87 wo_87 k_X8.1 0 (by decide) hl (fun _ h => h) rfl hdg kk
end PLQ
/-- player: what the class's side leaves -/
def plQ1 (P : Nat) (a b c d : Int32) (r : Int32) (u : OU) : Prop :=
  (r = 1 ∧ ¬ (0 ≤ c ∧ c < 6) ∧ CI u.1 P) ∨ (r = 2 ∧ (0 ≤ c ∧ c < 6) ∧ ¬ plOk a b d ∧ CI u.1 P) ∨ (r = 3 ∧ (0 ≤ c ∧ c < 6) ∧ plOk a b d ∧ P = 10 ∧ CI u.1 P) ∨ (r = 0 ∧ (0 ≤ c ∧ c < 6) ∧ plOk a b d ∧ P < 10 ∧ u.2.1 = Int32.toInt64 (nI P) ∧ CI u.1 (P + 1))
/-- .. what the reference leaves -/
def plQ2 (Γ : RG) (a b c d : Int32) (r : Int32) (Y : RY) : Prop :=
  ((Y.2.2 0 0 = 1 ∧ (c < 0 ∨ 5 < c) ∧ Y.2.1 = Γ) ∨ (Y.2.2 0 0 = 2 ∧ ¬ (c < 0 ∨ 5 < c) ∧ ((a < 1 ∨ 63 < a) ∨ (b < 0 ∨ 65535 < b) ∨ (d < 1 ∨ 99 < d)) ∧ Y.2.1 = Γ) ∨ (Y.2.2 0 0 = 3 ∧ ¬ (c < 0 ∨ 5 < c) ∧ ¬ ((a < 1 ∨ 63 < a) ∨ (b < 0 ∨ 65535 < b) ∨ (d < 1 ∨ 99 < d)) ∧ Γ.1 = 10 ∧ Y.2.1 = Γ) ∨
   (Y.2.2 0 0 = 0 ∧ ¬ (c < 0 ∨ 5 < c) ∧ ¬ ((a < 1 ∨ 63 < a) ∨ (b < 0 ∨ 65535 < b) ∨ (d < 1 ∨ 99 < d)) ∧ Γ.1 < 10 ∧ r = nI Γ.1 ∧ Y.2.1 = (Γ.1 + 1, Γ.2))) ∧ rOk Y.2.1 Y.2.2
theorem plEq {Γ : RG} {a b c d r : Int32} {Y : RY} (h : plQ2 Γ a b c d r Y) : Y.2.1.2.1 = Γ.2.1 ∧ Y.2.1.2.2.2 = Γ.2.2.2 := by
  rcases h.1 with h | h | h | h
  · rw [h.2.2]; exact ⟨rfl, rfl⟩
  · rw [h.2.2.2]; exact ⟨rfl, rfl⟩
  · rw [h.2.2.2.2]; exact ⟨rfl, rfl⟩
  · rw [h.2.2.2.2.2]; exact ⟨rfl, rfl⟩
theorem plW1 {u : OU} {P : Nat} {a b c d : Int32} (C : CI u.1 P) : w_T_X7_player (fun v τ => plQ1 P a b c d 0 (τ, Int32.toInt64 v, u.2.2)) (fun E τ => (E = xIO ∧ plQ1 P a b c d 1 (τ, u.2)) ∨ (E = xIA ∧ plQ1 P a b c d 2 (τ, u.2)) ∨ (E = xIS ∧ plQ1 P a b c d 3 (τ, u.2))) u.1 a b c d :=
  cs_player C (fun h1 => Or.inl ⟨rfl, Or.inl ⟨rfl, h1, C⟩⟩) (fun h1 h2 => Or.inr (Or.inl ⟨rfl, Or.inr (Or.inl ⟨rfl, h1, h2, C⟩)⟩)) (fun h1 h2 h3 => Or.inr (Or.inr ⟨rfl, Or.inr (Or.inr (Or.inl ⟨rfl, h1, h2, h3, C⟩))⟩)) (fun τ h1 h2 h3 C' => Or.inr (Or.inr (Or.inr ⟨rfl, h1, h2, h3, rfl, C'⟩)))
theorem plW2 {lay : Nat → Nat} {Γ : RG} {σ : MS} {a b c d : Int32} (O : rOk Γ σ) : w_X11_player lay Γ (fun r Y' => plQ2 Γ a b c d r Y') σ a b c d := by
  have e1 : ∀ v : Int32, up2 (up2 σ 0 0 0) 0 0 v 0 0 = v := fun v => up2_same
  refine sf_player O (fun h1 O' => ⟨Or.inl ⟨e1 1, h1, rfl⟩, O'⟩) (fun h1 h2 O' => ⟨Or.inr (Or.inl ⟨e1 2, h1, h2, rfl⟩), O'⟩) (fun h1 h2 h3 O' => ⟨Or.inr (Or.inr (Or.inl ⟨e1 3, h1, h2, h3, rfl⟩)), O'⟩) (fun h1 h2 h3 lay' O' => ⟨Or.inr (Or.inr (Or.inr ⟨?_, h1, h2, h3, rfl, rfl⟩)), O'⟩)
  show rpS (up2 σ 0 0 0) Γ.1 a b c d 0 0 = 0
  unfold rpS
  rw [if_neg (by decide), if_neg (by omega), if_neg (by omega), up2_same]
theorem pl_c {c : Int32} : (c < 0 ∨ 5 < c) ↔ ¬ (0 ≤ c ∧ c < 6) := by
  rw [Int32.lt_iff_toInt_lt, Int32.lt_iff_toInt_lt, Int32.lt_iff_toInt_lt, Int32.le_iff_toInt_le]
  have e0 : (0 : Int32).toInt = 0 := by decide
  have e5 : (5 : Int32).toInt = 5 := by decide
  have e6 : (6 : Int32).toInt = 6 := by decide
  omega
theorem pl_o {a b d : Int32} : ((a < 1 ∨ 63 < a) ∨ (b < 0 ∨ 65535 < b) ∨ (d < 1 ∨ 99 < d)) ↔ ¬ plOk a b d := by
  unfold plOk
  simp only [Int32.lt_iff_toInt_lt, Int32.le_iff_toInt_le]
  have e0 : (0 : Int32).toInt = 0 := by decide
  have e1 : (1 : Int32).toInt = 1 := by decide
  have e2 : (63 : Int32).toInt = 63 := by decide
  have e3 : (64 : Int32).toInt = 64 := by decide
  have e4 : (65535 : Int32).toInt = 65535 := by decide
  have e5 : (65536 : Int32).toInt = 65536 := by decide
  have e6 : (99 : Int32).toInt = 99 := by decide
  omega
/-- player: both sides say the same -/
theorem plCmp {Γ : RG} {a b c d r1 r2 : Int32} {u : OU} {Y : RY} (h1 : plQ1 Γ.1 a b c d r1 u) (h2 : plQ2 Γ a b c d r2 Y) : Y.2.2 0 0 = r1 ∧ (r1 = 0 → u.2.1 = Int32.toInt64 r2) ∧ CI u.1 Y.2.1.1 ∧ rOk Y.2.1 Y.2.2 ∧ Y.2.1.2.2.2.1 = Γ.2.2.2.1 := by
  obtain ⟨h2, O⟩ := h2
  rw [pl_c, pl_o] at h2
  rcases h1 with ⟨rfl, k1, C⟩ | ⟨rfl, k1, k2, C⟩ | ⟨rfl, k1, k2, k3, C⟩ | ⟨rfl, k1, k2, k3, k4, C⟩
  · rcases h2 with ⟨z, g1, e⟩ | ⟨z, g1, g2, e⟩ | ⟨z, g1, g2, g3, e⟩ | ⟨z, g1, g2, g3, g4, e⟩
    · rw [e]; exact ⟨z, fun q => absurd q (by decide), C, e ▸ O, rfl⟩
    · exact absurd k1 g1
    · exact absurd k1 g1
    · exact absurd k1 g1
  · rcases h2 with ⟨z, g1, e⟩ | ⟨z, g1, g2, e⟩ | ⟨z, g1, g2, g3, e⟩ | ⟨z, g1, g2, g3, g4, e⟩
    · exact absurd k1 g1
    · rw [e]; exact ⟨z, fun q => absurd q (by decide), C, e ▸ O, rfl⟩
    · exact absurd k2 g2
    · exact absurd k2 g2
  · rcases h2 with ⟨z, g1, e⟩ | ⟨z, g1, g2, e⟩ | ⟨z, g1, g2, g3, e⟩ | ⟨z, g1, g2, g3, g4, e⟩
    · exact absurd k1 g1
    · exact absurd k2 g2
    · rw [e]; exact ⟨z, fun q => absurd q (by decide), C, e ▸ O, rfl⟩
    · omega
  · rcases h2 with ⟨z, g1, e⟩ | ⟨z, g1, g2, e⟩ | ⟨z, g1, g2, g3, e⟩ | ⟨z, g1, g2, g3, g4, e⟩
    · exact absurd k1 g1
    · exact absurd k3 (fun q => by exact g2 k2)
    · omega
    · rw [e]; exact ⟨z, fun _ => by rw [g4]; exact k4, C, e ▸ O, rfl⟩
theorem hdV_X11_player : yX11_player.cls = RX11 ∧ yX11_player.cls ≠ "java/lang/invoke/MethodHandle" ∧ yX11_player.cls ≠ "java/lang/invoke/VarHandle" ∧ (parseMethodDescriptor yX11_player.desc).map (fun d => d.parameters.length) = some 4 := by decide +kernel
theorem hdV_X11_band : yX11_band.cls = RX11 ∧ yX11_band.cls ≠ "java/lang/invoke/MethodHandle" ∧ yX11_band.cls ≠ "java/lang/invoke/VarHandle" ∧ (parseMethodDescriptor yX11_band.desc).map (fun d => d.parameters.length) = some 1 := by decide +kernel
theorem hdV_X11_ask : yX11_ask.cls = RX11 ∧ yX11_ask.cls ≠ "java/lang/invoke/MethodHandle" ∧ yX11_ask.cls ≠ "java/lang/invoke/VarHandle" ∧ (parseMethodDescriptor yX11_ask.desc).map (fun d => d.parameters.length) = some 6 := by decide +kernel
theorem hdV_X11_songs : yX11_songs.cls = RX11 ∧ yX11_songs.cls ≠ "java/lang/invoke/MethodHandle" ∧ yX11_songs.cls ≠ "java/lang/invoke/VarHandle" ∧ (parseMethodDescriptor yX11_songs.desc).map (fun d => d.parameters.length) = some 1 := by decide +kernel
theorem hdV_X11_tell : yX11_tell.cls = RX11 ∧ yX11_tell.cls ≠ "java/lang/invoke/MethodHandle" ∧ yX11_tell.cls ≠ "java/lang/invoke/VarHandle" ∧ (parseMethodDescriptor yX11_tell.desc).map (fun d => d.parameters.length) = some 1 := by decide +kernel
