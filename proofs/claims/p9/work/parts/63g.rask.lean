/-! THE REFERENCE: ask -/
abbrev wdE (a b c d e f g : Int32) : va_E := .inr (15, [.int a, .int b, .int c, .int d, .int e, .int f, .int g, .int 0, .int 0, .int 0, .int 0, .int 0])
def rwS (σ : MS) (n : Nat) (a b c d e f g : Int32) : MS := fun k j => if k = 3 then (if j = 0 then σ 3 0 + 1 else if j = 2 then nI (n + 1) else σ 3 j) else if k = 33 + n then (if j = 0 then a else if j = 1 then b else if j = 2 then c else if j = 3 then d else if j = 4 then e else if j = 5 then f else if j = 6 then g else 0) else σ k j
section ADDW
variable {cy : Nat → ClassId} {lay lay' : Nat → Nat} {Γ : RG} {σ : MS} {a b c d e f g : Int32}
theorem r_no_wd (h : Γ.2.2.1 < 14) : rX cy lay Γ tn σ (33 + Γ.2.2.1) = none := by
  unfold rX
  rw [if_neg (by omega), if_neg (by omega), if_neg (by omega), if_neg (by omega), if_neg (by omega), if_neg (by omega), if_neg (by omega), if_neg (by omega), if_neg (by omega), if_neg (by omega), if_neg (by omega), if_pos (by omega), if_neg (by omega)]
theorem r_no_ew (h : Γ.2.2.1 = 0) : rX cy lay Γ tn σ 6 = none := if_pos h
theorem r_eww (h : Γ.2.2.1 ≠ 0) : rX cy lay Γ tn σ 6 = some (.inl (cy 7, if Γ.2.2.1 ≤ 10 then 10 else 15, rfS fun i => if i < Γ.2.2.1 then some (lay (33 + i)) else none)) := if_neg h
theorem rwS_ne {k n : Nat} (h1 : k ≠ 3) (h2 : k ≠ 33 + n) : rwS σ n a b c d e f g k = σ k := by
  funext j
  unfold rwS
  rw [if_neg h1, if_neg h2]
theorem r_addw (hP : Γ.2.2.1 < 14) (hG : Γ.1 ≤ 10) (hl : ∀ k, k ≠ 6 → k ≠ 33 + Γ.2.2.1 → lay' k = lay k) {o cap : Nat} {f' : Nat → Option Nat} (h4 : lay' 6 = o) (hcap : cap = if Γ.2.2.1 + 1 ≤ 10 then 10 else 15) (hf : f' = fun i => if i < Γ.2.2.1 + 1 then some (lay' (33 + i)) else none) (k : Nat) :
    gU (gU (gU (rX cy lay Γ tn σ) (33 + Γ.2.2.1) (some (wdE a b c d e f g))) 6 (some (.inl (cy 7, cap, rfS f')))) 3 (some (.inr (4, [.int (σ 3 0 + 1), .ref o, .int (nI (Γ.2.2.1 + 1))]))) k = rX cy lay' (Γ.1, Γ.2.1, Γ.2.2.1 + 1, Γ.2.2.2) tn (rwS σ Γ.2.2.1 a b c d e f g) k := by
  by_cases c3 : k = 3
  · subst c3
    rw [gU_eq, r_lw]
    simp [rwS, h4]
  rw [gU_ne c3]
  by_cases c6 : k = 6
  · subst c6
    rw [gU_eq, r_eww (Nat.succ_ne_zero _), hf, hcap]
  rw [gU_ne c6]
  by_cases cp : k = 33 + Γ.2.2.1
  · subst cp
    rw [gU_eq, r_wd ⟨hP, Nat.lt_succ_self _⟩]
    have e9 : ∀ j, rwS σ Γ.2.2.1 a b c d e f g (33 + Γ.2.2.1) j = if j = 0 then a else if j = 1 then b else if j = 2 then c else if j = 3 then d else if j = 4 then e else if j = 5 then f else if j = 6 then g else 0 := fun j => by
      unfold rwS
      rw [if_neg (by omega), if_pos rfl]
    have e8 : rwS σ Γ.2.2.1 a b c d e f g (33 + Γ.2.2.1) = fun j => if j = 0 then a else if j = 1 then b else if j = 2 then c else if j = 3 then d else if j = 4 then e else if j = 5 then f else if j = 6 then g else 0 := funext e9
    rw [e8]
    rfl
  rw [gU_ne cp]
  have hs : rwS σ Γ.2.2.1 a b c d e f g k = σ k := rwS_ne c3 cp
  unfold rX
  rw [hs]
  by_cases c0 : k = 0
  · subst c0
    rw [if_pos rfl, if_pos rfl]
    have hm : Lmo lay' (rwS σ Γ.2.2.1 a b c d e f g 0) = Lmo lay (σ 0) := by
      rw [rwS_ne (by omega) (by omega)]
      show [_, _, _, _, _, _, _, _, _, _, _, _, _] = _
      rw [hl 1 (by omega) (by omega), hl 2 (by omega) (by omega), hl 3 (by omega) (by omega), hl 7 (by omega) (by omega), hl 8 (by omega) (by omega), hl 9 (by omega) (by omega), hl 10 (by omega) (by omega), hl 11 (by omega) (by omega), hl 12 (by omega) (by omega)]
    rw [hm]
  rw [if_neg c0, if_neg c0]
  by_cases c1 : k = 1
  · subst c1
    rw [if_pos rfl, if_pos rfl, rwS_ne (by omega) (by omega)]
    unfold rL
    rw [hl 4 (by omega) (by omega)]
  rw [if_neg c1, if_neg c1]
  by_cases c2 : k = 2
  · subst c2
    rw [if_pos rfl, if_pos rfl, rwS_ne (by omega) (by omega)]
    unfold rL
    rw [hl 5 (by omega) (by omega)]
  rw [if_neg c2, if_neg c2, if_neg c3, if_neg c3]
  by_cases c4 : k = 4
  · rw [if_pos c4, if_pos c4]
    have e7 : (fun i => if i < Γ.1 then some (lay (13 + i)) else none) = fun i => if i < Γ.1 then some (lay' (13 + i)) else none := by
      funext i
      by_cases z : i < Γ.1
      · rw [if_pos z, if_pos z, hl (13 + i) (by omega) (by omega)]
      · rw [if_neg z, if_neg z]
    rw [e7]
  rw [if_neg c4, if_neg c4]
  by_cases c5 : k = 5
  · rw [if_pos c5, if_pos c5]
  rw [if_neg c5, if_neg c5, if_neg c6, if_neg c6]
  by_cases c7 : k < 11
  · rw [if_pos c7, if_pos c7]
  rw [if_neg c7, if_neg c7]
  by_cases c8 : k < 13
  · rw [if_pos c8, if_pos c8]
  rw [if_neg c8, if_neg c8]
  by_cases c9 : k < 23
  · rw [if_pos c9, if_pos c9, hl (23 + (k - 13)) (by omega) (by omega)]
  rw [if_neg c9, if_neg c9]
  by_cases c10 : k < 33
  · rw [if_pos c10, if_pos c10]
  rw [if_neg c10, if_neg c10]
  by_cases c11 : k < 47
  · rw [if_pos c11, if_pos c11]
    by_cases z : k - 33 < Γ.2.2.1
    · rw [if_pos z, if_pos (show k - 33 < Γ.2.2.1 + 1 by omega)]
    · rw [if_neg z, if_neg (show ¬ k - 33 < Γ.2.2.1 + 1 by omega)]
  rw [if_neg c11, if_neg c11]
  by_cases c12 : k < 64
  · rw [if_pos c12, if_pos c12]
  rw [if_neg c12, if_neg c12]
  rfl
end ADDW
theorem df_X10 : ∀ j, j < 12 → defaultValue (tyX10 j) = vp_V [.int 0, .int 0, .int 0, .int 0, .int 0, .int 0, .int 0, .int 0, .int 0, .int 0, .int 0, .int 0] j := by decide
abbrev rm_X11_ask : Room := { frames := 7, cells := 2, slots := 27, locals := 340 }
theorem i_X11_ask_X11 : ∀ w ∈ wsX110, w ∈ wsX11_ask := fun _ h => List.mem_cons_of_mem _ (List.mem_append_left _ (List.mem_append_left _ (List.mem_append_right _ h)))
theorem i_X11_ask_X10 : ∀ w ∈ wsX100, w ∈ wsX11_ask := fun _ h => List.mem_cons_of_mem _ (List.mem_append_left _ (List.mem_append_right _ h))
def w_X11_ask (lay : Nat → Nat) (Γ : RG) (post : Int32 → RY → Prop) (σ : MS) (a1 a2 a3 a4 a5 a6 : Int32) : Prop :=
  w_X11_isBand Γ (fun r σ1 => (r = 0 → w_X11_refuse Γ (fun x σ9 => post x (lay, Γ, σ9)) σ1 1) ∧ (¬ r = 0 → w_X11_isTown Γ (fun r σ2 => (r = 0 → w_X11_refuse Γ (fun x σ9 => post x (lay, Γ, σ9)) σ2 1) ∧ (¬ r = 0 → w_X11_isDay Γ (fun r σ3 => (r = 0 → w_X11_refuse Γ (fun x σ9 => post x (lay, Γ, σ9)) σ3 2) ∧ (¬ r = 0 → w_X11_is Γ (fun r σ4 => (r = 0 → w_X11_refuse Γ (fun x σ9 => post x (lay, Γ, σ9)) σ4 2) ∧ (¬ r = 0 → w_X11_is Γ (fun r σ5 => (r = 0 → w_X11_refuse Γ (fun x σ9 => post x (lay, Γ, σ9)) σ5 2) ∧ (¬ r = 0 → (24 < a4 + a5 → w_X11_refuse Γ (fun x σ9 => post x (lay, Γ, σ9)) σ5 2) ∧ (¬ 24 < a4 + a5 → w_X11_areSongs Γ (fun r σ6 => (r = 0 → w_X11_refuse Γ (fun x σ9 => post x (lay, Γ, σ9)) σ6 2) ∧ (¬ r = 0 → w_lw_Jx4a65c_size_8abf5 Γ (fun r σ7 => (r = 14 → w_X11_refuse Γ (fun x σ9 => post x (lay, Γ, σ9)) σ7 3) ∧ (¬ r = 14 → w_X11_isFixed Γ (fun r σ8 => (¬ r = 0 → w_X11_refuse Γ (fun x σ9 => post x (lay, Γ, σ9)) σ8 3) ∧ (r = 0 → Γ.2.2.1 < 14 ∧ σ8 3 2 = nI Γ.2.2.1 ∧ ∀ lay', post (nI Γ.2.2.1) (lay', (Γ.1, Γ.2.1, Γ.2.2.1 + 1, Γ.2.2.2), rwS σ8 Γ.2.2.1 a1 a2 a3 a4 a5 a6 (σ8 0 1)))) σ7 a1 a2)) σ6)) σ5 a6))) σ4 a5 1 6)) σ3 a4 10 22)) σ2 a2)) σ1 a3)) (up2 σ 0 0 0) a1
set_option maxHeartbeats 4000000 in
set_option maxRecDepth 100000 in
theorem c_X11_ask (l : Launch) (D : va_G) (cy : Nat → ClassId) (lay : Nat → Nat) (Γ : RG) (mi : Nat) {z9 : Nat} (hz9 : lay 0 = z9) {σ : MS} {post : Int32 → RY → Prop} {a1 a2 a3 a4 a5 a6 : Int32} (h : w_X11_ask lay Γ post σ a1 a2 a3 a4 a5 a6) (sz : Nat) : Met l yX11_ask wsX11_ask rm_X11_ask (va_Pc [.ref (lay 0), .int a1, .int a2, .int a3, .int a4, .int a5, .int a6] (rIK D cy lay Γ σ mi sz)) (va_Qi post (rOz z9 D cy (rA cy lay Γ sz)) (rA cy lay Γ sz)) 2 27 (rA cy lay Γ sz) := by
  refine rk_ofW (cc := cX11_ask) (maxL := 8) (ret := some .int) (own := RX11) (Qc := fun sz => va_Qi post (rOz z9 D cy (rA cy lay Γ sz)) (rA cy lay Γ sz)) (by decide) rfl (Nat.le_of_ble_eq_true rfl) rfl ?_
  intro p e0 s m args below meth c ls hC hr hlocks hT hZ G hl
  unfold w_X11_ask at h
  have hl : lv_has ls 8 [(0, .ref (lay 0)), (1, .int a1), (2, .int a2), (3, .int a3), (4, .int a4), (5, .int a5), (6, .int a6)] := hl
  refine lv_aload_n hC.1 hC.2.1 dX11_ask_0 rfl (lv_at hl 0 rfl) ?_
  refine lv_iconst (v := 0) hC.1 hC.2.1 dX11_ask_1 (by decide) ?_
  refine rg_put hC hT G (by decide) r_mo k_X11 i_X11_ask_X11 0 (by decide) (wm 1 rfl) rfl rfl (by simp) r_mo (by rw [up2_eq]; rfl) dX11_ask_2 (fun H locs G => ?_)
  refine lv_aload_n hC.1 hC.2.1 dX11_ask_5 rfl (lv_at hl 0 rfl) ?_
  refine lv_iload_n hC.1 hC.2.1 dX11_ask_6 rfl (lv_at hl 1 rfl) ?_
  refine rg_i G (rg_runV (As := [.int a1]) (rest := []) hC hT G (c_X11_isBand l D cy lay Γ h _) (cwV 1 hC.2.2.2.2 gX11_ask_X11_isBand rfl rfl rfl hdV_X11_isBand ⟨Nat.le_of_ble_eq_true rfl, Nat.le_of_ble_eq_true rfl⟩) (rg_recv hT G (by decide) r_mo k_X11) rfl hl.1 rfl (Nat.le_of_ble_eq_true rfl) dX11_ask_7 ⟨Nat.le_of_ble_eq_true rfl, Nat.le_of_ble_eq_true rfl⟩) (fun r1 σ1 H locs h G => ?_)
  (try dsimp only at h)
  refine lv_if_eq (tgt := 20) hC.1 hC.2.1 dX11_ask_10 (by decide) (fun c1 => ?_) (fun c1 => ?_)
  · replace h := h.1 c1
    refine lv_aload_n hC.1 hC.2.1 dX11_ask_20 rfl (lv_at hl 0 rfl) ?_
    refine lv_iconst (v := 1) hC.1 hC.2.1 dX11_ask_21 (by decide) ?_
    refine rg_i G (rg_runV (As := [.int 1]) (rest := []) hC hT G (c_X11_refuse l D cy lay Γ h _) (cwV 1 hC.2.2.2.2 gX11_ask_X11_refuse rfl rfl rfl hdV_X11_refuse ⟨Nat.le_of_ble_eq_true rfl, Nat.le_of_ble_eq_true rfl⟩) (rg_recv hT G (by decide) r_mo k_X11) rfl hl.1 rfl (Nat.le_of_ble_eq_true rfl) dX11_ask_22 ⟨Nat.le_of_ble_eq_true rfl, Nat.le_of_ble_eq_true rfl⟩) (fun r9 σ9 H locs h G => ?_)
    refine W.widen (k := 2) (n := 27) (by decide) (by decide) ?_
    exact rk_iretz hz9 (Y := (lay, Γ, σ9)) hC hr hlocks G (rS_grow hT.2.2.1 G rfl rfl) hT.2.2.2 h dX11_ask_25
  replace h := h.2 c1
  refine lv_iload_n hC.1 hC.2.1 dX11_ask_13 rfl (lv_at hl 3 rfl) ?_
  refine rg_i G (rg_runS (As := [.int a3]) (rest := []) hC hT G (c_X11_isTown l D cy lay Γ h _) (va_cwS 1 hC.2.2.2.2 gX11_ask_X11_isTown rfl rfl rfl hdS_X11_isTown ⟨Nat.le_of_ble_eq_true rfl, Nat.le_of_ble_eq_true rfl⟩) rfl hl.1 rfl (Nat.le_of_ble_eq_true rfl) dX11_ask_14 ⟨Nat.le_of_ble_eq_true rfl, Nat.le_of_ble_eq_true rfl⟩) (fun r2 σ2 H locs h G => ?_)
  (try dsimp only at h)
  refine lv_if_ne (tgt := 26) hC.1 hC.2.1 dX11_ask_17 (by decide) (fun c2 => ?_) (fun c2 => ?_)
  rotate_left
  · replace h := h.1 c2
    refine lv_aload_n hC.1 hC.2.1 dX11_ask_20 rfl (lv_at hl 0 rfl) ?_
    refine lv_iconst (v := 1) hC.1 hC.2.1 dX11_ask_21 (by decide) ?_
    refine rg_i G (rg_runV (As := [.int 1]) (rest := []) hC hT G (c_X11_refuse l D cy lay Γ h _) (cwV 1 hC.2.2.2.2 gX11_ask_X11_refuse rfl rfl rfl hdV_X11_refuse ⟨Nat.le_of_ble_eq_true rfl, Nat.le_of_ble_eq_true rfl⟩) (rg_recv hT G (by decide) r_mo k_X11) rfl hl.1 rfl (Nat.le_of_ble_eq_true rfl) dX11_ask_22 ⟨Nat.le_of_ble_eq_true rfl, Nat.le_of_ble_eq_true rfl⟩) (fun r9 σ9 H locs h G => ?_)
    refine W.widen (k := 2) (n := 27) (by decide) (by decide) ?_
    exact rk_iretz hz9 (Y := (lay, Γ, σ9)) hC hr hlocks G (rS_grow hT.2.2.1 G rfl rfl) hT.2.2.2 h dX11_ask_25
  replace h := h.2 c2
  refine lv_aload_n hC.1 hC.2.1 dX11_ask_26 rfl (lv_at hl 0 rfl) ?_
  refine lv_iload_n hC.1 hC.2.1 dX11_ask_27 rfl (lv_at hl 2 rfl) ?_
  refine rg_i G (rg_runV (As := [.int a2]) (rest := []) hC hT G (c_X11_isDay l D cy lay Γ h _) (cwV 1 hC.2.2.2.2 gX11_ask_X11_isDay rfl rfl rfl hdV_X11_isDay ⟨Nat.le_of_ble_eq_true rfl, Nat.le_of_ble_eq_true rfl⟩) (rg_recv hT G (by decide) r_mo k_X11) rfl hl.1 rfl (Nat.le_of_ble_eq_true rfl) dX11_ask_28 ⟨Nat.le_of_ble_eq_true rfl, Nat.le_of_ble_eq_true rfl⟩) (fun r3 σ3 H locs h G => ?_)
  (try dsimp only at h)
  refine lv_if_eq (tgt := 76) hC.1 hC.2.1 dX11_ask_31 (by decide) (fun c3 => ?_) (fun c3 => ?_)
  · replace h := h.1 c3
    refine lv_aload_n hC.1 hC.2.1 dX11_ask_76 rfl (lv_at hl 0 rfl) ?_
    refine lv_iconst (v := 2) hC.1 hC.2.1 dX11_ask_77 (by decide) ?_
    refine rg_i G (rg_runV (As := [.int 2]) (rest := []) hC hT G (c_X11_refuse l D cy lay Γ h _) (cwV 1 hC.2.2.2.2 gX11_ask_X11_refuse rfl rfl rfl hdV_X11_refuse ⟨Nat.le_of_ble_eq_true rfl, Nat.le_of_ble_eq_true rfl⟩) (rg_recv hT G (by decide) r_mo k_X11) rfl hl.1 rfl (Nat.le_of_ble_eq_true rfl) dX11_ask_78 ⟨Nat.le_of_ble_eq_true rfl, Nat.le_of_ble_eq_true rfl⟩) (fun r9 σ9 H locs h G => ?_)
    refine W.widen (k := 2) (n := 27) (by decide) (by decide) ?_
    exact rk_iretz hz9 (Y := (lay, Γ, σ9)) hC hr hlocks G (rS_grow hT.2.2.1 G rfl rfl) hT.2.2.2 h dX11_ask_81
  replace h := h.2 c3
  refine lv_iload hC.1 hC.2.1 dX11_ask_34 (lv_at hl 4 rfl) ?_
  refine lv_bipush (v := 10) hC.1 hC.2.1 dX11_ask_36 (by decide) ?_
  refine lv_bipush (v := 22) hC.1 hC.2.1 dX11_ask_38 (by decide) ?_
  refine rg_i G (rg_runS (As := [.int a4, .int 10, .int 22]) (rest := []) hC hT G (c_X11_is l D cy lay Γ h _) (va_cwS 3 hC.2.2.2.2 gX11_ask_X11_is rfl rfl rfl hdS_X11_is ⟨Nat.le_of_ble_eq_true rfl, Nat.le_of_ble_eq_true rfl⟩) rfl hl.1 rfl (Nat.le_of_ble_eq_true rfl) dX11_ask_40 ⟨Nat.le_of_ble_eq_true rfl, Nat.le_of_ble_eq_true rfl⟩) (fun r4 σ4 H locs h G => ?_)
  (try dsimp only at h)
  refine lv_if_eq (tgt := 76) hC.1 hC.2.1 dX11_ask_43 (by decide) (fun c4 => ?_) (fun c4 => ?_)
  · replace h := h.1 c4
    refine lv_aload_n hC.1 hC.2.1 dX11_ask_76 rfl (lv_at hl 0 rfl) ?_
    refine lv_iconst (v := 2) hC.1 hC.2.1 dX11_ask_77 (by decide) ?_
    refine rg_i G (rg_runV (As := [.int 2]) (rest := []) hC hT G (c_X11_refuse l D cy lay Γ h _) (cwV 1 hC.2.2.2.2 gX11_ask_X11_refuse rfl rfl rfl hdV_X11_refuse ⟨Nat.le_of_ble_eq_true rfl, Nat.le_of_ble_eq_true rfl⟩) (rg_recv hT G (by decide) r_mo k_X11) rfl hl.1 rfl (Nat.le_of_ble_eq_true rfl) dX11_ask_78 ⟨Nat.le_of_ble_eq_true rfl, Nat.le_of_ble_eq_true rfl⟩) (fun r9 σ9 H locs h G => ?_)
    refine W.widen (k := 2) (n := 27) (by decide) (by decide) ?_
    exact rk_iretz hz9 (Y := (lay, Γ, σ9)) hC hr hlocks G (rS_grow hT.2.2.1 G rfl rfl) hT.2.2.2 h dX11_ask_81
  replace h := h.2 c4
  refine lv_iload hC.1 hC.2.1 dX11_ask_46 (lv_at hl 5 rfl) ?_
  refine lv_iconst (v := 1) hC.1 hC.2.1 dX11_ask_48 (by decide) ?_
  refine lv_bipush (v := 6) hC.1 hC.2.1 dX11_ask_49 (by decide) ?_
  refine rg_i G (rg_runS (As := [.int a5, .int 1, .int 6]) (rest := []) hC hT G (c_X11_is l D cy lay Γ h _) (va_cwS 3 hC.2.2.2.2 gX11_ask_X11_is rfl rfl rfl hdS_X11_is ⟨Nat.le_of_ble_eq_true rfl, Nat.le_of_ble_eq_true rfl⟩) rfl hl.1 rfl (Nat.le_of_ble_eq_true rfl) dX11_ask_51 ⟨Nat.le_of_ble_eq_true rfl, Nat.le_of_ble_eq_true rfl⟩) (fun r5 σ5 H locs h G => ?_)
  (try dsimp only at h)
  refine lv_if_eq (tgt := 76) hC.1 hC.2.1 dX11_ask_54 (by decide) (fun c5 => ?_) (fun c5 => ?_)
  · replace h := h.1 c5
    refine lv_aload_n hC.1 hC.2.1 dX11_ask_76 rfl (lv_at hl 0 rfl) ?_
    refine lv_iconst (v := 2) hC.1 hC.2.1 dX11_ask_77 (by decide) ?_
    refine rg_i G (rg_runV (As := [.int 2]) (rest := []) hC hT G (c_X11_refuse l D cy lay Γ h _) (cwV 1 hC.2.2.2.2 gX11_ask_X11_refuse rfl rfl rfl hdV_X11_refuse ⟨Nat.le_of_ble_eq_true rfl, Nat.le_of_ble_eq_true rfl⟩) (rg_recv hT G (by decide) r_mo k_X11) rfl hl.1 rfl (Nat.le_of_ble_eq_true rfl) dX11_ask_78 ⟨Nat.le_of_ble_eq_true rfl, Nat.le_of_ble_eq_true rfl⟩) (fun r9 σ9 H locs h G => ?_)
    refine W.widen (k := 2) (n := 27) (by decide) (by decide) ?_
    exact rk_iretz hz9 (Y := (lay, Γ, σ9)) hC hr hlocks G (rS_grow hT.2.2.1 G rfl rfl) hT.2.2.2 h dX11_ask_81
  replace h := h.2 c5
  refine lv_iload hC.1 hC.2.1 dX11_ask_57 (lv_at hl 4 rfl) ?_
  refine lv_iload hC.1 hC.2.1 dX11_ask_59 (lv_at hl 5 rfl) ?_
  refine lv_iadd hC.1 hC.2.1 dX11_ask_61 ?_
  refine lv_bipush (v := 24) hC.1 hC.2.1 dX11_ask_62 (by decide) ?_
  refine lv_icmp_gt (tgt := 76) hC.1 hC.2.1 dX11_ask_64 (by decide) (fun c6 => ?_) (fun c6 => ?_)
  · replace h := h.1 c6
    refine lv_aload_n hC.1 hC.2.1 dX11_ask_76 rfl (lv_at hl 0 rfl) ?_
    refine lv_iconst (v := 2) hC.1 hC.2.1 dX11_ask_77 (by decide) ?_
    refine rg_i G (rg_runV (As := [.int 2]) (rest := []) hC hT G (c_X11_refuse l D cy lay Γ h _) (cwV 1 hC.2.2.2.2 gX11_ask_X11_refuse rfl rfl rfl hdV_X11_refuse ⟨Nat.le_of_ble_eq_true rfl, Nat.le_of_ble_eq_true rfl⟩) (rg_recv hT G (by decide) r_mo k_X11) rfl hl.1 rfl (Nat.le_of_ble_eq_true rfl) dX11_ask_78 ⟨Nat.le_of_ble_eq_true rfl, Nat.le_of_ble_eq_true rfl⟩) (fun r9 σ9 H locs h G => ?_)
    refine W.widen (k := 2) (n := 27) (by decide) (by decide) ?_
    exact rk_iretz hz9 (Y := (lay, Γ, σ9)) hC hr hlocks G (rS_grow hT.2.2.1 G rfl rfl) hT.2.2.2 h dX11_ask_81
  replace h := h.2 c6
  refine lv_aload_n hC.1 hC.2.1 dX11_ask_67 rfl (lv_at hl 0 rfl) ?_
  refine lv_iload hC.1 hC.2.1 dX11_ask_68 (lv_at hl 6 rfl) ?_
  refine rg_i G (rg_runV (As := [.int a6]) (rest := []) hC hT G (c_X11_areSongs l D cy lay Γ h _) (cwV 1 hC.2.2.2.2 gX11_ask_X11_areSongs rfl rfl rfl hdV_X11_areSongs ⟨Nat.le_of_ble_eq_true rfl, Nat.le_of_ble_eq_true rfl⟩) (rg_recv hT G (by decide) r_mo k_X11) rfl hl.1 rfl (Nat.le_of_ble_eq_true rfl) dX11_ask_70 ⟨Nat.le_of_ble_eq_true rfl, Nat.le_of_ble_eq_true rfl⟩) (fun r6 σ6 H locs h G => ?_)
  (try dsimp only at h)
  refine lv_if_ne (tgt := 82) hC.1 hC.2.1 dX11_ask_73 (by decide) (fun c7 => ?_) (fun c7 => ?_)
  rotate_left
  · replace h := h.1 c7
    refine lv_aload_n hC.1 hC.2.1 dX11_ask_76 rfl (lv_at hl 0 rfl) ?_
    refine lv_iconst (v := 2) hC.1 hC.2.1 dX11_ask_77 (by decide) ?_
    refine rg_i G (rg_runV (As := [.int 2]) (rest := []) hC hT G (c_X11_refuse l D cy lay Γ h _) (cwV 1 hC.2.2.2.2 gX11_ask_X11_refuse rfl rfl rfl hdV_X11_refuse ⟨Nat.le_of_ble_eq_true rfl, Nat.le_of_ble_eq_true rfl⟩) (rg_recv hT G (by decide) r_mo k_X11) rfl hl.1 rfl (Nat.le_of_ble_eq_true rfl) dX11_ask_78 ⟨Nat.le_of_ble_eq_true rfl, Nat.le_of_ble_eq_true rfl⟩) (fun r9 σ9 H locs h G => ?_)
    refine W.widen (k := 2) (n := 27) (by decide) (by decide) ?_
    exact rk_iretz hz9 (Y := (lay, Γ, σ9)) hC hr hlocks G (rS_grow hT.2.2.1 G rfl rfl) hT.2.2.2 h dX11_ask_81
  replace h := h.2 c7
  refine lv_aload_n hC.1 hC.2.1 dX11_ask_82 rfl (lv_at hl 0 rfl) ?_
  refine rg_get hC hT G (by decide) r_mo k_X11 i_X11_ask_X11 5 (by decide) (wm 2 rfl) rfl dX11_ask_83 ?_
  refine rg_i G (rg_runV (As := []) (rest := []) hC hT G (c_lw_Jx4a65c_size_8abf5 l D cy lay Γ h _) (cwV 0 hC.2.2.2.2 gX11_ask_Jx4a65c_size_8abf5 rfl rfl rfl hdV_Jx4a65c_size_8abf5 ⟨Nat.le_of_ble_eq_true rfl, Nat.le_of_ble_eq_true rfl⟩) (rg_recv hT G (by decide) r_lw k_AL) rfl hl.1 rfl (Nat.le_of_ble_eq_true rfl) dX11_ask_86 ⟨Nat.le_of_ble_eq_true rfl, Nat.le_of_ble_eq_true rfl⟩) (fun r7 σ7 H locs h G => ?_)
  (try dsimp only at h)
  refine lv_bipush (v := 14) hC.1 hC.2.1 dX11_ask_89 (by decide) ?_
  refine lv_icmp_eq (tgt := 103) hC.1 hC.2.1 dX11_ask_91 (by decide) (fun c8 => ?_) (fun c8 => ?_)
  · replace h := h.1 c8
    refine lv_aload_n hC.1 hC.2.1 dX11_ask_103 rfl (lv_at hl 0 rfl) ?_
    refine lv_iconst (v := 3) hC.1 hC.2.1 dX11_ask_104 (by decide) ?_
    refine rg_i G (rg_runV (As := [.int 3]) (rest := []) hC hT G (c_X11_refuse l D cy lay Γ h _) (cwV 1 hC.2.2.2.2 gX11_ask_X11_refuse rfl rfl rfl hdV_X11_refuse ⟨Nat.le_of_ble_eq_true rfl, Nat.le_of_ble_eq_true rfl⟩) (rg_recv hT G (by decide) r_mo k_X11) rfl hl.1 rfl (Nat.le_of_ble_eq_true rfl) dX11_ask_105 ⟨Nat.le_of_ble_eq_true rfl, Nat.le_of_ble_eq_true rfl⟩) (fun r9 σ9 H locs h G => ?_)
    refine W.widen (k := 2) (n := 27) (by decide) (by decide) ?_
    exact rk_iretz hz9 (Y := (lay, Γ, σ9)) hC hr hlocks G (rS_grow hT.2.2.1 G rfl rfl) hT.2.2.2 h dX11_ask_108
  replace h := h.2 c8
  refine lv_aload_n hC.1 hC.2.1 dX11_ask_94 rfl (lv_at hl 0 rfl) ?_
  refine lv_iload_n hC.1 hC.2.1 dX11_ask_95 rfl (lv_at hl 1 rfl) ?_
  refine lv_iload_n hC.1 hC.2.1 dX11_ask_96 rfl (lv_at hl 2 rfl) ?_
  refine rg_i G (rg_runV (As := [.int a1, .int a2]) (rest := []) hC hT G (c_X11_isFixed l D cy lay Γ h _) (cwV 2 hC.2.2.2.2 gX11_ask_X11_isFixed rfl rfl rfl hdV_X11_isFixed ⟨Nat.le_of_ble_eq_true rfl, Nat.le_of_ble_eq_true rfl⟩) (rg_recv hT G (by decide) r_mo k_X11) rfl hl.1 rfl (Nat.le_of_ble_eq_true rfl) dX11_ask_97 ⟨Nat.le_of_ble_eq_true rfl, Nat.le_of_ble_eq_true rfl⟩) (fun r8 σ8 H locs h G => ?_)
  (try dsimp only at h)
  refine lv_if_eq (tgt := 109) hC.1 hC.2.1 dX11_ask_100 (by decide) (fun c9 => ?_) (fun c9 => ?_)
  rotate_left
  · replace h := h.1 c9
    refine lv_aload_n hC.1 hC.2.1 dX11_ask_103 rfl (lv_at hl 0 rfl) ?_
    refine lv_iconst (v := 3) hC.1 hC.2.1 dX11_ask_104 (by decide) ?_
    refine rg_i G (rg_runV (As := [.int 3]) (rest := []) hC hT G (c_X11_refuse l D cy lay Γ h _) (cwV 1 hC.2.2.2.2 gX11_ask_X11_refuse rfl rfl rfl hdV_X11_refuse ⟨Nat.le_of_ble_eq_true rfl, Nat.le_of_ble_eq_true rfl⟩) (rg_recv hT G (by decide) r_mo k_X11) rfl hl.1 rfl (Nat.le_of_ble_eq_true rfl) dX11_ask_105 ⟨Nat.le_of_ble_eq_true rfl, Nat.le_of_ble_eq_true rfl⟩) (fun r9 σ9 H locs h G => ?_)
    refine W.widen (k := 2) (n := 27) (by decide) (by decide) ?_
    exact rk_iretz hz9 (Y := (lay, Γ, σ9)) hC hr hlocks G (rS_grow hT.2.2.1 G rfl rfl) hT.2.2.2 h dX11_ask_108
  replace h := h.2 c9
  obtain ⟨hP, hsz, h⟩ := h
  have hA : ∀ q, s.heap.size ≤ q → rA cy lay Γ s.heap.size q := fun _ h => Or.inr h
  have hG1 : Γ.1 ≤ 10 := hT.2.2.2.1
  refine g_new (k := 33 + Γ.2.2.1) (fs := [.int 0, .int 0, .int 0, .int 0, .int 0, .int 0, .int 0, .int 0, .int 0, .int 0, .int 0, .int 0]) hC hT.1 G hA (r_no_wd hP) k_X10 i_X11_ask_X10 (wm 3 rfl) (wm 4 rfl) (wm 5 rfl) df_X10 (Nat.le_of_ble_eq_true rfl) (Nat.le_of_ble_eq_true rfl) dX11_ask_109 (fun q H G => ?_)
  have eq0 : gU lay (33 + Γ.2.2.1) q (33 + Γ.2.2.1) = q := gU_eq
  rw [eq0]
  refine lv_dup hC.1 hC.2.1 dX11_ask_112 rfl ?_
  refine g_v G hA (h_runIN (host := RX11) (b := gU lay (33 + Γ.2.2.1) q (33 + Γ.2.2.1)) (As := []) (rest := [.ref q]) hC ⟨hT.1, hT.2.1⟩ G (c_X10_init l D cy _ _ (k := 33 + Γ.2.2.1) _) ⟨va_cnB 0 hC.2.2.2.2 ggX11_ask_X10_init rfl rfl rfl (hT.2.1.1 _ (wm 9 rfl)) (hC.2.2.2.2 (.initialized RX10) (wm 5 rfl)) hdI_X10 ⟨Nat.le_of_ble_eq_true rfl, Nat.le_of_ble_eq_true rfl⟩, rfl, hC.2.2.2.2 (.instanceMethod yX10_init) (wm 60 rfl)⟩ rfl hl.1 (by rw [eq0]; rfl) (Nat.le_of_ble_eq_true rfl) dX11_ask_113 ⟨Nat.le_of_ble_eq_true rfl, Nat.le_of_ble_eq_true rfl⟩) (fun Y H locs hY G => ?_)
  subst hY
  obtain ⟨L, e1, el, G⟩ : ∃ L : Nat → Nat, L (33 + Γ.2.2.1) = q ∧ (∀ k, k ≠ 33 + Γ.2.2.1 → L k = lay k) ∧ gG D L (gU (rX cy lay Γ tn σ8) (33 + Γ.2.2.1) (some (wdE 0 0 0 0 0 0 0))) (rA cy lay Γ s.heap.size) s.heap H locs :=
    ⟨gU lay (33 + Γ.2.2.1) q, gU_eq, fun k a => gU_ne a, G⟩
  have x0 : ∀ {a b c d e f g : Int32}, (gU (rX cy lay Γ tn σ8) (33 + Γ.2.2.1) (some (wdE a b c d e f g))) 0 = some (.inr (16, Lmo lay (σ8 0))) := (gU_ne (by omega)).trans r_mo
  refine lv_astore (lv' := [(7, .ref q), (0, .ref (lay 0)), (1, .int a1), (2, .int a2), (3, .int a3), (4, .int a4), (5, .int a5), (6, .int a6)]) hC.1 hC.2.1 dX11_ask_116 hl (by decide) rfl (fun ls hl => ?_)
  refine lv_aload hC.1 hC.2.1 dX11_ask_118 (lv_at hl 0 rfl) ?_
  refine lv_iload_n hC.1 hC.2.1 dX11_ask_120 rfl (lv_at hl 2 rfl) ?_
  refine g_putNA (host := RX11) e1 hC hT.1 G (by omega) gU_eq k_X10 i_X11_ask_X10 0 (by decide) (nest_use _ (nestR_ok _ (wm 10 rfl)) (hT.2.1.1 _ (wm 10 rfl))) rfl rfl rfl (by simp) dX11_ask_121 (fun H locs G => ?_)
  have G : gG D L (gU (rX cy lay Γ tn σ8) (33 + Γ.2.2.1) (some (wdE a1 0 0 0 0 0 0))) (rA cy lay Γ s.heap.size) s.heap H locs := gG_up2 G
  refine lv_aload hC.1 hC.2.1 dX11_ask_124 (lv_at hl 0 rfl) ?_
  refine lv_iload_n hC.1 hC.2.1 dX11_ask_126 rfl (lv_at hl 3 rfl) ?_
  refine g_putNA (host := RX11) e1 hC hT.1 G (by omega) gU_eq k_X10 i_X11_ask_X10 1 (by decide) (nest_use _ (nestR_ok _ (wm 11 rfl)) (hT.2.1.1 _ (wm 11 rfl))) rfl rfl rfl (by simp) dX11_ask_127 (fun H locs G => ?_)
  have G : gG D L (gU (rX cy lay Γ tn σ8) (33 + Γ.2.2.1) (some (wdE a1 a2 0 0 0 0 0))) (rA cy lay Γ s.heap.size) s.heap H locs := gG_up2 G
  refine lv_aload hC.1 hC.2.1 dX11_ask_130 (lv_at hl 0 rfl) ?_
  refine lv_iload_n hC.1 hC.2.1 dX11_ask_132 rfl (lv_at hl 4 rfl) ?_
  refine g_putNA (host := RX11) e1 hC hT.1 G (by omega) gU_eq k_X10 i_X11_ask_X10 2 (by decide) (nest_use _ (nestR_ok _ (wm 12 rfl)) (hT.2.1.1 _ (wm 12 rfl))) rfl rfl rfl (by simp) dX11_ask_133 (fun H locs G => ?_)
  have G : gG D L (gU (rX cy lay Γ tn σ8) (33 + Γ.2.2.1) (some (wdE a1 a2 a3 0 0 0 0))) (rA cy lay Γ s.heap.size) s.heap H locs := gG_up2 G
  refine lv_aload hC.1 hC.2.1 dX11_ask_136 (lv_at hl 0 rfl) ?_
  refine lv_iload hC.1 hC.2.1 dX11_ask_138 (lv_at hl 5 rfl) ?_
  refine g_putNA (host := RX11) e1 hC hT.1 G (by omega) gU_eq k_X10 i_X11_ask_X10 3 (by decide) (nest_use _ (nestR_ok _ (wm 13 rfl)) (hT.2.1.1 _ (wm 13 rfl))) rfl rfl rfl (by simp) dX11_ask_140 (fun H locs G => ?_)
  have G : gG D L (gU (rX cy lay Γ tn σ8) (33 + Γ.2.2.1) (some (wdE a1 a2 a3 a4 0 0 0))) (rA cy lay Γ s.heap.size) s.heap H locs := gG_up2 G
  refine lv_aload hC.1 hC.2.1 dX11_ask_143 (lv_at hl 0 rfl) ?_
  refine lv_iload hC.1 hC.2.1 dX11_ask_145 (lv_at hl 6 rfl) ?_
  refine g_putNA (host := RX11) e1 hC hT.1 G (by omega) gU_eq k_X10 i_X11_ask_X10 4 (by decide) (nest_use _ (nestR_ok _ (wm 14 rfl)) (hT.2.1.1 _ (wm 14 rfl))) rfl rfl rfl (by simp) dX11_ask_147 (fun H locs G => ?_)
  have G : gG D L (gU (rX cy lay Γ tn σ8) (33 + Γ.2.2.1) (some (wdE a1 a2 a3 a4 a5 0 0))) (rA cy lay Γ s.heap.size) s.heap H locs := gG_up2 G
  refine lv_aload hC.1 hC.2.1 dX11_ask_150 (lv_at hl 0 rfl) ?_
  refine lv_iload hC.1 hC.2.1 dX11_ask_152 (lv_at hl 7 rfl) ?_
  refine g_putNA (host := RX11) e1 hC hT.1 G (by omega) gU_eq k_X10 i_X11_ask_X10 5 (by decide) (nest_use _ (nestR_ok _ (wm 15 rfl)) (hT.2.1.1 _ (wm 15 rfl))) rfl rfl rfl (by simp) dX11_ask_154 (fun H locs G => ?_)
  have G : gG D L (gU (rX cy lay Γ tn σ8) (33 + Γ.2.2.1) (some (wdE a1 a2 a3 a4 a5 a6 0))) (rA cy lay Γ s.heap.size) s.heap H locs := gG_up2 G
  refine lv_aload hC.1 hC.2.1 dX11_ask_157 (lv_at hl 0 rfl) ?_
  refine lv_aload_n hC.1 hC.2.1 dX11_ask_159 rfl (lv_at hl 1 rfl) ?_
  rw [show lay 0 = L 0 from (el 0 (by omega)).symm]
  refine g_get (k := 0) hC hT.1 G (by decide) x0 k_X11 i_X11_ask_X11 1 (by decide) (wm 6 rfl) rfl dX11_ask_160 ?_
  refine g_putNA (host := RX11) e1 hC hT.1 G (by omega) gU_eq k_X10 i_X11_ask_X10 6 (by decide) (nest_use _ (nestR_ok _ (wm 16 rfl)) (hT.2.1.1 _ (wm 16 rfl))) rfl rfl rfl (by simp) dX11_ask_163 (fun H locs G => ?_)
  have G : gG D L (gU (rX cy lay Γ tn σ8) (33 + Γ.2.2.1) (some (wdE a1 a2 a3 a4 a5 a6 (σ8 0 1)))) (rA cy lay Γ s.heap.size) s.heap H locs := gG_up2 G
  have fin : ∀ (L' : Nat → Nat) (H : Heap) (locs : List Loc), L' 0 = lay 0 → gG D L' (rX cy L' (Γ.1, Γ.2.1, Γ.2.2.1 + 1, Γ.2.2.2) tn (rwS σ8 Γ.2.2.1 a1 a2 a3 a4 a5 a6 (σ8 0 1))) (rA cy lay Γ s.heap.size) s.heap H locs → W p l e0 rm_X11_ask s m args below meth c H locs 2 27 (MQ below (va_Qi post (rOz z9 D cy (rA cy lay Γ s.heap.size)) (rA cy lay Γ s.heap.size)) args s 2 27 (rA cy lay Γ s.heap.size)) (F0 m 175 ls [.int 1]) := by
    intro L' H locs z0 G
    refine lv_pop hC.1 hC.2.1 dX11_ask_175 rfl ?_
    refine lv_aload_n hC.1 hC.2.1 dX11_ask_176 rfl (lv_at hl 1 rfl) ?_
    rw [← z0]
    refine g_get (k := 0) hC hT.1 G (by decide) r_mo k_X11 i_X11_ask_X11 5 (by decide) (wm 2 rfl) rfl dX11_ask_177 ?_
    refine g_i G hA (h_runV (As := []) (rest := []) hC ⟨hT.1, hT.2.1⟩ G (c_gsz l D cy L' _ (k := 3) (by decide) r_lw _) (cwV 0 hC.2.2.2.2 gX11_ask_Jx4a65c_size_8abf5 rfl rfl rfl hdV_Jx4a65c_size_8abf5 ⟨Nat.le_of_ble_eq_true rfl, Nat.le_of_ble_eq_true rfl⟩) (h_recv (k := 3) ⟨hT.1, hT.2.1⟩ G (by decide) r_lw k_AL) rfl hl.1 rfl (Nat.le_of_ble_eq_true rfl) dX11_ask_180 ⟨Nat.le_of_ble_eq_true rfl, Nat.le_of_ble_eq_true rfl⟩) (fun r Y H locs hY G => ?_)
    obtain ⟨rfl, rfl⟩ := hY
    refine lv_iconst (v := 1) hC.1 hC.2.1 dX11_ask_183 (by decide) ?_
    refine lv_isub hC.1 hC.2.1 dX11_ask_184 ?_
    rw [show (rwS σ8 Γ.2.2.1 a1 a2 a3 a4 a5 a6 (σ8 0 1)) 3 2 = nI (Γ.2.2.1 + 1) from rfl, nI_pred]
    exact rk_iretz (z0.trans hz9) (Y := (L', (Γ.1, Γ.2.1, Γ.2.2.1 + 1, Γ.2.2.2), (rwS σ8 Γ.2.2.1 a1 a2 a3 a4 a5 a6 (σ8 0 1)))) hC hr hlocks G (rS_grow hT.2.2.1 G rfl rfl) ⟨hT.2.2.2.1, hT.2.2.2.2.1, by show Γ.2.2.1 + 1 ≤ 14; omega⟩ (h L') dX11_ask_185
  refine lv_aload_n hC.1 hC.2.1 dX11_ask_166 rfl (lv_at hl 1 rfl) ?_
  rw [show lay 0 = L 0 from (el 0 (by omega)).symm]
  refine g_get (k := 0) hC hT.1 G (by decide) x0 k_X11 i_X11_ask_X11 5 (by decide) (wm 2 rfl) rfl dX11_ask_167 ?_
  refine lv_aload hC.1 hC.2.1 dX11_ask_170 (lv_at hl 0 rfl) ?_
  have el1 : L 3 = lay 3 := el 3 (by omega)
  have hnot : ∀ i, i < Γ.2.2.1 → (gU (rX cy lay Γ tn σ8) (33 + Γ.2.2.1) (some (wdE a1 a2 a3 a4 a5 a6 (σ8 0 1)))) (33 + i) = some (.inr (15, L12 (σ8 (33 + i)))) := fun i hi => (gU_ne (by omega)).trans (r_wd ⟨by omega, hi⟩)
  by_cases hP0 : Γ.2.2.1 = 0
  · have x1 : (gU (rX cy lay Γ tn σ8) (33 + Γ.2.2.1) (some (wdE a1 a2 a3 a4 a5 a6 (σ8 0 1)))) 3 = some (.inr (4, [.int (σ8 3 0), .ref Γ.2.2.2.1, .int 0])) := (gU_ne (by omega)).trans (by rw [r_lw, if_pos hP0, hsz, hP0]; rfl)
    have x4 : (gU (rX cy lay Γ tn σ8) (33 + Γ.2.2.1) (some (wdE a1 a2 a3 a4 a5 a6 (σ8 0 1)))) 6 = none := (gU_ne (by omega)).trans (r_no_ew hP0)
    refine g_i G hA (k_runV (b := L 3) (As := [.ref (L (33 + Γ.2.2.1))]) (rest := []) hC ⟨hT.1, hT.2.1⟩ hZ hA G (c_add_0 l D cy L (gU (rX cy lay Γ tn σ8) (33 + Γ.2.2.1) (some (wdE a1 a2 a3 a4 a5 a6 (σ8 0 1)))) Γ.2.2.2.1 mi (kl := 3) (ke := 6) (kv := 33 + Γ.2.2.1) (ci := 15) (qn := 26) (by decide) (by decide) (by omega) (by decide) (by omega) (by omega) x1 x4 gU_eq rfl rfl _) (cwV 1 hC.2.2.2.2 gX11_ask_Jx4a65c_add_9ea2d rfl rfl rfl hdV_add ⟨Nat.le_of_ble_eq_true rfl, Nat.le_of_ble_eq_true rfl⟩) (h_recv (k := 3) ⟨hT.1, hT.2.1⟩ G (by decide) x1 k_AL) rfl hl.1 (by rw [e1, el1]; rfl) (Nat.le_of_ble_eq_true rfl) dX11_ask_172 ⟨Nat.le_of_ble_eq_true rfl, Nat.le_of_ble_eq_true rfl⟩) (fun r Y H locs hY G => ?_)
    obtain ⟨rfl, q4, rfl⟩ := hY
    refine W.widen (k := 2) (n := 27) (by decide) (by decide) ?_
    refine fin (gU L 6 q4) H locs ((gU_ne (by decide)).trans (el 0 (by omega))) (gG_eq (fun k hk => ?_) G)
    rw [← r_addw (lay' := gU L 6 q4) (o := q4) (cap := 10) (f' := va_up (fun _ => none) 0 (some (L (33 + Γ.2.2.1)))) hP hG1 (fun k b1 b2 => (gU_ne b1).trans (el k b2)) gU_eq (by rw [if_pos (by omega)]) ?_ k]
    · show adX cy (gU (rX cy lay Γ tn σ8) (33 + Γ.2.2.1) (some (wdE a1 a2 a3 a4 a5 a6 (σ8 0 1)))) 3 6 (σ8 3 0 + 1) q4 10 0 (fun _ => none) (L (33 + Γ.2.2.1)) k = _
      unfold adX
      rw [hP0]
    · funext i
      by_cases hi : i = 0
      · subst hi
        rw [va_up_self, if_pos (by omega), gU_ne (by omega), hP0]
      · rw [va_up_ne _ _ hi, if_neg (by omega)]
  have x1 : (gU (rX cy lay Γ tn σ8) (33 + Γ.2.2.1) (some (wdE a1 a2 a3 a4 a5 a6 (σ8 0 1)))) 3 = some (.inr (4, [.int (σ8 3 0), .ref (L 6), .int (nI Γ.2.2.1)])) := (gU_ne (by omega)).trans (by rw [r_lw, if_neg hP0, hsz, el 6 (by omega)])
  have x4 : (gU (rX cy lay Γ tn σ8) (33 + Γ.2.2.1) (some (wdE a1 a2 a3 a4 a5 a6 (σ8 0 1)))) 6 = some (.inl (cy 7, if Γ.2.2.1 ≤ 10 then 10 else 15, rfS fun i => if i < Γ.2.2.1 then some (lay (33 + i)) else none)) := (gU_ne (by omega)).trans (r_eww hP0)
  have hrow : va_up (fun i => if i < Γ.2.2.1 then some (lay (33 + i)) else none) Γ.2.2.1 (some (L (33 + Γ.2.2.1))) = fun i => if i < Γ.2.2.1 + 1 then some (L (33 + i)) else none := by
    funext i
    by_cases hi : i = Γ.2.2.1
    · subst hi
      rw [va_up_self, if_pos (by omega)]
    · rw [va_up_ne _ _ hi]
      by_cases h2 : i < Γ.2.2.1
      · rw [if_pos h2, if_pos (by omega), el (33 + i) (by omega)]
      · rw [if_neg h2, if_neg (by omega)]
  by_cases hP1 : Γ.2.2.1 = 10
  · rw [show nI Γ.2.2.1 = nI 10 from by rw [hP1]] at x1
    rw [if_pos (by omega)] at x4
    refine g_i G hA (k_runV (b := L 3) (As := [.ref (L (33 + Γ.2.2.1))]) (rest := []) hC ⟨hT.1, hT.2.1⟩ hZ hA G (c_adC l D cy L (gU (rX cy lay Γ tn σ8) (33 + Γ.2.2.1) (some (wdE a1 a2 a3 a4 a5 a6 (σ8 0 1)))) Γ.2.2.2.1 mi (kl := 3) (ke := 6) (kn := 64) (kv := 33 + Γ.2.2.1) (ci := 15) (qn := 26) (by decide) (by decide) (by decide) (by decide) x1 x4 ((gU_ne (by omega)).trans ((r_tm (by omega)).trans rfl)) (fun i y hi hy => ⟨33 + i, _, by omega, hnot i (by omega), by rw [if_pos (by omega)] at hy; rw [el (33 + i) (by omega)]; exact Option.some.inj hy⟩) rfl rfl (by omega) (by omega) (by omega) gU_eq _) (cwV 1 hC.2.2.2.2 gX11_ask_Jx4a65c_add_9ea2d rfl rfl rfl hdV_add ⟨Nat.le_of_ble_eq_true rfl, Nat.le_of_ble_eq_true rfl⟩) (h_recv (k := 3) ⟨hT.1, hT.2.1⟩ G (by decide) x1 k_AL) rfl hl.1 (by rw [e1, el1]; rfl) (Nat.le_of_ble_eq_true rfl) dX11_ask_172 ⟨Nat.le_of_ble_eq_true rfl, Nat.le_of_ble_eq_true rfl⟩) (fun r Y H locs hY G => ?_)
    obtain ⟨rfl, q4, rfl⟩ := hY
    refine fin (gU L 6 q4) H locs ((gU_ne (by decide)).trans (el 0 (by omega))) (gG_eq (fun k hk => ?_) G)
    rw [← r_addw (lay' := gU L 6 q4) (o := q4) (cap := 15) (f' := va_up (va_cpy (fun i => if i < Γ.2.2.1 then some (lay (33 + i)) else none) (fun _ => none) 0 0 10) 10 (some (L (33 + Γ.2.2.1)))) hP hG1 (fun k b1 b2 => (gU_ne b1).trans (el k b2)) gU_eq (by rw [if_neg (by omega)]) ?_ k]
    · show adX cy (gU (rX cy lay Γ tn σ8) (33 + Γ.2.2.1) (some (wdE a1 a2 a3 a4 a5 a6 (σ8 0 1)))) 3 6 (σ8 3 0 + 1) q4 15 10 (va_cpy (fun i => if i < Γ.2.2.1 then some (lay (33 + i)) else none) (fun _ => none) 0 0 10) (L (33 + Γ.2.2.1)) k = _
      unfold adX
      rw [hP1]
    · funext i
      by_cases hi : i = 10
      · subst hi
        rw [va_up_self, if_pos (by omega), gU_ne (by omega), hP1]
      · rw [va_up_ne _ _ hi]
        unfold va_cpy
        by_cases h2 : i < Γ.2.2.1
        · rw [if_pos (by omega), show 0 + (i - 0) = i by omega, if_pos (show i < Γ.2.2.1 + 1 by omega), gU_ne (by omega), el (33 + i) (by omega)]
          exact if_pos h2
        · rw [if_neg (by omega), if_neg (by omega)]
  · have hcap : Γ.2.2.1 < (if Γ.2.2.1 ≤ 10 then 10 else 15) := by
      by_cases z : Γ.2.2.1 ≤ 10
      · rw [if_pos z]; omega
      · rw [if_neg z]; omega
    have hcap2 : (if Γ.2.2.1 ≤ 10 then 10 else 15) < 100 := by
      by_cases z : Γ.2.2.1 ≤ 10
      · rw [if_pos z]; omega
      · rw [if_neg z]; omega
    have hcap3 : (if Γ.2.2.1 ≤ 10 then 10 else 15) = if Γ.2.2.1 + 1 ≤ 10 then 10 else 15 := by
      by_cases z : Γ.2.2.1 ≤ 10
      · rw [if_pos z, if_pos (by omega)]
      · rw [if_neg z, if_neg (by omega)]
    refine g_i G hA (k_runV (b := L 3) (As := [.ref (L (33 + Γ.2.2.1))]) (rest := []) hC ⟨hT.1, hT.2.1⟩ hZ hA G (c_add_A l D cy L (gU (rX cy lay Γ tn σ8) (33 + Γ.2.2.1) (some (wdE a1 a2 a3 a4 a5 a6 (σ8 0 1)))) Γ.2.2.2.1 mi (kl := 3) (ke := 6) (kv := 33 + Γ.2.2.1) (ci := 15) (qn := 26) (n := Γ.2.2.1) (by decide) (by decide) (by omega) (by decide) (by omega) hcap hcap2 x1 x4 gU_eq rfl rfl _) (cwV 1 hC.2.2.2.2 gX11_ask_Jx4a65c_add_9ea2d rfl rfl rfl hdV_add ⟨Nat.le_of_ble_eq_true rfl, Nat.le_of_ble_eq_true rfl⟩) (h_recv (k := 3) ⟨hT.1, hT.2.1⟩ G (by decide) x1 k_AL) rfl hl.1 (by rw [e1, el1]; rfl) (Nat.le_of_ble_eq_true rfl) dX11_ask_172 ⟨Nat.le_of_ble_eq_true rfl, Nat.le_of_ble_eq_true rfl⟩) (fun r Y H locs hY G => ?_)
    obtain ⟨rfl, rfl⟩ := hY
    refine W.widen (k := 2) (n := 27) (by decide) (by decide) ?_
    refine fin L H locs (el 0 (by omega)) (gG_eq (fun k hk => ?_) G)
    rw [← r_addw (lay' := L) (o := L 6) (f' := va_up (fun i => if i < Γ.2.2.1 then some (lay (33 + i)) else none) Γ.2.2.1 (some (L (33 + Γ.2.2.1)))) hP hG1 (fun k b1 b2 => el k b2) rfl hcap3 hrow k]
    rfl
