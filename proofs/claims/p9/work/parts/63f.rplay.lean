/-! THE REFERENCE: player -/
def rpS (σ : MS) (P : Nat) (a b c d : Int32) : MS := fun k j => if k = 1 then (if j = 0 then σ 1 0 + 1 else if j = 2 then nI (P + 1) else σ 1 j) else if k = 13 + P then (if j = 0 then a else if j = 1 then b else if j = 2 then c else if j = 3 then d else 0) else if k = 23 + P then 0 else σ k j
section ADDP
variable {cy : Nat → ClassId} {lay lay' : Nat → Nat} {Γ : RG} {σ : MS} {a b c d : Int32}
theorem r_no_pl (h : Γ.1 < 10) : rX cy lay Γ tn σ (13 + Γ.1) = none := by
  unfold rX
  rw [if_neg (by omega), if_neg (by omega), if_neg (by omega), if_neg (by omega), if_neg (by omega), if_neg (by omega), if_neg (by omega), if_neg (by omega), if_neg (by omega), if_pos (by omega), if_neg (by omega)]
theorem r_no_of (h : Γ.1 < 10) : rX cy lay Γ tn σ (23 + Γ.1) = none := by
  unfold rX
  rw [if_neg (by omega), if_neg (by omega), if_neg (by omega), if_neg (by omega), if_neg (by omega), if_neg (by omega), if_neg (by omega), if_neg (by omega), if_neg (by omega), if_neg (by omega), if_pos (by omega), if_neg (by omega)]
theorem r_no_ep (h : Γ.1 = 0) : rX cy lay Γ tn σ 4 = none := if_pos h
theorem rpS_ne {k : Nat} {P : Nat} (h1 : k ≠ 1) (h2 : k ≠ 13 + P) (h3 : k ≠ 23 + P) : rpS σ P a b c d k = σ k := by
  funext j
  unfold rpS
  rw [if_neg h1, if_neg h2, if_neg h3]
theorem r_addp (hP : Γ.1 < 10) (hl : ∀ k, k ≠ 4 → k ≠ 13 + Γ.1 → k ≠ 23 + Γ.1 → lay' k = lay k) {o q2 : Nat} {f' : Nat → Option Nat} (h4 : lay' 4 = o) (h5 : lay' (23 + Γ.1) = q2) (hf : f' = fun i => if i < Γ.1 + 1 then some (lay' (13 + i)) else none) (k : Nat) :
    gU (gU (gU (gU (rX cy lay Γ tn σ) (23 + Γ.1) (some (offE cy))) (13 + Γ.1) (some (plE a b c d (.ref q2)))) 4 (some (.inl (cy 7, 10, rfS f')))) 1 (some (.inr (4, [.int (σ 1 0 + 1), .ref o, .int (nI (Γ.1 + 1))]))) k = rX cy lay' (Γ.1 + 1, Γ.2) tn (rpS σ Γ.1 a b c d) k := by
  by_cases c1 : k = 1
  · subst c1
    rw [gU_eq, r_lp]
    simp [rpS, h4]
  rw [gU_ne c1]
  by_cases c4 : k = 4
  · subst c4
    rw [gU_eq, r_ep (Nat.succ_ne_zero _), hf]
  rw [gU_ne c4]
  by_cases cp : k = 13 + Γ.1
  · subst cp
    rw [gU_eq, r_pl ⟨hP, Nat.lt_succ_self _⟩, h5]
    have e : ∀ j, rpS σ Γ.1 a b c d (13 + Γ.1) j = if j = 0 then a else if j = 1 then b else if j = 2 then c else if j = 3 then d else 0 := fun j => by
      unfold rpS
      rw [if_neg (by omega), if_pos rfl]
    show some (plE a b c d (.ref q2)) = some (.inr (14, [.int (rpS σ Γ.1 a b c d (13 + Γ.1) 0), .int (rpS σ Γ.1 a b c d (13 + Γ.1) 1), .int (rpS σ Γ.1 a b c d (13 + Γ.1) 2), .int (rpS σ Γ.1 a b c d (13 + Γ.1) 3), .int (rpS σ Γ.1 a b c d (13 + Γ.1) 4), .int (rpS σ Γ.1 a b c d (13 + Γ.1) 5), .ref q2]))
    rw [e, e, e, e, e, e]
    rfl
  rw [gU_ne cp]
  by_cases co : k = 23 + Γ.1
  · subst co
    rw [gU_eq, r_of ⟨hP, Nat.lt_succ_self _⟩]
    have e : rpS σ Γ.1 a b c d (23 + Γ.1) = fun _ => 0 := by
      funext j
      unfold rpS
      rw [if_neg (by omega), if_neg (by omega), if_pos rfl]
    rw [e]
  rw [gU_ne co]
  have hs : rpS σ Γ.1 a b c d k = σ k := rpS_ne c1 cp co
  unfold rX
  rw [hs]
  by_cases c0 : k = 0
  · subst c0
    rw [if_pos rfl, if_pos rfl]
    have hm : Lmo lay' (rpS σ Γ.1 a b c d 0) = Lmo lay (σ 0) := by
      rw [rpS_ne (by omega) (by omega) (by omega)]
      show [_, _, _, _, _, _, _, _, _, _, _, _, _] = _
      rw [hl 1 (by omega) (by omega) (by omega), hl 2 (by omega) (by omega) (by omega), hl 3 (by omega) (by omega) (by omega), hl 7 (by omega) (by omega) (by omega), hl 8 (by omega) (by omega) (by omega), hl 9 (by omega) (by omega) (by omega), hl 10 (by omega) (by omega) (by omega), hl 11 (by omega) (by omega) (by omega), hl 12 (by omega) (by omega) (by omega)]
    rw [hm]
  rw [if_neg c0, if_neg c0, if_neg c1, if_neg c1]
  by_cases c2 : k = 2
  · subst c2
    rw [if_pos rfl, if_pos rfl, rpS_ne (by omega) (by omega) (by omega)]
    unfold rL
    rw [hl 5 (by omega) (by omega) (by omega)]
  rw [if_neg c2, if_neg c2]
  by_cases c3 : k = 3
  · subst c3
    rw [if_pos rfl, if_pos rfl, rpS_ne (by omega) (by omega) (by omega)]
    unfold rL
    rw [hl 6 (by omega) (by omega) (by omega)]
  rw [if_neg c3, if_neg c3, if_neg c4, if_neg c4]
  by_cases c5 : k = 5
  · rw [if_pos c5, if_pos c5]
  rw [if_neg c5, if_neg c5]
  by_cases c6 : k = 6
  · rw [if_pos c6, if_pos c6]
    have e : (fun i => if i < Γ.2.2.1 then some (lay' (33 + i)) else none) = fun i => if i < Γ.2.2.1 then some (lay (33 + i)) else none := by
      funext i
      rw [hl (33 + i) (by omega) (by omega) (by omega)]
    show _ = if Γ.2.2.1 = 0 then none else some (Sum.inl (cy 7, if Γ.2.2.1 ≤ 10 then 10 else 15, rfS fun i => if i < Γ.2.2.1 then some (lay' (33 + i)) else none))
    rw [e]
  rw [if_neg c6, if_neg c6]
  by_cases c7 : k < 11
  · rw [if_pos c7, if_pos c7]
  rw [if_neg c7, if_neg c7]
  by_cases c8 : k < 13
  · rw [if_pos c8, if_pos c8]
  rw [if_neg c8, if_neg c8]
  by_cases c9 : k < 23
  · rw [if_pos c9, if_pos c9]
    by_cases z : k - 13 < Γ.1
    · rw [if_pos z, if_pos (show k - 13 < Γ.1 + 1 by omega), hl (23 + (k - 13)) (by omega) (by omega) (by omega)]
    · rw [if_neg z, if_neg (show ¬ k - 13 < Γ.1 + 1 by omega)]
  rw [if_neg c9, if_neg c9]
  by_cases c10 : k < 33
  · rw [if_pos c10, if_pos c10]
    by_cases z : k - 23 < Γ.1
    · rw [if_pos z, if_pos (show k - 23 < Γ.1 + 1 by omega)]
    · rw [if_neg z, if_neg (show ¬ k - 23 < Γ.1 + 1 by omega)]
  rw [if_neg c10, if_neg c10]
  by_cases c11 : k < 47
  · rw [if_pos c11, if_pos c11]
  rw [if_neg c11, if_neg c11]
  by_cases c12 : k < 64
  · rw [if_pos c12, if_pos c12]
  rw [if_neg c12, if_neg c12]
  rfl
end ADDP
theorem df_X9 : ∀ j, j < 7 → defaultValue (tyX9 j) = vp_V [.int 0, .int 0, .int 0, .int 0, .int 0, .int 0, .null] j := by decide
abbrev rm_X11_player : Room := { frames := 5, cells := 3, slots := 383, locals := 220 }
theorem i_X11_player_X11 : ∀ w ∈ wsX110, w ∈ wsX11_player := fun _ h => List.mem_cons_of_mem _ (List.mem_append_left _ (List.mem_append_left _ (List.mem_append_right _ h)))
theorem i_X11_player_X9 : ∀ w ∈ wsX90, w ∈ wsX11_player := fun _ h => List.mem_cons_of_mem _ (List.mem_append_left _ (List.mem_append_right _ h))
def w_X11_player (lay : Nat → Nat) (Γ : RG) (post : Int32 → RY → Prop) (σ : MS) (a1 a2 a3 a4 : Int32) : Prop :=
  w_X11_is Γ (fun r σ1 => (r = 0 → w_X11_refuse Γ (fun x σ9 => post x (lay, Γ, σ9)) σ1 1) ∧ (¬ r = 0 → w_X11_is Γ (fun r σ2 => (r = 0 → w_X11_refuse Γ (fun x σ9 => post x (lay, Γ, σ9)) σ2 2) ∧ (¬ r = 0 → w_X11_areSongs Γ (fun r σ3 => (r = 0 → w_X11_refuse Γ (fun x σ9 => post x (lay, Γ, σ9)) σ3 2) ∧ (¬ r = 0 → w_X11_is Γ (fun r σ4 => (r = 0 → w_X11_refuse Γ (fun x σ9 => post x (lay, Γ, σ9)) σ4 2) ∧ (¬ r = 0 → w_lp_Jx4a65c_size_8abf5 Γ (fun r σ5 => (r = 10 → w_X11_refuse Γ (fun x σ9 => post x (lay, Γ, σ9)) σ5 3) ∧ (¬ r = 10 → Γ.1 < 10 ∧ σ5 1 2 = nI Γ.1 ∧ ∀ lay', post (nI Γ.1) (lay', (Γ.1 + 1, Γ.2), rpS σ5 Γ.1 a1 a2 a3 a4))) σ4)) σ3 a4 1 99)) σ2 a2)) σ1 a1 1 63)) (up2 σ 0 0 0) a3 0 5
set_option maxHeartbeats 4000000 in
set_option maxRecDepth 100000 in
theorem c_X11_player (l : Launch) (D : va_G) (cy : Nat → ClassId) (lay : Nat → Nat) (Γ : RG) (mi : Nat) {z9 : Nat} (hz9 : lay 0 = z9) {σ : MS} {post : Int32 → RY → Prop} {a1 a2 a3 a4 : Int32} (h : w_X11_player lay Γ post σ a1 a2 a3 a4) (sz : Nat) : Met l yX11_player wsX11_player rm_X11_player (va_Pc [.ref (lay 0), .int a1, .int a2, .int a3, .int a4] (rIK D cy lay Γ σ mi sz)) (va_Qi post (rOz z9 D cy (rA cy lay Γ sz)) (rA cy lay Γ sz)) 3 383 (rA cy lay Γ sz) := by
  refine rk_ofW (cc := cX11_player) (maxL := 6) (ret := some .int) (own := RX11) (Qc := fun sz => va_Qi post (rOz z9 D cy (rA cy lay Γ sz)) (rA cy lay Γ sz)) (by decide) rfl (Nat.le_of_ble_eq_true rfl) rfl ?_
  intro p e0 s m args below meth c ls hC hr hlocks hT hZ G hl
  unfold w_X11_player at h
  have hl : lv_has ls 6 [(0, .ref (lay 0)), (1, .int a1), (2, .int a2), (3, .int a3), (4, .int a4)] := hl
  refine lv_aload_n hC.1 hC.2.1 dX11_player_0 rfl (lv_at hl 0 rfl) ?_
  refine lv_iconst (v := 0) hC.1 hC.2.1 dX11_player_1 (by decide) ?_
  refine rg_put hC hT G (by decide) r_mo k_X11 i_X11_player_X11 0 (by decide) (wm 1 rfl) rfl rfl (by simp) r_mo (by rw [up2_eq]; rfl) dX11_player_2 (fun H locs G => ?_)
  refine lv_iload_n hC.1 hC.2.1 dX11_player_5 rfl (lv_at hl 3 rfl) ?_
  refine lv_iconst (v := 0) hC.1 hC.2.1 dX11_player_6 (by decide) ?_
  refine lv_iconst (v := 5) hC.1 hC.2.1 dX11_player_7 (by decide) ?_
  refine rg_i G (rg_runS (As := [.int a3, .int 0, .int 5]) (rest := []) hC hT G (c_X11_is l D cy lay Γ h _) (va_cwS 3 hC.2.2.2.2 gX11_player_X11_is rfl rfl rfl hdS_X11_is ⟨Nat.le_of_ble_eq_true rfl, Nat.le_of_ble_eq_true rfl⟩) rfl hl.1 rfl (Nat.le_of_ble_eq_true rfl) dX11_player_8 ⟨Nat.le_of_ble_eq_true rfl, Nat.le_of_ble_eq_true rfl⟩) (fun r1 σ1 H locs h G => ?_)
  (try dsimp only at h)
  refine lv_if_ne (tgt := 20) hC.1 hC.2.1 dX11_player_11 (by decide) (fun c1 => ?_) (fun c1 => ?_)
  rotate_left
  · replace h := h.1 c1
    refine lv_aload_n hC.1 hC.2.1 dX11_player_14 rfl (lv_at hl 0 rfl) ?_
    refine lv_iconst (v := 1) hC.1 hC.2.1 dX11_player_15 (by decide) ?_
    refine rg_i G (rg_runV (As := [.int 1]) (rest := []) hC hT G (c_X11_refuse l D cy lay Γ h _) (cwV 1 hC.2.2.2.2 gX11_player_X11_refuse rfl rfl rfl hdV_X11_refuse ⟨Nat.le_of_ble_eq_true rfl, Nat.le_of_ble_eq_true rfl⟩) (rg_recv hT G (by decide) r_mo k_X11) rfl hl.1 rfl (Nat.le_of_ble_eq_true rfl) dX11_player_16 ⟨Nat.le_of_ble_eq_true rfl, Nat.le_of_ble_eq_true rfl⟩) (fun r9 σ9 H locs h G => ?_)
    refine W.widen (k := 3) (n := 383) (by decide) (by decide) ?_
    exact rk_iretz hz9 (Y := (lay, Γ, σ9)) hC hr hlocks G (rS_grow hT.2.2.1 G rfl rfl) hT.2.2.2 h dX11_player_19
  replace h := h.2 c1
  refine lv_iload_n hC.1 hC.2.1 dX11_player_20 rfl (lv_at hl 1 rfl) ?_
  refine lv_iconst (v := 1) hC.1 hC.2.1 dX11_player_21 (by decide) ?_
  refine lv_bipush (v := 63) hC.1 hC.2.1 dX11_player_22 (by decide) ?_
  refine rg_i G (rg_runS (As := [.int a1, .int 1, .int 63]) (rest := []) hC hT G (c_X11_is l D cy lay Γ h _) (va_cwS 3 hC.2.2.2.2 gX11_player_X11_is rfl rfl rfl hdS_X11_is ⟨Nat.le_of_ble_eq_true rfl, Nat.le_of_ble_eq_true rfl⟩) rfl hl.1 rfl (Nat.le_of_ble_eq_true rfl) dX11_player_24 ⟨Nat.le_of_ble_eq_true rfl, Nat.le_of_ble_eq_true rfl⟩) (fun r2 σ2 H locs h G => ?_)
  (try dsimp only at h)
  refine lv_if_eq (tgt := 49) hC.1 hC.2.1 dX11_player_27 (by decide) (fun c2 => ?_) (fun c2 => ?_)
  · replace h := h.1 c2
    refine lv_aload_n hC.1 hC.2.1 dX11_player_49 rfl (lv_at hl 0 rfl) ?_
    refine lv_iconst (v := 2) hC.1 hC.2.1 dX11_player_50 (by decide) ?_
    refine rg_i G (rg_runV (As := [.int 2]) (rest := []) hC hT G (c_X11_refuse l D cy lay Γ h _) (cwV 1 hC.2.2.2.2 gX11_player_X11_refuse rfl rfl rfl hdV_X11_refuse ⟨Nat.le_of_ble_eq_true rfl, Nat.le_of_ble_eq_true rfl⟩) (rg_recv hT G (by decide) r_mo k_X11) rfl hl.1 rfl (Nat.le_of_ble_eq_true rfl) dX11_player_51 ⟨Nat.le_of_ble_eq_true rfl, Nat.le_of_ble_eq_true rfl⟩) (fun r9 σ9 H locs h G => ?_)
    refine W.widen (k := 3) (n := 383) (by decide) (by decide) ?_
    exact rk_iretz hz9 (Y := (lay, Γ, σ9)) hC hr hlocks G (rS_grow hT.2.2.1 G rfl rfl) hT.2.2.2 h dX11_player_54
  replace h := h.2 c2
  refine lv_aload_n hC.1 hC.2.1 dX11_player_30 rfl (lv_at hl 0 rfl) ?_
  refine lv_iload_n hC.1 hC.2.1 dX11_player_31 rfl (lv_at hl 2 rfl) ?_
  refine rg_i G (rg_runV (As := [.int a2]) (rest := []) hC hT G (c_X11_areSongs l D cy lay Γ h _) (cwV 1 hC.2.2.2.2 gX11_player_X11_areSongs rfl rfl rfl hdV_X11_areSongs ⟨Nat.le_of_ble_eq_true rfl, Nat.le_of_ble_eq_true rfl⟩) (rg_recv hT G (by decide) r_mo k_X11) rfl hl.1 rfl (Nat.le_of_ble_eq_true rfl) dX11_player_32 ⟨Nat.le_of_ble_eq_true rfl, Nat.le_of_ble_eq_true rfl⟩) (fun r3 σ3 H locs h G => ?_)
  (try dsimp only at h)
  refine lv_if_eq (tgt := 49) hC.1 hC.2.1 dX11_player_35 (by decide) (fun c3 => ?_) (fun c3 => ?_)
  · replace h := h.1 c3
    refine lv_aload_n hC.1 hC.2.1 dX11_player_49 rfl (lv_at hl 0 rfl) ?_
    refine lv_iconst (v := 2) hC.1 hC.2.1 dX11_player_50 (by decide) ?_
    refine rg_i G (rg_runV (As := [.int 2]) (rest := []) hC hT G (c_X11_refuse l D cy lay Γ h _) (cwV 1 hC.2.2.2.2 gX11_player_X11_refuse rfl rfl rfl hdV_X11_refuse ⟨Nat.le_of_ble_eq_true rfl, Nat.le_of_ble_eq_true rfl⟩) (rg_recv hT G (by decide) r_mo k_X11) rfl hl.1 rfl (Nat.le_of_ble_eq_true rfl) dX11_player_51 ⟨Nat.le_of_ble_eq_true rfl, Nat.le_of_ble_eq_true rfl⟩) (fun r9 σ9 H locs h G => ?_)
    refine W.widen (k := 3) (n := 383) (by decide) (by decide) ?_
    exact rk_iretz hz9 (Y := (lay, Γ, σ9)) hC hr hlocks G (rS_grow hT.2.2.1 G rfl rfl) hT.2.2.2 h dX11_player_54
  replace h := h.2 c3
  refine lv_iload hC.1 hC.2.1 dX11_player_38 (lv_at hl 4 rfl) ?_
  refine lv_iconst (v := 1) hC.1 hC.2.1 dX11_player_40 (by decide) ?_
  refine lv_bipush (v := 99) hC.1 hC.2.1 dX11_player_41 (by decide) ?_
  refine rg_i G (rg_runS (As := [.int a4, .int 1, .int 99]) (rest := []) hC hT G (c_X11_is l D cy lay Γ h _) (va_cwS 3 hC.2.2.2.2 gX11_player_X11_is rfl rfl rfl hdS_X11_is ⟨Nat.le_of_ble_eq_true rfl, Nat.le_of_ble_eq_true rfl⟩) rfl hl.1 rfl (Nat.le_of_ble_eq_true rfl) dX11_player_43 ⟨Nat.le_of_ble_eq_true rfl, Nat.le_of_ble_eq_true rfl⟩) (fun r4 σ4 H locs h G => ?_)
  (try dsimp only at h)
  refine lv_if_ne (tgt := 55) hC.1 hC.2.1 dX11_player_46 (by decide) (fun c4 => ?_) (fun c4 => ?_)
  rotate_left
  · replace h := h.1 c4
    refine lv_aload_n hC.1 hC.2.1 dX11_player_49 rfl (lv_at hl 0 rfl) ?_
    refine lv_iconst (v := 2) hC.1 hC.2.1 dX11_player_50 (by decide) ?_
    refine rg_i G (rg_runV (As := [.int 2]) (rest := []) hC hT G (c_X11_refuse l D cy lay Γ h _) (cwV 1 hC.2.2.2.2 gX11_player_X11_refuse rfl rfl rfl hdV_X11_refuse ⟨Nat.le_of_ble_eq_true rfl, Nat.le_of_ble_eq_true rfl⟩) (rg_recv hT G (by decide) r_mo k_X11) rfl hl.1 rfl (Nat.le_of_ble_eq_true rfl) dX11_player_51 ⟨Nat.le_of_ble_eq_true rfl, Nat.le_of_ble_eq_true rfl⟩) (fun r9 σ9 H locs h G => ?_)
    refine W.widen (k := 3) (n := 383) (by decide) (by decide) ?_
    exact rk_iretz hz9 (Y := (lay, Γ, σ9)) hC hr hlocks G (rS_grow hT.2.2.1 G rfl rfl) hT.2.2.2 h dX11_player_54
  replace h := h.2 c4
  refine lv_aload_n hC.1 hC.2.1 dX11_player_55 rfl (lv_at hl 0 rfl) ?_
  refine rg_get hC hT G (by decide) r_mo k_X11 i_X11_player_X11 3 (by decide) (wm 2 rfl) rfl dX11_player_56 ?_
  refine rg_i G (rg_runV (As := []) (rest := []) hC hT G (c_lp_Jx4a65c_size_8abf5 l D cy lay Γ h _) (cwV 0 hC.2.2.2.2 gX11_player_Jx4a65c_size_8abf5 rfl rfl rfl hdV_Jx4a65c_size_8abf5 ⟨Nat.le_of_ble_eq_true rfl, Nat.le_of_ble_eq_true rfl⟩) (rg_recv hT G (by decide) r_lp k_AL) rfl hl.1 rfl (Nat.le_of_ble_eq_true rfl) dX11_player_59 ⟨Nat.le_of_ble_eq_true rfl, Nat.le_of_ble_eq_true rfl⟩) (fun r5 σ5 H locs h G => ?_)
  (try dsimp only at h)
  refine lv_bipush (v := 10) hC.1 hC.2.1 dX11_player_62 (by decide) ?_
  refine lv_icmp_ne (tgt := 73) hC.1 hC.2.1 dX11_player_64 (by decide) (fun c5 => ?_) (fun c5 => ?_)
  rotate_left
  · replace h := h.1 c5
    refine lv_aload_n hC.1 hC.2.1 dX11_player_67 rfl (lv_at hl 0 rfl) ?_
    refine lv_iconst (v := 3) hC.1 hC.2.1 dX11_player_68 (by decide) ?_
    refine rg_i G (rg_runV (As := [.int 3]) (rest := []) hC hT G (c_X11_refuse l D cy lay Γ h _) (cwV 1 hC.2.2.2.2 gX11_player_X11_refuse rfl rfl rfl hdV_X11_refuse ⟨Nat.le_of_ble_eq_true rfl, Nat.le_of_ble_eq_true rfl⟩) (rg_recv hT G (by decide) r_mo k_X11) rfl hl.1 rfl (Nat.le_of_ble_eq_true rfl) dX11_player_69 ⟨Nat.le_of_ble_eq_true rfl, Nat.le_of_ble_eq_true rfl⟩) (fun r9 σ9 H locs h G => ?_)
    refine W.widen (k := 3) (n := 383) (by decide) (by decide) ?_
    exact rk_iretz hz9 (Y := (lay, Γ, σ9)) hC hr hlocks G (rS_grow hT.2.2.1 G rfl rfl) hT.2.2.2 h dX11_player_72
  replace h := h.2 c5
  obtain ⟨hP, hsz, h⟩ := h
  have hA : ∀ q, s.heap.size ≤ q → rA cy lay Γ s.heap.size q := fun _ h => Or.inr h
  refine g_new (k := 13 + Γ.1) (fs := [.int 0, .int 0, .int 0, .int 0, .int 0, .int 0, .null]) hC hT.1 G hA (r_no_pl hP) k_X9 i_X11_player_X9 (wm 3 rfl) (wm 4 rfl) (wm 5 rfl) df_X9 (Nat.le_of_ble_eq_true rfl) (Nat.le_of_ble_eq_true rfl) dX11_player_73 (fun q H G => ?_)
  have eq0 : gU lay (13 + Γ.1) q (13 + Γ.1) = q := gU_eq
  rw [eq0]
  refine lv_dup hC.1 hC.2.1 dX11_player_76 rfl ?_
  refine g_v G hA (h_runIN (host := RX11) (b := gU lay (13 + Γ.1) q (13 + Γ.1)) (As := []) (rest := [.ref q]) hC ⟨hT.1, hT.2.1⟩ G (c_X9_init l D cy _ _ (k := 13 + Γ.1) (ko := 23 + Γ.1) (by omega) (by omega) (by omega) gU_eq ((gU_ne (by omega)).trans (r_no_of hP)) _) ⟨va_cnB 0 hC.2.2.2.2 ggX11_player_X9_init rfl rfl rfl (hT.2.1.1 _ (wm 1 rfl)) (hC.2.2.2.2 (.initialized RX9) (wm 5 rfl)) hdI_X9 ⟨Nat.le_of_ble_eq_true rfl, Nat.le_of_ble_eq_true rfl⟩, rfl, hC.2.2.2.2 (.instanceMethod yX9_init) (wm 25 rfl)⟩ rfl hl.1 (by rw [eq0]; rfl) (Nat.le_of_ble_eq_true rfl) dX11_player_77 ⟨Nat.le_of_ble_eq_true rfl, Nat.le_of_ble_eq_true rfl⟩) (fun Y H locs hY G => ?_)
  obtain ⟨q2, rfl⟩ := hY
  obtain ⟨L, e1, e2, el, G⟩ : ∃ L : Nat → Nat, L (13 + Γ.1) = q ∧ L (23 + Γ.1) = q2 ∧ (∀ k, k ≠ 13 + Γ.1 → k ≠ 23 + Γ.1 → L k = lay k) ∧ gG D L (gU (gU (rX cy lay Γ tn σ5) (23 + Γ.1) (some (offE cy))) (13 + Γ.1) (some (plE 0 0 0 0 (.ref q2)))) (rA cy lay Γ s.heap.size) s.heap H locs :=
    ⟨gU (gU lay (13 + Γ.1) q) (23 + Γ.1) q2, (gU_ne (by omega)).trans gU_eq, gU_eq, fun k a b => (gU_ne b).trans (gU_ne a), by rw [← gU3]; exact G⟩
  refine lv_astore (lv' := [(5, .ref q), (0, .ref (lay 0)), (1, .int a1), (2, .int a2), (3, .int a3), (4, .int a4)]) hC.1 hC.2.1 dX11_player_80 hl (by decide) rfl (fun ls hl => ?_)
  refine lv_aload hC.1 hC.2.1 dX11_player_82 (lv_at hl 0 rfl) ?_
  refine lv_iload_n hC.1 hC.2.1 dX11_player_84 rfl (lv_at hl 2 rfl) ?_
  refine g_putNA (host := RX11) e1 hC hT.1 G (by omega) gU_eq k_X9 i_X11_player_X9 0 (by decide) (nest_use _ (nestR_ok _ (wm 2 rfl)) (hT.2.1.1 _ (wm 2 rfl))) rfl rfl rfl (by simp) dX11_player_85 (fun H locs G => ?_)
  have G : gG D L (gU (gU (rX cy lay Γ tn σ5) (23 + Γ.1) (some (offE cy))) (13 + Γ.1) (some (plE a1 0 0 0 (.ref q2)))) (rA cy lay Γ s.heap.size) s.heap H locs := gG_up2 G
  refine lv_aload hC.1 hC.2.1 dX11_player_88 (lv_at hl 0 rfl) ?_
  refine lv_iload_n hC.1 hC.2.1 dX11_player_90 rfl (lv_at hl 3 rfl) ?_
  refine g_putNA (host := RX11) e1 hC hT.1 G (by omega) gU_eq k_X9 i_X11_player_X9 1 (by decide) (nest_use _ (nestR_ok _ (wm 3 rfl)) (hT.2.1.1 _ (wm 3 rfl))) rfl rfl rfl (by simp) dX11_player_91 (fun H locs G => ?_)
  have G : gG D L (gU (gU (rX cy lay Γ tn σ5) (23 + Γ.1) (some (offE cy))) (13 + Γ.1) (some (plE a1 a2 0 0 (.ref q2)))) (rA cy lay Γ s.heap.size) s.heap H locs := gG_up2 G
  refine lv_aload hC.1 hC.2.1 dX11_player_94 (lv_at hl 0 rfl) ?_
  refine lv_iload_n hC.1 hC.2.1 dX11_player_96 rfl (lv_at hl 4 rfl) ?_
  refine g_putNA (host := RX11) e1 hC hT.1 G (by omega) gU_eq k_X9 i_X11_player_X9 2 (by decide) (nest_use _ (nestR_ok _ (wm 4 rfl)) (hT.2.1.1 _ (wm 4 rfl))) rfl rfl rfl (by simp) dX11_player_97 (fun H locs G => ?_)
  have G : gG D L (gU (gU (rX cy lay Γ tn σ5) (23 + Γ.1) (some (offE cy))) (13 + Γ.1) (some (plE a1 a2 a3 0 (.ref q2)))) (rA cy lay Γ s.heap.size) s.heap H locs := gG_up2 G
  refine lv_aload hC.1 hC.2.1 dX11_player_100 (lv_at hl 0 rfl) ?_
  refine lv_iload hC.1 hC.2.1 dX11_player_102 (lv_at hl 5 rfl) ?_
  refine g_putNA (host := RX11) e1 hC hT.1 G (by omega) gU_eq k_X9 i_X11_player_X9 3 (by decide) (nest_use _ (nestR_ok _ (wm 5 rfl)) (hT.2.1.1 _ (wm 5 rfl))) rfl rfl rfl (by simp) dX11_player_104 (fun H locs G => ?_)
  have G : gG D L (gU (gU (rX cy lay Γ tn σ5) (23 + Γ.1) (some (offE cy))) (13 + Γ.1) (some (plE a1 a2 a3 a4 (.ref q2)))) (rA cy lay Γ s.heap.size) s.heap H locs := gG_up2 G
  have x0 : (gU (gU (rX cy lay Γ tn σ5) (23 + Γ.1) (some (offE cy))) (13 + Γ.1) (some (plE a1 a2 a3 a4 (.ref q2)))) 0 = some (.inr (16, Lmo lay (σ5 0))) := (gU_ne (by omega)).trans ((gU_ne (by omega)).trans r_mo)
  have fin : ∀ (L' : Nat → Nat) (H : Heap) (locs : List Loc), L' 0 = lay 0 → gG D L' (rX cy L' (Γ.1 + 1, Γ.2) tn (rpS σ5 Γ.1 a1 a2 a3 a4)) (rA cy lay Γ s.heap.size) s.heap H locs → W p l e0 rm_X11_player s m args below meth c H locs 3 383 (MQ below (va_Qi post (rOz z9 D cy (rA cy lay Γ s.heap.size)) (rA cy lay Γ s.heap.size)) args s 3 383 (rA cy lay Γ s.heap.size)) (F0 m 116 ls [.int 1]) := by
    intro L' H locs z0 G
    refine lv_pop hC.1 hC.2.1 dX11_player_116 rfl ?_
    refine lv_aload_n hC.1 hC.2.1 dX11_player_117 rfl (lv_at hl 1 rfl) ?_
    rw [← z0]
    refine g_get (k := 0) hC hT.1 G (by decide) r_mo k_X11 i_X11_player_X11 3 (by decide) (wm 2 rfl) rfl dX11_player_118 ?_
    refine g_i G hA (h_runV (As := []) (rest := []) hC ⟨hT.1, hT.2.1⟩ G (c_gsz l D cy L' _ (k := 1) (by decide) r_lp _) (cwV 0 hC.2.2.2.2 gX11_player_Jx4a65c_size_8abf5 rfl rfl rfl hdV_Jx4a65c_size_8abf5 ⟨Nat.le_of_ble_eq_true rfl, Nat.le_of_ble_eq_true rfl⟩) (h_recv (k := 1) ⟨hT.1, hT.2.1⟩ G (by decide) r_lp k_AL) rfl hl.1 rfl (Nat.le_of_ble_eq_true rfl) dX11_player_121 ⟨Nat.le_of_ble_eq_true rfl, Nat.le_of_ble_eq_true rfl⟩) (fun r Y H locs hY G => ?_)
    obtain ⟨rfl, rfl⟩ := hY
    refine lv_iconst (v := 1) hC.1 hC.2.1 dX11_player_124 (by decide) ?_
    refine lv_isub hC.1 hC.2.1 dX11_player_125 ?_
    rw [show rpS σ5 Γ.1 a1 a2 a3 a4 1 2 = nI (Γ.1 + 1) from rfl, nI_pred]
    exact rk_iretz (z0.trans hz9) (Y := (L', (Γ.1 + 1, Γ.2), rpS σ5 Γ.1 a1 a2 a3 a4)) hC hr hlocks G (rS_grow hT.2.2.1 G rfl rfl) ⟨by show Γ.1 + 1 ≤ 10; omega, hT.2.2.2.2⟩ (h L') dX11_player_126
  refine lv_aload_n hC.1 hC.2.1 dX11_player_107 rfl (lv_at hl 1 rfl) ?_
  rw [show lay 0 = L 0 from (el 0 (by omega) (by omega)).symm]
  refine g_get (k := 0) hC hT.1 G (by decide) x0 k_X11 i_X11_player_X11 3 (by decide) (wm 2 rfl) rfl dX11_player_108 ?_
  refine lv_aload hC.1 hC.2.1 dX11_player_111 (lv_at hl 0 rfl) ?_
  have el1 : L 1 = lay 1 := el 1 (by omega) (by omega)
  by_cases hP0 : Γ.1 = 0
  · have x1 : (gU (gU (rX cy lay Γ tn σ5) (23 + Γ.1) (some (offE cy))) (13 + Γ.1) (some (plE a1 a2 a3 a4 (.ref q2)))) 1 = some (.inr (4, [.int (σ5 1 0), .ref Γ.2.2.2.1, .int 0])) := (gU_ne (by omega)).trans ((gU_ne (by omega)).trans (by rw [r_lp, if_pos hP0, hsz, hP0]; rfl))
    have x4 : (gU (gU (rX cy lay Γ tn σ5) (23 + Γ.1) (some (offE cy))) (13 + Γ.1) (some (plE a1 a2 a3 a4 (.ref q2)))) 4 = none := (gU_ne (by omega)).trans ((gU_ne (by omega)).trans (r_no_ep hP0))
    refine g_i G hA (k_runV (b := L 1) (As := [.ref (L (13 + Γ.1))]) (rest := []) hC ⟨hT.1, hT.2.1⟩ hZ hA G (c_add_0 l D cy L (gU (gU (rX cy lay Γ tn σ5) (23 + Γ.1) (some (offE cy))) (13 + Γ.1) (some (plE a1 a2 a3 a4 (.ref q2)))) Γ.2.2.2.1 mi (kl := 1) (ke := 4) (kv := 13 + Γ.1) (ci := 14) (qn := 25) (by decide) (by decide) (by omega) (by decide) (by omega) (by omega) x1 x4 gU_eq rfl rfl _) (cwV 1 hC.2.2.2.2 gX11_player_Jx4a65c_add_9ea2d rfl rfl rfl hdV_add ⟨Nat.le_of_ble_eq_true rfl, Nat.le_of_ble_eq_true rfl⟩) (h_recv (k := 1) ⟨hT.1, hT.2.1⟩ G (by decide) x1 k_AL) rfl hl.1 (by rw [e1, el1]; rfl) (Nat.le_of_ble_eq_true rfl) dX11_player_113 ⟨Nat.le_of_ble_eq_true rfl, Nat.le_of_ble_eq_true rfl⟩) (fun r Y H locs hY G => ?_)
    obtain ⟨rfl, q4, rfl⟩ := hY
    refine fin (gU L 4 q4) H locs ((gU_ne (by decide)).trans (el 0 (by omega) (by omega))) (gG_eq (fun k hk => ?_) G)
    rw [← r_addp (lay' := gU L 4 q4) (o := q4) (q2 := q2) (f' := va_up (fun _ => none) 0 (some (L (13 + Γ.1)))) hP (fun k b1 b2 b3 => (gU_ne b1).trans (el k b2 b3)) gU_eq ((gU_ne (by omega)).trans e2) ?_ k]
    · show adX cy (gU (gU (rX cy lay Γ tn σ5) (23 + Γ.1) (some (offE cy))) (13 + Γ.1) (some (plE a1 a2 a3 a4 (.ref q2)))) 1 4 (σ5 1 0 + 1) q4 10 0 (fun _ => none) (L (13 + Γ.1)) k = _
      unfold adX
      rw [hP0]
    · funext i
      by_cases hi : i = 0
      · subst hi
        rw [va_up_self, if_pos (by omega), gU_ne (by omega), hP0]
      · rw [va_up_ne _ _ hi, if_neg (by omega)]
  · have x1 : (gU (gU (rX cy lay Γ tn σ5) (23 + Γ.1) (some (offE cy))) (13 + Γ.1) (some (plE a1 a2 a3 a4 (.ref q2)))) 1 = some (.inr (4, [.int (σ5 1 0), .ref (L 4), .int (nI Γ.1)])) := (gU_ne (by omega)).trans ((gU_ne (by omega)).trans (by rw [r_lp, if_neg hP0, hsz, el 4 (by omega) (by omega)]))
    have x4 : (gU (gU (rX cy lay Γ tn σ5) (23 + Γ.1) (some (offE cy))) (13 + Γ.1) (some (plE a1 a2 a3 a4 (.ref q2)))) 4 = some (.inl (cy 7, 10, rfS fun i => if i < Γ.1 then some (lay (13 + i)) else none)) := (gU_ne (by omega)).trans ((gU_ne (by omega)).trans (r_ep hP0))
    refine g_i G hA (k_runV (b := L 1) (As := [.ref (L (13 + Γ.1))]) (rest := []) hC ⟨hT.1, hT.2.1⟩ hZ hA G (c_add_A l D cy L (gU (gU (rX cy lay Γ tn σ5) (23 + Γ.1) (some (offE cy))) (13 + Γ.1) (some (plE a1 a2 a3 a4 (.ref q2)))) Γ.2.2.2.1 mi (kl := 1) (ke := 4) (kv := 13 + Γ.1) (ci := 14) (qn := 25) (n := Γ.1) (cap := 10) (by decide) (by decide) (by omega) (by decide) (by omega) hP (by decide) x1 x4 gU_eq rfl rfl _) (cwV 1 hC.2.2.2.2 gX11_player_Jx4a65c_add_9ea2d rfl rfl rfl hdV_add ⟨Nat.le_of_ble_eq_true rfl, Nat.le_of_ble_eq_true rfl⟩) (h_recv (k := 1) ⟨hT.1, hT.2.1⟩ G (by decide) x1 k_AL) rfl hl.1 (by rw [e1, el1]; rfl) (Nat.le_of_ble_eq_true rfl) dX11_player_113 ⟨Nat.le_of_ble_eq_true rfl, Nat.le_of_ble_eq_true rfl⟩) (fun r Y H locs hY G => ?_)
    obtain ⟨rfl, rfl⟩ := hY
    refine fin L H locs (el 0 (by omega) (by omega)) (gG_eq (fun k hk => ?_) G)
    rw [← r_addp (lay' := L) (o := L 4) (q2 := q2) (f' := va_up (fun i => if i < Γ.1 then some (lay (13 + i)) else none) Γ.1 (some (L (13 + Γ.1)))) hP (fun k b1 b2 b3 => el k b2 b3) rfl e2 ?_ k]
    · rfl
    · funext i
      by_cases hi : i = Γ.1
      · subst hi
        rw [va_up_self, if_pos (by omega)]
      · rw [va_up_ne _ _ hi]
        by_cases h2 : i < Γ.1
        · rw [if_pos h2, if_pos (by omega), el (13 + i) (by omega) (by omega)]
        · rw [if_neg h2, if_neg (by omega)]
