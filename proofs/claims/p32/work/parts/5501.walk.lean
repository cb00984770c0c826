abbrev rm_L_isDone : Room := { frames := 9, cells := 3, slots := 18, locals := 154 }
def w_L_isDone (post : Int32 → MS → Prop) (σ : MS) (a1 : Int32) : Prop := w_N_X7_desk (fun r2 σ1 => w_L_below (fun r4 σ3 => w_N_X7_desk (fun r6 σ5 => w_L_below (fun r8 σ7 => w_L_below (fun r10 σ9 => ((r10 = 0 → w_T_X7_fix (fun r14 σ11 => post 1 σ11) (fun E9 σ12 => E9 = "java/lang/IllegalStateException" ∧ post 0 σ12) σ9 r4) ∧ (¬ r10 = 0 → ((r10 = 1 → w_T_X7_fix (fun r19 σ16 => post 1 σ16) (fun E9 σ17 => E9 = "java/lang/IllegalStateException" ∧ post 0 σ17) σ9 r4) ∧ (¬ r10 = 1 → ((r10 = 2 → w_T_X7_fix (fun r24 σ21 => post 1 σ21) (fun E9 σ22 => E9 = "java/lang/IllegalStateException" ∧ post 0 σ22) σ9 r4) ∧ (¬ r10 = 2 → ((r10 = 3 → w_T_X7_cancel (fun r29 σ26 => post 1 σ26) (fun E9 σ27 => E9 = "java/lang/IllegalStateException" ∧ post 0 σ27) σ9 r4) ∧ (¬ r10 = 3 → ((r10 = 4 → w_N_X7_desk (fun r32 σ31 => w_L_below (fun r34 σ33 => w_T_X7_ill (fun r38 σ35 => post 1 σ35) (fun E9 σ36 => E9 = "java/lang/IllegalStateException" ∧ post 0 σ36) σ33 r8 (if (r32 + r34) < 365 then (r32 + r34) else 365)) σ31 (a1 >>> (3 &&& 31)) 4) σ9 0) ∧ (¬ r10 = 4 → ((r10 = 5 → w_L_below (fun r41 σ40 => w_T_X7_late (fun r45 σ42 => post 1 σ42) (fun E9 σ43 => E9 = "java/lang/IllegalStateException" ∧ post 0 σ43) σ40 r4 r41) σ9 (a1 >>> (5 &&& 31)) 241) ∧ (¬ r10 = 5 → ((r10 = 6 → w_L_below (fun r48 σ47 => w_T_X7_learn (fun r52 σ49 => post 1 σ49) (fun E9 σ50 => E9 = "java/lang/IllegalStateException" ∧ post 0 σ50) σ47 r8 (1 <<< (r48 &&& 31))) σ9 (a1 >>> (3 &&& 31)) 16) ∧ (¬ r10 = 6 → ((r10 = 7 → w_L_asked (fun σ54 => post 1 σ54) σ9 (a1 >>> (3 &&& 31))) ∧ (¬ r10 = 7 → ((r10 = 8 → w_L_below (fun r57 σ56 => w_L_below (fun r59 σ58 => ((r57 = r59 → post 1 σ58) ∧ (¬ r57 = r59 → w_L_below (fun r62 σ61 => w_L_below (fun r64 σ63 => w_L_below (fun r66 σ65 => w_N_X7_road (fun r68 σ67 => post 1 σ67) σ65 r62 r64 r66) σ63 (a1 >>> (3 &&& 31)) 8) σ61 (a1 >>> (5 &&& 31)) 6) σ58 (a1 >>> (9 &&& 31)) 6))) σ56 (a1 >>> (5 &&& 31)) 6) σ9 (a1 >>> (9 &&& 31)) 6) ∧ (¬ r10 = 8 → w_L_below (fun r71 σ70 => w_T_X7_pass (fun r75 σ72 => post 1 σ72) (fun E9 σ73 => E9 = "java/lang/IllegalStateException" ∧ post 0 σ73) σ70 (1 + r71)) σ9 (a1 >>> (4 &&& 31)) 2))))))))))))))))))) σ7 a1 11) σ5 (a1 >>> (6 &&& 31)) r6) σ3 1) σ1 (a1 >>> (4 &&& 31)) (if 1 < r2 then r2 else 1)) σ 3
set_option maxHeartbeats 4000000 in
set_option maxRecDepth 100000 in
theorem c_L_isDone (l : Launch) (hl0 : l.stackTraces = false) (D : va_G) (cy : Nat → ClassId) (lay : Nat → Nat) {σ : MS} {post : Int32 → MS → Prop} {a1 : Int32} (h : w_L_isDone post σ a1) (sz : Nat) : Met l yL_isDone wsL_isDone rm_L_isDone (va_Pc [.ref (lay 0), .int a1] (agI D cy lay σ sz)) (va_Qi post (agO D cy lay) (agA lay sz)) 3 18 (agA lay sz) := by
  refine ag_ofH (cc := cL_isDone) (maxL := 6) (ret := some .boolean) (own := RL) (Qc := fun sz => va_Qi post (agO D cy lay) (agA lay sz)) (hh := [(32, 251, 252, 58), (32, 251, 256, 81)]) (by decide) rfl (Nat.le_of_ble_eq_true rfl) rfl ?_
  intro p e s m args below meth c ls hC hr hlocks htab hT G hl
  unfold w_L_isDone at h
  have hl : lv_has ls 6 [(0, .ref (lay 0)), (1, .int a1)] := hl
  refine lv_aload_n hC.1 hC.2.1 dL_isDone_0 rfl (lv_at hl 0 rfl) ?_
  refine lv_iconst (v := 3) hC.1 hC.2.1 dL_isDone_1 (by decide) ?_
  refine ag_i G (ag_runV (As := [.int 3]) (rest := []) hC hT G (c_N_X7_desk l D cy lay h _) (cwV 1 hC.2.2.2.2 gL_isDone_X7_desk rfl rfl rfl hdV_X7_desk ⟨Nat.le_of_ble_eq_true rfl, Nat.le_of_ble_eq_true rfl⟩) (ag_recv hT G (by decide) e_ag k_X7) rfl hl.1 rfl (Nat.le_of_ble_eq_true rfl) dL_isDone_2 ⟨Nat.le_of_ble_eq_true rfl, Nat.le_of_ble_eq_true rfl⟩) (fun r2 σ1 H locs h G => ?_)
  (try dsimp only at h)
  refine lv_istore_n (lv' := [(2, .int r2), (0, .ref (lay 0)), (1, .int a1)]) hC.1 hC.2.1 dL_isDone_5 rfl hl (by decide) rfl (fun ls hl => ?_)
  refine lv_iload_n hC.1 hC.2.1 dL_isDone_6 rfl (lv_at hl 2 rfl) ?_
  refine lv_iconst (v := 4) hC.1 hC.2.1 dL_isDone_7 (by decide) ?_
  refine lv_ishr hC.1 hC.2.1 dL_isDone_8 ?_
  refine lv_iconst (v := 1) hC.1 hC.2.1 dL_isDone_9 (by decide) ?_
  refine lv_iload_n hC.1 hC.2.1 dL_isDone_10 rfl (lv_at hl 0 rfl) ?_
  refine va_mmax hC.1 hC.2.1 (hC.2.2.1.trans hl.1.symm) hC.2.2.2.1 (hC.2.2.2.2 _ (wm 3 rfl)) (hC.2.2.2.2 _ (wm 4 rfl)) (hC.2.2.2.2 _ (wm 5 rfl)) (hC.2.2.2.2 _ (wm 6 rfl)) (Nat.le_of_ble_eq_true rfl) (Nat.le_of_ble_eq_true rfl) (Nat.le_of_ble_eq_true rfl) (Nat.le_of_ble_eq_true rfl) dL_isDone_11 ?_
  refine ag_i G (ag_runS (As := [.int (a1 >>> (4 &&& 31)), .int (if 1 < r2 then r2 else 1)]) (rest := []) hC hT G (c_L_below l D cy lay h _) (va_cwS 2 hC.2.2.2.2 gL_isDone_L_below rfl rfl rfl hdS_L_below ⟨Nat.le_of_ble_eq_true rfl, Nat.le_of_ble_eq_true rfl⟩) rfl hl.1 rfl (Nat.le_of_ble_eq_true rfl) dL_isDone_14 ⟨Nat.le_of_ble_eq_true rfl, Nat.le_of_ble_eq_true rfl⟩) (fun r4 σ3 H locs h G => ?_)
  (try dsimp only at h)
  refine lv_istore_n (lv' := [(3, .int r4), (2, .int r2), (0, .ref (lay 0)), (1, .int a1)]) hC.1 hC.2.1 dL_isDone_17 rfl hl (by decide) rfl (fun ls hl => ?_)
  refine lv_iload_n hC.1 hC.2.1 dL_isDone_18 rfl (lv_at hl 3 rfl) ?_
  refine lv_bipush (v := 6) hC.1 hC.2.1 dL_isDone_19 (by decide) ?_
  refine lv_ishr hC.1 hC.2.1 dL_isDone_21 ?_
  refine lv_aload_n hC.1 hC.2.1 dL_isDone_22 rfl (lv_at hl 2 rfl) ?_
  refine lv_iconst (v := 1) hC.1 hC.2.1 dL_isDone_23 (by decide) ?_
  refine ag_i G (ag_runV (As := [.int 1]) (rest := [.int (a1 >>> (6 &&& 31))]) hC hT G (c_N_X7_desk l D cy lay h _) (cwV 1 hC.2.2.2.2 gL_isDone_X7_desk rfl rfl rfl hdV_X7_desk ⟨Nat.le_of_ble_eq_true rfl, Nat.le_of_ble_eq_true rfl⟩) (ag_recv hT G (by decide) e_ag k_X7) rfl hl.1 rfl (Nat.le_of_ble_eq_true rfl) dL_isDone_24 ⟨Nat.le_of_ble_eq_true rfl, Nat.le_of_ble_eq_true rfl⟩) (fun r6 σ5 H locs h G => ?_)
  (try dsimp only at h)
  refine ag_i G (ag_runS (As := [.int (a1 >>> (6 &&& 31)), .int r6]) (rest := []) hC hT G (c_L_below l D cy lay h _) (va_cwS 2 hC.2.2.2.2 gL_isDone_L_below rfl rfl rfl hdS_L_below ⟨Nat.le_of_ble_eq_true rfl, Nat.le_of_ble_eq_true rfl⟩) rfl hl.1 rfl (Nat.le_of_ble_eq_true rfl) dL_isDone_27 ⟨Nat.le_of_ble_eq_true rfl, Nat.le_of_ble_eq_true rfl⟩) (fun r8 σ7 H locs h G => ?_)
  (try dsimp only at h)
  refine lv_istore (lv' := [(4, .int r8), (3, .int r4), (2, .int r2), (0, .ref (lay 0)), (1, .int a1)]) hC.1 hC.2.1 dL_isDone_30 hl (by decide) rfl (fun ls hl => ?_)
  refine lv_iload_n hC.1 hC.2.1 dL_isDone_32 rfl (lv_at hl 4 rfl) ?_
  refine lv_bipush (v := 11) hC.1 hC.2.1 dL_isDone_33 (by decide) ?_
  refine ag_i G (ag_runS (As := [.int a1, .int 11]) (rest := []) hC hT G (c_L_below l D cy lay h _) (va_cwS 2 hC.2.2.2.2 gL_isDone_L_below rfl rfl rfl hdS_L_below ⟨Nat.le_of_ble_eq_true rfl, Nat.le_of_ble_eq_true rfl⟩) rfl hl.1 rfl (Nat.le_of_ble_eq_true rfl) dL_isDone_35 ⟨Nat.le_of_ble_eq_true rfl, Nat.le_of_ble_eq_true rfl⟩) (fun r10 σ9 H locs h G => ?_)
  (try dsimp only at h)
  rcases Decidable.em (r10 = 0) with c15 | c15
  · replace h := h.1 c15
    refine lv_tableIn (off := 50) (tgt := 88) hC.1 hC.2.1 dL_isDone_38 (by rw [c15]; decide) (by rw [c15]; decide) (by rw [c15]; rfl) (by decide) ?_
    refine lv_aload_n hC.1 hC.2.1 dL_isDone_88 rfl (lv_at hl 3 rfl) ?_
    refine lv_iload_n hC.1 hC.2.1 dL_isDone_89 rfl (lv_at hl 1 rfl) ?_
    refine ag_iC G (ag_runVT (As := [.int r4]) (rest := []) hC hT G (c_T_X7_fix l hl0 D cy lay h _) (cwV 1 hC.2.2.2.2 gL_isDone_X7_fix rfl rfl rfl hdV_X7_fix ⟨Nat.le_of_ble_eq_true rfl, Nat.le_of_ble_eq_true rfl⟩) (ag_recv hT G (by decide) e_ag k_X7) rfl hl.1 rfl (Nat.le_of_ble_eq_true rfl) dL_isDone_90 ⟨Nat.le_of_ble_eq_true rfl, Nat.le_of_ble_eq_true rfl⟩) (fun E9 ce9 q13 σ12 H locs h G hc1 hc2 hc3 => ?_) (fun r14 σ11 H locs h G => ?_)
    · (try dsimp only at h)
      obtain ⟨rfl, h⟩ := h
      refine vx_catch (own := RL) (name := "java/lang/IllegalStateException") hC.2.2.2.1 [] ⟨32, 251, 252, 58⟩ [⟨32, 251, 256, 81⟩] htab (fun z hz => by cases hz) (by decide) (by decide) (hC.2.2.2.2 _ (wm 1 rfl)) (nest_use _ rfl (hT.2.1 _ (wm 5 rfl))) hc1 hc2 hc3 ?_
      refine lv_astore (lv' := [(5, .ref q13), (4, .int r8), (3, .int r4), (2, .int r2), (0, .ref (lay 0)), (1, .int a1)]) hC.1 hC.2.1 dL_isDone_252 hl (by decide) rfl (fun ls hl => ?_)
      refine lv_iconst (v := 0) hC.1 hC.2.1 dL_isDone_254 (by decide) ?_
      refine W.widen (k := 3) (n := 18) (by decide) (by decide) ?_
      exact ag_zret hC hr hlocks G rfl h dL_isDone_255
    (try dsimp only at h)
    refine lv_pop hC.1 hC.2.1 dL_isDone_93 rfl ?_
    refine lv_goto (tgt := 250) hC.1 hC.2.1 dL_isDone_94 (by decide) ?_
    refine lv_iconst (v := 1) hC.1 hC.2.1 dL_isDone_250 (by decide) ?_
    refine W.widen (k := 3) (n := 18) (by decide) (by decide) ?_
    exact ag_zret hC hr hlocks G rfl h dL_isDone_251
  · replace h := h.2 c15
    rcases Decidable.em (r10 = 1) with c20 | c20
    · replace h := h.1 c20
      refine lv_tableIn (off := 50) (tgt := 88) hC.1 hC.2.1 dL_isDone_38 (by rw [c20]; decide) (by rw [c20]; decide) (by rw [c20]; rfl) (by decide) ?_
      refine lv_aload_n hC.1 hC.2.1 dL_isDone_88 rfl (lv_at hl 3 rfl) ?_
      refine lv_iload_n hC.1 hC.2.1 dL_isDone_89 rfl (lv_at hl 1 rfl) ?_
      refine ag_iC G (ag_runVT (As := [.int r4]) (rest := []) hC hT G (c_T_X7_fix l hl0 D cy lay h _) (cwV 1 hC.2.2.2.2 gL_isDone_X7_fix rfl rfl rfl hdV_X7_fix ⟨Nat.le_of_ble_eq_true rfl, Nat.le_of_ble_eq_true rfl⟩) (ag_recv hT G (by decide) e_ag k_X7) rfl hl.1 rfl (Nat.le_of_ble_eq_true rfl) dL_isDone_90 ⟨Nat.le_of_ble_eq_true rfl, Nat.le_of_ble_eq_true rfl⟩) (fun E9 ce9 q18 σ17 H locs h G hc1 hc2 hc3 => ?_) (fun r19 σ16 H locs h G => ?_)
      · (try dsimp only at h)
        obtain ⟨rfl, h⟩ := h
        refine vx_catch (own := RL) (name := "java/lang/IllegalStateException") hC.2.2.2.1 [] ⟨32, 251, 252, 58⟩ [⟨32, 251, 256, 81⟩] htab (fun z hz => by cases hz) (by decide) (by decide) (hC.2.2.2.2 _ (wm 1 rfl)) (nest_use _ rfl (hT.2.1 _ (wm 5 rfl))) hc1 hc2 hc3 ?_
        refine lv_astore (lv' := [(5, .ref q18), (4, .int r8), (3, .int r4), (2, .int r2), (0, .ref (lay 0)), (1, .int a1)]) hC.1 hC.2.1 dL_isDone_252 hl (by decide) rfl (fun ls hl => ?_)
        refine lv_iconst (v := 0) hC.1 hC.2.1 dL_isDone_254 (by decide) ?_
        refine W.widen (k := 3) (n := 18) (by decide) (by decide) ?_
        exact ag_zret hC hr hlocks G rfl h dL_isDone_255
      (try dsimp only at h)
      refine lv_pop hC.1 hC.2.1 dL_isDone_93 rfl ?_
      refine lv_goto (tgt := 250) hC.1 hC.2.1 dL_isDone_94 (by decide) ?_
      refine lv_iconst (v := 1) hC.1 hC.2.1 dL_isDone_250 (by decide) ?_
      refine W.widen (k := 3) (n := 18) (by decide) (by decide) ?_
      exact ag_zret hC hr hlocks G rfl h dL_isDone_251
    · replace h := h.2 c20
      rcases Decidable.em (r10 = 2) with c25 | c25
      · replace h := h.1 c25
        refine lv_tableIn (off := 50) (tgt := 88) hC.1 hC.2.1 dL_isDone_38 (by rw [c25]; decide) (by rw [c25]; decide) (by rw [c25]; rfl) (by decide) ?_
        refine lv_aload_n hC.1 hC.2.1 dL_isDone_88 rfl (lv_at hl 3 rfl) ?_
        refine lv_iload_n hC.1 hC.2.1 dL_isDone_89 rfl (lv_at hl 1 rfl) ?_
        refine ag_iC G (ag_runVT (As := [.int r4]) (rest := []) hC hT G (c_T_X7_fix l hl0 D cy lay h _) (cwV 1 hC.2.2.2.2 gL_isDone_X7_fix rfl rfl rfl hdV_X7_fix ⟨Nat.le_of_ble_eq_true rfl, Nat.le_of_ble_eq_true rfl⟩) (ag_recv hT G (by decide) e_ag k_X7) rfl hl.1 rfl (Nat.le_of_ble_eq_true rfl) dL_isDone_90 ⟨Nat.le_of_ble_eq_true rfl, Nat.le_of_ble_eq_true rfl⟩) (fun E9 ce9 q23 σ22 H locs h G hc1 hc2 hc3 => ?_) (fun r24 σ21 H locs h G => ?_)
        · (try dsimp only at h)
          obtain ⟨rfl, h⟩ := h
          refine vx_catch (own := RL) (name := "java/lang/IllegalStateException") hC.2.2.2.1 [] ⟨32, 251, 252, 58⟩ [⟨32, 251, 256, 81⟩] htab (fun z hz => by cases hz) (by decide) (by decide) (hC.2.2.2.2 _ (wm 1 rfl)) (nest_use _ rfl (hT.2.1 _ (wm 5 rfl))) hc1 hc2 hc3 ?_
          refine lv_astore (lv' := [(5, .ref q23), (4, .int r8), (3, .int r4), (2, .int r2), (0, .ref (lay 0)), (1, .int a1)]) hC.1 hC.2.1 dL_isDone_252 hl (by decide) rfl (fun ls hl => ?_)
          refine lv_iconst (v := 0) hC.1 hC.2.1 dL_isDone_254 (by decide) ?_
          refine W.widen (k := 3) (n := 18) (by decide) (by decide) ?_
          exact ag_zret hC hr hlocks G rfl h dL_isDone_255
        (try dsimp only at h)
        refine lv_pop hC.1 hC.2.1 dL_isDone_93 rfl ?_
        refine lv_goto (tgt := 250) hC.1 hC.2.1 dL_isDone_94 (by decide) ?_
        refine lv_iconst (v := 1) hC.1 hC.2.1 dL_isDone_250 (by decide) ?_
        refine W.widen (k := 3) (n := 18) (by decide) (by decide) ?_
        exact ag_zret hC hr hlocks G rfl h dL_isDone_251
      · replace h := h.2 c25
        rcases Decidable.em (r10 = 3) with c30 | c30
        · replace h := h.1 c30
          refine lv_tableIn (off := 59) (tgt := 97) hC.1 hC.2.1 dL_isDone_38 (by rw [c30]; decide) (by rw [c30]; decide) (by rw [c30]; rfl) (by decide) ?_
          refine lv_aload_n hC.1 hC.2.1 dL_isDone_97 rfl (lv_at hl 3 rfl) ?_
          refine lv_iload_n hC.1 hC.2.1 dL_isDone_98 rfl (lv_at hl 1 rfl) ?_
          refine ag_iC G (ag_runVT (As := [.int r4]) (rest := []) hC hT G (c_T_X7_cancel l hl0 D cy lay h _) (cwV 1 hC.2.2.2.2 gL_isDone_X7_cancel rfl rfl rfl hdV_X7_cancel ⟨Nat.le_of_ble_eq_true rfl, Nat.le_of_ble_eq_true rfl⟩) (ag_recv hT G (by decide) e_ag k_X7) rfl hl.1 rfl (Nat.le_of_ble_eq_true rfl) dL_isDone_99 ⟨Nat.le_of_ble_eq_true rfl, Nat.le_of_ble_eq_true rfl⟩) (fun E9 ce9 q28 σ27 H locs h G hc1 hc2 hc3 => ?_) (fun r29 σ26 H locs h G => ?_)
          · (try dsimp only at h)
            obtain ⟨rfl, h⟩ := h
            refine vx_catch (own := RL) (name := "java/lang/IllegalStateException") hC.2.2.2.1 [] ⟨32, 251, 252, 58⟩ [⟨32, 251, 256, 81⟩] htab (fun z hz => by cases hz) (by decide) (by decide) (hC.2.2.2.2 _ (wm 1 rfl)) (nest_use _ rfl (hT.2.1 _ (wm 5 rfl))) hc1 hc2 hc3 ?_
            refine lv_astore (lv' := [(5, .ref q28), (4, .int r8), (3, .int r4), (2, .int r2), (0, .ref (lay 0)), (1, .int a1)]) hC.1 hC.2.1 dL_isDone_252 hl (by decide) rfl (fun ls hl => ?_)
            refine lv_iconst (v := 0) hC.1 hC.2.1 dL_isDone_254 (by decide) ?_
            refine W.widen (k := 3) (n := 18) (by decide) (by decide) ?_
            exact ag_zret hC hr hlocks G rfl h dL_isDone_255
          (try dsimp only at h)
          refine lv_pop hC.1 hC.2.1 dL_isDone_102 rfl ?_
          refine lv_goto (tgt := 250) hC.1 hC.2.1 dL_isDone_103 (by decide) ?_
          refine lv_iconst (v := 1) hC.1 hC.2.1 dL_isDone_250 (by decide) ?_
          refine W.widen (k := 3) (n := 18) (by decide) (by decide) ?_
          exact ag_zret hC hr hlocks G rfl h dL_isDone_251
        · replace h := h.2 c30
          rcases Decidable.em (r10 = 4) with c39 | c39
          · replace h := h.1 c39
            refine lv_tableIn (off := 68) (tgt := 106) hC.1 hC.2.1 dL_isDone_38 (by rw [c39]; decide) (by rw [c39]; decide) (by rw [c39]; rfl) (by decide) ?_
            refine lv_aload_n hC.1 hC.2.1 dL_isDone_106 rfl (lv_at hl 3 rfl) ?_
            refine lv_iload hC.1 hC.2.1 dL_isDone_107 (lv_at hl 0 rfl) ?_
            refine lv_sipush (v := 365) hC.1 hC.2.1 dL_isDone_109 (by decide) ?_
            refine lv_aload_n hC.1 hC.2.1 dL_isDone_112 rfl (lv_at hl 3 rfl) ?_
            refine lv_iconst (v := 0) hC.1 hC.2.1 dL_isDone_113 (by decide) ?_
            refine ag_i G (ag_runV (As := [.int 0]) (rest := [.int 365, .int r8, .ref (lay 0)]) hC hT G (c_N_X7_desk l D cy lay h _) (cwV 1 hC.2.2.2.2 gL_isDone_X7_desk rfl rfl rfl hdV_X7_desk ⟨Nat.le_of_ble_eq_true rfl, Nat.le_of_ble_eq_true rfl⟩) (ag_recv hT G (by decide) e_ag k_X7) rfl hl.1 rfl (Nat.le_of_ble_eq_true rfl) dL_isDone_114 ⟨Nat.le_of_ble_eq_true rfl, Nat.le_of_ble_eq_true rfl⟩) (fun r32 σ31 H locs h G => ?_)
            (try dsimp only at h)
            refine lv_iload_n hC.1 hC.2.1 dL_isDone_117 rfl (lv_at hl 4 rfl) ?_
            refine lv_iconst (v := 3) hC.1 hC.2.1 dL_isDone_118 (by decide) ?_
            refine lv_ishr hC.1 hC.2.1 dL_isDone_119 ?_
            refine lv_iconst (v := 4) hC.1 hC.2.1 dL_isDone_120 (by decide) ?_
            refine ag_i G (ag_runS (As := [.int (a1 >>> (3 &&& 31)), .int 4]) (rest := [.int r32, .int 365, .int r8, .ref (lay 0)]) hC hT G (c_L_below l D cy lay h _) (va_cwS 2 hC.2.2.2.2 gL_isDone_L_below rfl rfl rfl hdS_L_below ⟨Nat.le_of_ble_eq_true rfl, Nat.le_of_ble_eq_true rfl⟩) rfl hl.1 rfl (Nat.le_of_ble_eq_true rfl) dL_isDone_121 ⟨Nat.le_of_ble_eq_true rfl, Nat.le_of_ble_eq_true rfl⟩) (fun r34 σ33 H locs h G => ?_)
            (try dsimp only at h)
            refine lv_iadd hC.1 hC.2.1 dL_isDone_124 ?_
            refine va_mmin hC.1 hC.2.1 (hC.2.2.1.trans hl.1.symm) hC.2.2.2.1 (hC.2.2.2.2 _ (wm 7 rfl)) (hC.2.2.2.2 _ (wm 8 rfl)) (hC.2.2.2.2 _ (wm 5 rfl)) (hC.2.2.2.2 _ (wm 9 rfl)) (Nat.le_of_ble_eq_true rfl) (Nat.le_of_ble_eq_true rfl) (Nat.le_of_ble_eq_true rfl) (Nat.le_of_ble_eq_true rfl) dL_isDone_125 ?_
            refine ag_iC G (ag_runVT (As := [.int r8, .int (if (r32 + r34) < 365 then (r32 + r34) else 365)]) (rest := []) hC hT G (c_T_X7_ill l hl0 D cy lay h _) (cwV 2 hC.2.2.2.2 gL_isDone_X7_ill rfl rfl rfl hdV_X7_ill ⟨Nat.le_of_ble_eq_true rfl, Nat.le_of_ble_eq_true rfl⟩) (ag_recv hT G (by decide) e_ag k_X7) rfl hl.1 rfl (Nat.le_of_ble_eq_true rfl) dL_isDone_128 ⟨Nat.le_of_ble_eq_true rfl, Nat.le_of_ble_eq_true rfl⟩) (fun E9 ce9 q37 σ36 H locs h G hc1 hc2 hc3 => ?_) (fun r38 σ35 H locs h G => ?_)
            · (try dsimp only at h)
              obtain ⟨rfl, h⟩ := h
              refine vx_catch (own := RL) (name := "java/lang/IllegalStateException") hC.2.2.2.1 [] ⟨32, 251, 252, 58⟩ [⟨32, 251, 256, 81⟩] htab (fun z hz => by cases hz) (by decide) (by decide) (hC.2.2.2.2 _ (wm 1 rfl)) (nest_use _ rfl (hT.2.1 _ (wm 5 rfl))) hc1 hc2 hc3 ?_
              refine lv_astore (lv' := [(5, .ref q37), (4, .int r8), (3, .int r4), (2, .int r2), (0, .ref (lay 0)), (1, .int a1)]) hC.1 hC.2.1 dL_isDone_252 hl (by decide) rfl (fun ls hl => ?_)
              refine lv_iconst (v := 0) hC.1 hC.2.1 dL_isDone_254 (by decide) ?_
              refine W.widen (k := 3) (n := 18) (by decide) (by decide) ?_
              exact ag_zret hC hr hlocks G rfl h dL_isDone_255
            (try dsimp only at h)
            refine lv_pop hC.1 hC.2.1 dL_isDone_131 rfl ?_
            refine lv_goto (tgt := 250) hC.1 hC.2.1 dL_isDone_132 (by decide) ?_
            refine lv_iconst (v := 1) hC.1 hC.2.1 dL_isDone_250 (by decide) ?_
            refine W.widen (k := 3) (n := 18) (by decide) (by decide) ?_
            exact ag_zret hC hr hlocks G rfl h dL_isDone_251
          · replace h := h.2 c39
            rcases Decidable.em (r10 = 5) with c46 | c46
            · replace h := h.1 c46
              refine lv_tableIn (off := 97) (tgt := 135) hC.1 hC.2.1 dL_isDone_38 (by rw [c46]; decide) (by rw [c46]; decide) (by rw [c46]; rfl) (by decide) ?_
              refine lv_aload_n hC.1 hC.2.1 dL_isDone_135 rfl (lv_at hl 3 rfl) ?_
              refine lv_iload_n hC.1 hC.2.1 dL_isDone_136 rfl (lv_at hl 1 rfl) ?_
              refine lv_iload_n hC.1 hC.2.1 dL_isDone_137 rfl (lv_at hl 4 rfl) ?_
              refine lv_iconst (v := 5) hC.1 hC.2.1 dL_isDone_138 (by decide) ?_
              refine lv_ishr hC.1 hC.2.1 dL_isDone_139 ?_
              refine lv_sipush (v := 241) hC.1 hC.2.1 dL_isDone_140 (by decide) ?_
              refine ag_i G (ag_runS (As := [.int (a1 >>> (5 &&& 31)), .int 241]) (rest := [.int r4, .ref (lay 0)]) hC hT G (c_L_below l D cy lay h _) (va_cwS 2 hC.2.2.2.2 gL_isDone_L_below rfl rfl rfl hdS_L_below ⟨Nat.le_of_ble_eq_true rfl, Nat.le_of_ble_eq_true rfl⟩) rfl hl.1 rfl (Nat.le_of_ble_eq_true rfl) dL_isDone_143 ⟨Nat.le_of_ble_eq_true rfl, Nat.le_of_ble_eq_true rfl⟩) (fun r41 σ40 H locs h G => ?_)
              (try dsimp only at h)
              refine ag_iC G (ag_runVT (As := [.int r4, .int r41]) (rest := []) hC hT G (c_T_X7_late l hl0 D cy lay h _) (cwV 2 hC.2.2.2.2 gL_isDone_X7_late rfl rfl rfl hdV_X7_late ⟨Nat.le_of_ble_eq_true rfl, Nat.le_of_ble_eq_true rfl⟩) (ag_recv hT G (by decide) e_ag k_X7) rfl hl.1 rfl (Nat.le_of_ble_eq_true rfl) dL_isDone_146 ⟨Nat.le_of_ble_eq_true rfl, Nat.le_of_ble_eq_true rfl⟩) (fun E9 ce9 q44 σ43 H locs h G hc1 hc2 hc3 => ?_) (fun r45 σ42 H locs h G => ?_)
              · (try dsimp only at h)
                obtain ⟨rfl, h⟩ := h
                refine vx_catch (own := RL) (name := "java/lang/IllegalStateException") hC.2.2.2.1 [] ⟨32, 251, 252, 58⟩ [⟨32, 251, 256, 81⟩] htab (fun z hz => by cases hz) (by decide) (by decide) (hC.2.2.2.2 _ (wm 1 rfl)) (nest_use _ rfl (hT.2.1 _ (wm 5 rfl))) hc1 hc2 hc3 ?_
                refine lv_astore (lv' := [(5, .ref q44), (4, .int r8), (3, .int r4), (2, .int r2), (0, .ref (lay 0)), (1, .int a1)]) hC.1 hC.2.1 dL_isDone_252 hl (by decide) rfl (fun ls hl => ?_)
                refine lv_iconst (v := 0) hC.1 hC.2.1 dL_isDone_254 (by decide) ?_
                refine W.widen (k := 3) (n := 18) (by decide) (by decide) ?_
                exact ag_zret hC hr hlocks G rfl h dL_isDone_255
              (try dsimp only at h)
              refine lv_pop hC.1 hC.2.1 dL_isDone_149 rfl ?_
              refine lv_goto (tgt := 250) hC.1 hC.2.1 dL_isDone_150 (by decide) ?_
              refine lv_iconst (v := 1) hC.1 hC.2.1 dL_isDone_250 (by decide) ?_
              refine W.widen (k := 3) (n := 18) (by decide) (by decide) ?_
              exact ag_zret hC hr hlocks G rfl h dL_isDone_251
            · replace h := h.2 c46
              rcases Decidable.em (r10 = 6) with c53 | c53
              · replace h := h.1 c53
                refine lv_tableIn (off := 115) (tgt := 153) hC.1 hC.2.1 dL_isDone_38 (by rw [c53]; decide) (by rw [c53]; decide) (by rw [c53]; rfl) (by decide) ?_
                refine lv_aload_n hC.1 hC.2.1 dL_isDone_153 rfl (lv_at hl 3 rfl) ?_
                refine lv_iload hC.1 hC.2.1 dL_isDone_154 (lv_at hl 0 rfl) ?_
                refine lv_iconst (v := 1) hC.1 hC.2.1 dL_isDone_156 (by decide) ?_
                refine lv_iload_n hC.1 hC.2.1 dL_isDone_157 rfl (lv_at hl 4 rfl) ?_
                refine lv_iconst (v := 3) hC.1 hC.2.1 dL_isDone_158 (by decide) ?_
                refine lv_ishr hC.1 hC.2.1 dL_isDone_159 ?_
                refine lv_bipush (v := 16) hC.1 hC.2.1 dL_isDone_160 (by decide) ?_
                refine ag_i G (ag_runS (As := [.int (a1 >>> (3 &&& 31)), .int 16]) (rest := [.int 1, .int r8, .ref (lay 0)]) hC hT G (c_L_below l D cy lay h _) (va_cwS 2 hC.2.2.2.2 gL_isDone_L_below rfl rfl rfl hdS_L_below ⟨Nat.le_of_ble_eq_true rfl, Nat.le_of_ble_eq_true rfl⟩) rfl hl.1 rfl (Nat.le_of_ble_eq_true rfl) dL_isDone_162 ⟨Nat.le_of_ble_eq_true rfl, Nat.le_of_ble_eq_true rfl⟩) (fun r48 σ47 H locs h G => ?_)
                (try dsimp only at h)
                refine lv_ishl hC.1 hC.2.1 dL_isDone_165 ?_
                refine ag_iC G (ag_runVT (As := [.int r8, .int (1 <<< (r48 &&& 31))]) (rest := []) hC hT G (c_T_X7_learn l hl0 D cy lay h _) (cwV 2 hC.2.2.2.2 gL_isDone_X7_learn rfl rfl rfl hdV_X7_learn ⟨Nat.le_of_ble_eq_true rfl, Nat.le_of_ble_eq_true rfl⟩) (ag_recv hT G (by decide) e_ag k_X7) rfl hl.1 rfl (Nat.le_of_ble_eq_true rfl) dL_isDone_166 ⟨Nat.le_of_ble_eq_true rfl, Nat.le_of_ble_eq_true rfl⟩) (fun E9 ce9 q51 σ50 H locs h G hc1 hc2 hc3 => ?_) (fun r52 σ49 H locs h G => ?_)
                · (try dsimp only at h)
                  obtain ⟨rfl, h⟩ := h
                  refine vx_catch (own := RL) (name := "java/lang/IllegalStateException") hC.2.2.2.1 [] ⟨32, 251, 252, 58⟩ [⟨32, 251, 256, 81⟩] htab (fun z hz => by cases hz) (by decide) (by decide) (hC.2.2.2.2 _ (wm 1 rfl)) (nest_use _ rfl (hT.2.1 _ (wm 5 rfl))) hc1 hc2 hc3 ?_
                  refine lv_astore (lv' := [(5, .ref q51), (4, .int r8), (3, .int r4), (2, .int r2), (0, .ref (lay 0)), (1, .int a1)]) hC.1 hC.2.1 dL_isDone_252 hl (by decide) rfl (fun ls hl => ?_)
                  refine lv_iconst (v := 0) hC.1 hC.2.1 dL_isDone_254 (by decide) ?_
                  refine W.widen (k := 3) (n := 18) (by decide) (by decide) ?_
                  exact ag_zret hC hr hlocks G rfl h dL_isDone_255
                (try dsimp only at h)
                refine lv_pop hC.1 hC.2.1 dL_isDone_169 rfl ?_
                refine lv_goto (tgt := 250) hC.1 hC.2.1 dL_isDone_170 (by decide) ?_
                refine lv_iconst (v := 1) hC.1 hC.2.1 dL_isDone_250 (by decide) ?_
                refine W.widen (k := 3) (n := 18) (by decide) (by decide) ?_
                exact ag_zret hC hr hlocks G rfl h dL_isDone_251
              · replace h := h.2 c53
                rcases Decidable.em (r10 = 7) with c55 | c55
                · replace h := h.1 c55
                  refine lv_tableIn (off := 135) (tgt := 173) hC.1 hC.2.1 dL_isDone_38 (by rw [c55]; decide) (by rw [c55]; decide) (by rw [c55]; rfl) (by decide) ?_
                  refine lv_aload_n hC.1 hC.2.1 dL_isDone_173 rfl (lv_at hl 3 rfl) ?_
                  refine lv_iload_n hC.1 hC.2.1 dL_isDone_174 rfl (lv_at hl 4 rfl) ?_
                  refine lv_iconst (v := 3) hC.1 hC.2.1 dL_isDone_175 (by decide) ?_
                  refine lv_ishr hC.1 hC.2.1 dL_isDone_176 ?_
                  refine ag_v G (ag_runSW (As := [.ref (lay 0), .int (a1 >>> (3 &&& 31))]) (rest := []) hC hT G (c_L_asked l hl0 D cy lay h _) (vx_cwSW 2 hC.2.2.2.2 gL_isDone_L_asked rfl rfl rfl hdS_L_asked ⟨Nat.le_of_ble_eq_true rfl, Nat.le_of_ble_eq_true rfl⟩) rfl hl.1 rfl (Nat.le_of_ble_eq_true rfl) dL_isDone_177 ⟨Nat.le_of_ble_eq_true rfl, Nat.le_of_ble_eq_true rfl⟩) (fun σ54 H locs h G => ?_)
                  (try dsimp only at h)
                  refine lv_goto (tgt := 250) hC.1 hC.2.1 dL_isDone_180 (by decide) ?_
                  refine lv_iconst (v := 1) hC.1 hC.2.1 dL_isDone_250 (by decide) ?_
                  refine W.widen (k := 3) (n := 18) (by decide) (by decide) ?_
                  exact ag_zret hC hr hlocks G rfl h dL_isDone_251
                · replace h := h.2 c55
                  rcases Decidable.em (r10 = 8) with c69 | c69
                  · replace h := h.1 c69
                    refine lv_tableIn (off := 145) (tgt := 183) hC.1 hC.2.1 dL_isDone_38 (by rw [c69]; decide) (by rw [c69]; decide) (by rw [c69]; rfl) (by decide) ?_
                    refine lv_iload_n hC.1 hC.2.1 dL_isDone_183 rfl (lv_at hl 4 rfl) ?_
                    refine lv_bipush (v := 9) hC.1 hC.2.1 dL_isDone_184 (by decide) ?_
                    refine lv_ishr hC.1 hC.2.1 dL_isDone_186 ?_
                    refine lv_bipush (v := 6) hC.1 hC.2.1 dL_isDone_187 (by decide) ?_
                    refine ag_i G (ag_runS (As := [.int (a1 >>> (9 &&& 31)), .int 6]) (rest := []) hC hT G (c_L_below l D cy lay h _) (va_cwS 2 hC.2.2.2.2 gL_isDone_L_below rfl rfl rfl hdS_L_below ⟨Nat.le_of_ble_eq_true rfl, Nat.le_of_ble_eq_true rfl⟩) rfl hl.1 rfl (Nat.le_of_ble_eq_true rfl) dL_isDone_189 ⟨Nat.le_of_ble_eq_true rfl, Nat.le_of_ble_eq_true rfl⟩) (fun r57 σ56 H locs h G => ?_)
                    (try dsimp only at h)
                    refine lv_iload_n hC.1 hC.2.1 dL_isDone_192 rfl (lv_at hl 4 rfl) ?_
                    refine lv_iconst (v := 5) hC.1 hC.2.1 dL_isDone_193 (by decide) ?_
                    refine lv_ishr hC.1 hC.2.1 dL_isDone_194 ?_
                    refine lv_bipush (v := 6) hC.1 hC.2.1 dL_isDone_195 (by decide) ?_
                    refine ag_i G (ag_runS (As := [.int (a1 >>> (5 &&& 31)), .int 6]) (rest := [.int r57]) hC hT G (c_L_below l D cy lay h _) (va_cwS 2 hC.2.2.2.2 gL_isDone_L_below rfl rfl rfl hdS_L_below ⟨Nat.le_of_ble_eq_true rfl, Nat.le_of_ble_eq_true rfl⟩) rfl hl.1 rfl (Nat.le_of_ble_eq_true rfl) dL_isDone_197 ⟨Nat.le_of_ble_eq_true rfl, Nat.le_of_ble_eq_true rfl⟩) (fun r59 σ58 H locs h G => ?_)
                    (try dsimp only at h)
                    refine lv_icmp_eq (tgt := 250) hC.1 hC.2.1 dL_isDone_200 (by decide) (fun c60 => ?_) (fun c60 => ?_)
                    · replace h := h.1 c60
                      refine lv_iconst (v := 1) hC.1 hC.2.1 dL_isDone_250 (by decide) ?_
                      refine W.widen (k := 3) (n := 18) (by decide) (by decide) ?_
                      exact ag_zret hC hr hlocks G rfl h dL_isDone_251
                    · replace h := h.2 c60
                      refine lv_aload_n hC.1 hC.2.1 dL_isDone_203 rfl (lv_at hl 3 rfl) ?_
                      refine lv_iload_n hC.1 hC.2.1 dL_isDone_204 rfl (lv_at hl 4 rfl) ?_
                      refine lv_bipush (v := 9) hC.1 hC.2.1 dL_isDone_205 (by decide) ?_
                      refine lv_ishr hC.1 hC.2.1 dL_isDone_207 ?_
                      refine lv_bipush (v := 6) hC.1 hC.2.1 dL_isDone_208 (by decide) ?_
                      refine ag_i G (ag_runS (As := [.int (a1 >>> (9 &&& 31)), .int 6]) (rest := [.ref (lay 0)]) hC hT G (c_L_below l D cy lay h _) (va_cwS 2 hC.2.2.2.2 gL_isDone_L_below rfl rfl rfl hdS_L_below ⟨Nat.le_of_ble_eq_true rfl, Nat.le_of_ble_eq_true rfl⟩) rfl hl.1 rfl (Nat.le_of_ble_eq_true rfl) dL_isDone_210 ⟨Nat.le_of_ble_eq_true rfl, Nat.le_of_ble_eq_true rfl⟩) (fun r62 σ61 H locs h G => ?_)
                      (try dsimp only at h)
                      refine lv_iload_n hC.1 hC.2.1 dL_isDone_213 rfl (lv_at hl 4 rfl) ?_
                      refine lv_iconst (v := 5) hC.1 hC.2.1 dL_isDone_214 (by decide) ?_
                      refine lv_ishr hC.1 hC.2.1 dL_isDone_215 ?_
                      refine lv_bipush (v := 6) hC.1 hC.2.1 dL_isDone_216 (by decide) ?_
                      refine ag_i G (ag_runS (As := [.int (a1 >>> (5 &&& 31)), .int 6]) (rest := [.int r62, .ref (lay 0)]) hC hT G (c_L_below l D cy lay h _) (va_cwS 2 hC.2.2.2.2 gL_isDone_L_below rfl rfl rfl hdS_L_below ⟨Nat.le_of_ble_eq_true rfl, Nat.le_of_ble_eq_true rfl⟩) rfl hl.1 rfl (Nat.le_of_ble_eq_true rfl) dL_isDone_218 ⟨Nat.le_of_ble_eq_true rfl, Nat.le_of_ble_eq_true rfl⟩) (fun r64 σ63 H locs h G => ?_)
                      (try dsimp only at h)
                      refine lv_iload_n hC.1 hC.2.1 dL_isDone_221 rfl (lv_at hl 4 rfl) ?_
                      refine lv_iconst (v := 3) hC.1 hC.2.1 dL_isDone_222 (by decide) ?_
                      refine lv_ishr hC.1 hC.2.1 dL_isDone_223 ?_
                      refine lv_bipush (v := 8) hC.1 hC.2.1 dL_isDone_224 (by decide) ?_
                      refine ag_i G (ag_runS (As := [.int (a1 >>> (3 &&& 31)), .int 8]) (rest := [.int r64, .int r62, .ref (lay 0)]) hC hT G (c_L_below l D cy lay h _) (va_cwS 2 hC.2.2.2.2 gL_isDone_L_below rfl rfl rfl hdS_L_below ⟨Nat.le_of_ble_eq_true rfl, Nat.le_of_ble_eq_true rfl⟩) rfl hl.1 rfl (Nat.le_of_ble_eq_true rfl) dL_isDone_226 ⟨Nat.le_of_ble_eq_true rfl, Nat.le_of_ble_eq_true rfl⟩) (fun r66 σ65 H locs h G => ?_)
                      (try dsimp only at h)
                      refine ag_i G (ag_runV (As := [.int r62, .int r64, .int r66]) (rest := []) hC hT G (c_N_X7_road l D cy lay h _) (cwV 3 hC.2.2.2.2 gL_isDone_X7_road rfl rfl rfl hdV_X7_road ⟨Nat.le_of_ble_eq_true rfl, Nat.le_of_ble_eq_true rfl⟩) (ag_recv hT G (by decide) e_ag k_X7) rfl hl.1 rfl (Nat.le_of_ble_eq_true rfl) dL_isDone_229 ⟨Nat.le_of_ble_eq_true rfl, Nat.le_of_ble_eq_true rfl⟩) (fun r68 σ67 H locs h G => ?_)
                      (try dsimp only at h)
                      refine lv_pop hC.1 hC.2.1 dL_isDone_232 rfl ?_
                      refine lv_goto (tgt := 250) hC.1 hC.2.1 dL_isDone_233 (by decide) ?_
                      refine lv_iconst (v := 1) hC.1 hC.2.1 dL_isDone_250 (by decide) ?_
                      refine W.widen (k := 3) (n := 18) (by decide) (by decide) ?_
                      exact ag_zret hC hr hlocks G rfl h dL_isDone_251
                  · replace h := h.2 c69
                    refine lv_tableOut (tgt := 236) hC.1 hC.2.1 dL_isDone_38 (tsw_out 9 rfl (by decide) (fun k hk => by rcases (show k = 0 ∨ k = 1 ∨ k = 2 ∨ k = 3 ∨ k = 4 ∨ k = 5 ∨ k = 6 ∨ k = 7 ∨ k = 8 by omega) with rfl | rfl | rfl | rfl | rfl | rfl | rfl | rfl | rfl <;> assumption)) (by decide) ?_
                    refine lv_aload_n hC.1 hC.2.1 dL_isDone_236 rfl (lv_at hl 3 rfl) ?_
                    refine lv_iconst (v := 1) hC.1 hC.2.1 dL_isDone_237 (by decide) ?_
                    refine lv_iload_n hC.1 hC.2.1 dL_isDone_238 rfl (lv_at hl 4 rfl) ?_
                    refine lv_iconst (v := 4) hC.1 hC.2.1 dL_isDone_239 (by decide) ?_
                    refine lv_ishr hC.1 hC.2.1 dL_isDone_240 ?_
                    refine lv_iconst (v := 2) hC.1 hC.2.1 dL_isDone_241 (by decide) ?_
                    refine ag_i G (ag_runS (As := [.int (a1 >>> (4 &&& 31)), .int 2]) (rest := [.int 1, .ref (lay 0)]) hC hT G (c_L_below l D cy lay h _) (va_cwS 2 hC.2.2.2.2 gL_isDone_L_below rfl rfl rfl hdS_L_below ⟨Nat.le_of_ble_eq_true rfl, Nat.le_of_ble_eq_true rfl⟩) rfl hl.1 rfl (Nat.le_of_ble_eq_true rfl) dL_isDone_242 ⟨Nat.le_of_ble_eq_true rfl, Nat.le_of_ble_eq_true rfl⟩) (fun r71 σ70 H locs h G => ?_)
                    (try dsimp only at h)
                    refine lv_iadd hC.1 hC.2.1 dL_isDone_245 ?_
                    refine ag_iC G (ag_runVT (As := [.int (1 + r71)]) (rest := []) hC hT G (c_T_X7_pass l hl0 D cy lay h _) (cwV 1 hC.2.2.2.2 gL_isDone_X7_pass rfl rfl rfl hdV_X7_pass ⟨Nat.le_of_ble_eq_true rfl, Nat.le_of_ble_eq_true rfl⟩) (ag_recv hT G (by decide) e_ag k_X7) rfl hl.1 rfl (Nat.le_of_ble_eq_true rfl) dL_isDone_246 ⟨Nat.le_of_ble_eq_true rfl, Nat.le_of_ble_eq_true rfl⟩) (fun E9 ce9 q74 σ73 H locs h G hc1 hc2 hc3 => ?_) (fun r75 σ72 H locs h G => ?_)
                    · (try dsimp only at h)
                      obtain ⟨rfl, h⟩ := h
                      refine vx_catch (own := RL) (name := "java/lang/IllegalStateException") hC.2.2.2.1 [] ⟨32, 251, 252, 58⟩ [⟨32, 251, 256, 81⟩] htab (fun z hz => by cases hz) (by decide) (by decide) (hC.2.2.2.2 _ (wm 1 rfl)) (nest_use _ rfl (hT.2.1 _ (wm 5 rfl))) hc1 hc2 hc3 ?_
                      refine lv_astore (lv' := [(5, .ref q74), (4, .int r8), (3, .int r4), (2, .int r2), (0, .ref (lay 0)), (1, .int a1)]) hC.1 hC.2.1 dL_isDone_252 hl (by decide) rfl (fun ls hl => ?_)
                      refine lv_iconst (v := 0) hC.1 hC.2.1 dL_isDone_254 (by decide) ?_
                      refine W.widen (k := 3) (n := 18) (by decide) (by decide) ?_
                      exact ag_zret hC hr hlocks G rfl h dL_isDone_255
                    (try dsimp only at h)
                    refine lv_pop hC.1 hC.2.1 dL_isDone_249 rfl ?_
                    refine lv_iconst (v := 1) hC.1 hC.2.1 dL_isDone_250 (by decide) ?_
                    refine W.widen (k := 3) (n := 18) (by decide) (by decide) ?_
                    exact ag_zret hC hr hlocks G rfl h dL_isDone_251
theorem hdS_L_isDone : yL_isDone.cls ≠ "java/lang/invoke/MethodHandle" ∧ yL_isDone.cls ≠ "java/lang/invoke/VarHandle" ∧ (parseMethodDescriptor yL_isDone.desc).map (fun d => d.parameters.length) = some 2 := by decide +kernel
