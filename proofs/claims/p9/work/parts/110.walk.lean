abbrev rm_T_X7_desk : Room := { frames := 6, cells := 1, slots := 6, locals := 82 }
theorem i_T_X7_desk_X7 : ∀ w ∈ wsX70, w ∈ wsX7_desk := fun _ h => List.mem_cons_of_mem _ (List.mem_append_left _ (List.mem_append_left _ (List.mem_append_left _ (List.mem_append_right _ h))))
def w_T_X7_desk (post : Int32 → MS → Prop) (pex : String → MS → Prop) (σ : MS) (a1 : Int32) : Prop := ((a1 = 0 → post (σ 0 9) σ) ∧ (¬ a1 = 0 → ((a1 = 1 → post (σ 0 6) σ) ∧ (¬ a1 = 1 → ((a1 = 2 → post (σ 0 7) σ) ∧ (¬ a1 = 2 → ((a1 = 3 → post (σ 0 8) σ) ∧ (¬ a1 = 3 → ((a1 = 4 → w_X7_countInState (fun r6 σ5 => post r6 σ5) σ 0) ∧ (¬ a1 = 4 → ((a1 = 5 → w_X7_countInState (fun r9 σ8 => post r9 σ8) σ 1) ∧ (¬ a1 = 5 → ((a1 = 6 → w_X7_countInState (fun r12 σ11 => post r12 σ11) σ 2) ∧ (¬ a1 = 6 → ((a1 = 7 → w_X7_countInState (fun r15 σ14 => post r15 σ14) σ 3) ∧ (¬ a1 = 7 → ((a1 = 8 → post (σ 0 10) σ) ∧ (¬ a1 = 8 → ((a1 = 9 → w_X7_countFeuds (fun r19 σ18 => post r19 σ18) σ) ∧ (¬ a1 = 9 → ((a1 = 10 → w_X7_allEarned (fun r22 σ21 => post r22 σ21) σ) ∧ (¬ a1 = 10 → ((a1 = 11 → w_X7_countDaysOff (fun r25 σ24 => post r25 σ24) σ) ∧ (¬ a1 = 11 → ((a1 = 12 → w_X7_gapOfHours (fun r28 σ27 => post r28 σ27) σ) ∧ (¬ a1 = 12 → pex "java/lang/IllegalArgumentException" σ))))))))))))))))))))))))))
set_option maxHeartbeats 4000000 in
set_option maxRecDepth 100000 in
theorem c_T_X7_desk (l : Launch) (hl0 : l.stackTraces = false) (D : va_G) (cy : Nat → ClassId) (lay : Nat → Nat) {σ : MS} {post : Int32 → MS → Prop} {pex : String → MS → Prop} {a1 : Int32} (h : w_T_X7_desk post pex σ a1) (sz : Nat) : vx_Met l yX7_desk wsX7_desk rm_T_X7_desk (va_Pc [.ref (lay 0), .int a1] (agI D cy lay σ sz)) (va_Qi post (agO D cy lay) (agA lay sz)) (agXC D cy lay pex sz) 1 6 (agA lay sz) := by
  refine ag_ofX (cc := cX7_desk) (maxL := 2) (ret := some .int) (own := RX7) (Qc := fun sz => va_Qi post (agO D cy lay) (agA lay sz)) (by decide) rfl (Nat.le_of_ble_eq_true rfl) rfl ?_
  intro p e s m args below meth c ls hC hr hlocks htab hT G hl
  unfold w_T_X7_desk at h
  have hl : lv_has ls 2 [(0, .ref (lay 0)), (1, .int a1)] := hl
  refine lv_iload_n hC.1 hC.2.1 dX7_desk_0 rfl (lv_at hl 1 rfl) ?_
  rcases Decidable.em (a1 = 0) with c1 | c1
  · replace h := h.1 c1
    refine lv_tableIn (off := 67) (tgt := 68) hC.1 hC.2.1 dX7_desk_1 (by rw [c1]; decide) (by rw [c1]; decide) (by rw [c1]; rfl) (by decide) ?_
    refine lv_aload_n hC.1 hC.2.1 dX7_desk_68 rfl (lv_at hl 0 rfl) ?_
    refine ag_get hC hT G (by decide) e_ag k_X7 i_T_X7_desk_X7 9 (by decide) (wm 3 rfl) rfl dX7_desk_69 ?_
    refine W.widen (k := 1) (n := 6) (by decide) (by decide) ?_
    exact vx_ret (ag_iret hC hr hlocks G h dX7_desk_72)
  · replace h := h.2 c1
    rcases Decidable.em (a1 = 1) with c2 | c2
    · replace h := h.1 c2
      refine lv_tableIn (off := 72) (tgt := 73) hC.1 hC.2.1 dX7_desk_1 (by rw [c2]; decide) (by rw [c2]; decide) (by rw [c2]; rfl) (by decide) ?_
      refine lv_aload_n hC.1 hC.2.1 dX7_desk_73 rfl (lv_at hl 0 rfl) ?_
      refine ag_get hC hT G (by decide) e_ag k_X7 i_T_X7_desk_X7 6 (by decide) (wm 4 rfl) rfl dX7_desk_74 ?_
      refine W.widen (k := 1) (n := 6) (by decide) (by decide) ?_
      exact vx_ret (ag_iret hC hr hlocks G h dX7_desk_77)
    · replace h := h.2 c2
      rcases Decidable.em (a1 = 2) with c3 | c3
      · replace h := h.1 c3
        refine lv_tableIn (off := 77) (tgt := 78) hC.1 hC.2.1 dX7_desk_1 (by rw [c3]; decide) (by rw [c3]; decide) (by rw [c3]; rfl) (by decide) ?_
        refine lv_aload_n hC.1 hC.2.1 dX7_desk_78 rfl (lv_at hl 0 rfl) ?_
        refine ag_get hC hT G (by decide) e_ag k_X7 i_T_X7_desk_X7 7 (by decide) (wm 5 rfl) rfl dX7_desk_79 ?_
        refine W.widen (k := 1) (n := 6) (by decide) (by decide) ?_
        exact vx_ret (ag_iret hC hr hlocks G h dX7_desk_82)
      · replace h := h.2 c3
        rcases Decidable.em (a1 = 3) with c4 | c4
        · replace h := h.1 c4
          refine lv_tableIn (off := 82) (tgt := 83) hC.1 hC.2.1 dX7_desk_1 (by rw [c4]; decide) (by rw [c4]; decide) (by rw [c4]; rfl) (by decide) ?_
          refine lv_aload_n hC.1 hC.2.1 dX7_desk_83 rfl (lv_at hl 0 rfl) ?_
          refine ag_get hC hT G (by decide) e_ag k_X7 i_T_X7_desk_X7 8 (by decide) (wm 6 rfl) rfl dX7_desk_84 ?_
          refine W.widen (k := 1) (n := 6) (by decide) (by decide) ?_
          exact vx_ret (ag_iret hC hr hlocks G h dX7_desk_87)
        · replace h := h.2 c4
          rcases Decidable.em (a1 = 4) with c7 | c7
          · replace h := h.1 c7
            refine lv_tableIn (off := 87) (tgt := 88) hC.1 hC.2.1 dX7_desk_1 (by rw [c7]; decide) (by rw [c7]; decide) (by rw [c7]; rfl) (by decide) ?_
            refine lv_aload_n hC.1 hC.2.1 dX7_desk_88 rfl (lv_at hl 0 rfl) ?_
            refine lv_iconst (v := 0) hC.1 hC.2.1 dX7_desk_89 (by decide) ?_
            refine ag_i G (ag_runV (As := [.int 0]) (rest := []) hC hT G (c_X7_countInState l D cy lay h _) (cwV 1 hC.2.2.2.2 gX7_desk_X7_countInState rfl rfl rfl hdV_X7_countInState ⟨Nat.le_of_ble_eq_true rfl, Nat.le_of_ble_eq_true rfl⟩) (ag_recv hT G (by decide) e_ag k_X7) rfl hl.1 rfl (Nat.le_of_ble_eq_true rfl) dX7_desk_90 ⟨Nat.le_of_ble_eq_true rfl, Nat.le_of_ble_eq_true rfl⟩) (fun r6 σ5 H locs h G => ?_)
            (try dsimp only at h)
            refine W.widen (k := 1) (n := 6) (by decide) (by decide) ?_
            exact vx_ret (ag_iret hC hr hlocks G h dX7_desk_93)
          · replace h := h.2 c7
            rcases Decidable.em (a1 = 5) with c10 | c10
            · replace h := h.1 c10
              refine lv_tableIn (off := 93) (tgt := 94) hC.1 hC.2.1 dX7_desk_1 (by rw [c10]; decide) (by rw [c10]; decide) (by rw [c10]; rfl) (by decide) ?_
              refine lv_aload_n hC.1 hC.2.1 dX7_desk_94 rfl (lv_at hl 0 rfl) ?_
              refine lv_iconst (v := 1) hC.1 hC.2.1 dX7_desk_95 (by decide) ?_
              refine ag_i G (ag_runV (As := [.int 1]) (rest := []) hC hT G (c_X7_countInState l D cy lay h _) (cwV 1 hC.2.2.2.2 gX7_desk_X7_countInState rfl rfl rfl hdV_X7_countInState ⟨Nat.le_of_ble_eq_true rfl, Nat.le_of_ble_eq_true rfl⟩) (ag_recv hT G (by decide) e_ag k_X7) rfl hl.1 rfl (Nat.le_of_ble_eq_true rfl) dX7_desk_96 ⟨Nat.le_of_ble_eq_true rfl, Nat.le_of_ble_eq_true rfl⟩) (fun r9 σ8 H locs h G => ?_)
              (try dsimp only at h)
              refine W.widen (k := 1) (n := 6) (by decide) (by decide) ?_
              exact vx_ret (ag_iret hC hr hlocks G h dX7_desk_99)
            · replace h := h.2 c10
              rcases Decidable.em (a1 = 6) with c13 | c13
              · replace h := h.1 c13
                refine lv_tableIn (off := 99) (tgt := 100) hC.1 hC.2.1 dX7_desk_1 (by rw [c13]; decide) (by rw [c13]; decide) (by rw [c13]; rfl) (by decide) ?_
                refine lv_aload_n hC.1 hC.2.1 dX7_desk_100 rfl (lv_at hl 0 rfl) ?_
                refine lv_iconst (v := 2) hC.1 hC.2.1 dX7_desk_101 (by decide) ?_
                refine ag_i G (ag_runV (As := [.int 2]) (rest := []) hC hT G (c_X7_countInState l D cy lay h _) (cwV 1 hC.2.2.2.2 gX7_desk_X7_countInState rfl rfl rfl hdV_X7_countInState ⟨Nat.le_of_ble_eq_true rfl, Nat.le_of_ble_eq_true rfl⟩) (ag_recv hT G (by decide) e_ag k_X7) rfl hl.1 rfl (Nat.le_of_ble_eq_true rfl) dX7_desk_102 ⟨Nat.le_of_ble_eq_true rfl, Nat.le_of_ble_eq_true rfl⟩) (fun r12 σ11 H locs h G => ?_)
                (try dsimp only at h)
                refine W.widen (k := 1) (n := 6) (by decide) (by decide) ?_
                exact vx_ret (ag_iret hC hr hlocks G h dX7_desk_105)
              · replace h := h.2 c13
                rcases Decidable.em (a1 = 7) with c16 | c16
                · replace h := h.1 c16
                  refine lv_tableIn (off := 105) (tgt := 106) hC.1 hC.2.1 dX7_desk_1 (by rw [c16]; decide) (by rw [c16]; decide) (by rw [c16]; rfl) (by decide) ?_
                  refine lv_aload_n hC.1 hC.2.1 dX7_desk_106 rfl (lv_at hl 0 rfl) ?_
                  refine lv_iconst (v := 3) hC.1 hC.2.1 dX7_desk_107 (by decide) ?_
                  refine ag_i G (ag_runV (As := [.int 3]) (rest := []) hC hT G (c_X7_countInState l D cy lay h _) (cwV 1 hC.2.2.2.2 gX7_desk_X7_countInState rfl rfl rfl hdV_X7_countInState ⟨Nat.le_of_ble_eq_true rfl, Nat.le_of_ble_eq_true rfl⟩) (ag_recv hT G (by decide) e_ag k_X7) rfl hl.1 rfl (Nat.le_of_ble_eq_true rfl) dX7_desk_108 ⟨Nat.le_of_ble_eq_true rfl, Nat.le_of_ble_eq_true rfl⟩) (fun r15 σ14 H locs h G => ?_)
                  (try dsimp only at h)
                  refine W.widen (k := 1) (n := 6) (by decide) (by decide) ?_
                  exact vx_ret (ag_iret hC hr hlocks G h dX7_desk_111)
                · replace h := h.2 c16
                  rcases Decidable.em (a1 = 8) with c17 | c17
                  · replace h := h.1 c17
                    refine lv_tableIn (off := 111) (tgt := 112) hC.1 hC.2.1 dX7_desk_1 (by rw [c17]; decide) (by rw [c17]; decide) (by rw [c17]; rfl) (by decide) ?_
                    refine lv_aload_n hC.1 hC.2.1 dX7_desk_112 rfl (lv_at hl 0 rfl) ?_
                    refine ag_get hC hT G (by decide) e_ag k_X7 i_T_X7_desk_X7 10 (by decide) (wm 7 rfl) rfl dX7_desk_113 ?_
                    refine W.widen (k := 1) (n := 6) (by decide) (by decide) ?_
                    exact vx_ret (ag_iret hC hr hlocks G h dX7_desk_116)
                  · replace h := h.2 c17
                    rcases Decidable.em (a1 = 9) with c20 | c20
                    · replace h := h.1 c20
                      refine lv_tableIn (off := 116) (tgt := 117) hC.1 hC.2.1 dX7_desk_1 (by rw [c20]; decide) (by rw [c20]; decide) (by rw [c20]; rfl) (by decide) ?_
                      refine lv_aload_n hC.1 hC.2.1 dX7_desk_117 rfl (lv_at hl 0 rfl) ?_
                      refine ag_i G (ag_runV (As := []) (rest := []) hC hT G (c_X7_countFeuds l D cy lay h _) (cwV 0 hC.2.2.2.2 gX7_desk_X7_countFeuds rfl rfl rfl hdV_X7_countFeuds ⟨Nat.le_of_ble_eq_true rfl, Nat.le_of_ble_eq_true rfl⟩) (ag_recv hT G (by decide) e_ag k_X7) rfl hl.1 rfl (Nat.le_of_ble_eq_true rfl) dX7_desk_118 ⟨Nat.le_of_ble_eq_true rfl, Nat.le_of_ble_eq_true rfl⟩) (fun r19 σ18 H locs h G => ?_)
                      (try dsimp only at h)
                      refine W.widen (k := 1) (n := 6) (by decide) (by decide) ?_
                      exact vx_ret (ag_iret hC hr hlocks G h dX7_desk_121)
                    · replace h := h.2 c20
                      rcases Decidable.em (a1 = 10) with c23 | c23
                      · replace h := h.1 c23
                        refine lv_tableIn (off := 121) (tgt := 122) hC.1 hC.2.1 dX7_desk_1 (by rw [c23]; decide) (by rw [c23]; decide) (by rw [c23]; rfl) (by decide) ?_
                        refine lv_aload_n hC.1 hC.2.1 dX7_desk_122 rfl (lv_at hl 0 rfl) ?_
                        refine ag_i G (ag_runV (As := []) (rest := []) hC hT G (c_X7_allEarned l D cy lay h _) (cwV 0 hC.2.2.2.2 gX7_desk_X7_allEarned rfl rfl rfl hdV_X7_allEarned ⟨Nat.le_of_ble_eq_true rfl, Nat.le_of_ble_eq_true rfl⟩) (ag_recv hT G (by decide) e_ag k_X7) rfl hl.1 rfl (Nat.le_of_ble_eq_true rfl) dX7_desk_123 ⟨Nat.le_of_ble_eq_true rfl, Nat.le_of_ble_eq_true rfl⟩) (fun r22 σ21 H locs h G => ?_)
                        (try dsimp only at h)
                        refine W.widen (k := 1) (n := 6) (by decide) (by decide) ?_
                        exact vx_ret (ag_iret hC hr hlocks G h dX7_desk_126)
                      · replace h := h.2 c23
                        rcases Decidable.em (a1 = 11) with c26 | c26
                        · replace h := h.1 c26
                          refine lv_tableIn (off := 126) (tgt := 127) hC.1 hC.2.1 dX7_desk_1 (by rw [c26]; decide) (by rw [c26]; decide) (by rw [c26]; rfl) (by decide) ?_
                          refine lv_aload_n hC.1 hC.2.1 dX7_desk_127 rfl (lv_at hl 0 rfl) ?_
                          refine ag_i G (ag_runV (As := []) (rest := []) hC hT G (c_X7_countDaysOff l D cy lay h _) (cwV 0 hC.2.2.2.2 gX7_desk_X7_countDaysOff rfl rfl rfl hdV_X7_countDaysOff ⟨Nat.le_of_ble_eq_true rfl, Nat.le_of_ble_eq_true rfl⟩) (ag_recv hT G (by decide) e_ag k_X7) rfl hl.1 rfl (Nat.le_of_ble_eq_true rfl) dX7_desk_128 ⟨Nat.le_of_ble_eq_true rfl, Nat.le_of_ble_eq_true rfl⟩) (fun r25 σ24 H locs h G => ?_)
                          (try dsimp only at h)
                          refine W.widen (k := 1) (n := 6) (by decide) (by decide) ?_
                          exact vx_ret (ag_iret hC hr hlocks G h dX7_desk_131)
                        · replace h := h.2 c26
                          rcases Decidable.em (a1 = 12) with c29 | c29
                          · replace h := h.1 c29
                            refine lv_tableIn (off := 131) (tgt := 132) hC.1 hC.2.1 dX7_desk_1 (by rw [c29]; decide) (by rw [c29]; decide) (by rw [c29]; rfl) (by decide) ?_
                            refine lv_aload_n hC.1 hC.2.1 dX7_desk_132 rfl (lv_at hl 0 rfl) ?_
                            refine ag_i G (ag_runV (As := []) (rest := []) hC hT G (c_X7_gapOfHours l D cy lay h _) (cwV 0 hC.2.2.2.2 gX7_desk_X7_gapOfHours rfl rfl rfl hdV_X7_gapOfHours ⟨Nat.le_of_ble_eq_true rfl, Nat.le_of_ble_eq_true rfl⟩) (ag_recv hT G (by decide) e_ag k_X7) rfl hl.1 rfl (Nat.le_of_ble_eq_true rfl) dX7_desk_133 ⟨Nat.le_of_ble_eq_true rfl, Nat.le_of_ble_eq_true rfl⟩) (fun r28 σ27 H locs h G => ?_)
                            (try dsimp only at h)
                            refine W.widen (k := 1) (n := 6) (by decide) (by decide) ?_
                            exact vx_ret (ag_iret hC hr hlocks G h dX7_desk_136)
                          · replace h := h.2 c29
                            refine lv_tableOut (tgt := 137) hC.1 hC.2.1 dX7_desk_1 (tsw_out 13 rfl (by decide) (fun k hk => by rcases (show k = 0 ∨ k = 1 ∨ k = 2 ∨ k = 3 ∨ k = 4 ∨ k = 5 ∨ k = 6 ∨ k = 7 ∨ k = 8 ∨ k = 9 ∨ k = 10 ∨ k = 11 ∨ k = 12 by omega) with rfl | rfl | rfl | rfl | rfl | rfl | rfl | rfl | rfl | rfl | rfl | rfl | rfl <;> assumption)) (by decide) ?_
                            exact ag_throwW (text := "nothing like that is on the desk") (names := ["java/lang/RuntimeException", "java/lang/Exception"]) hl0 hC hT G htab hlocks hl.1 (by decide) (by decide) (wm 1 rfl) (wm 2 rfl) (List.mem_of_getElem? (i := 25) rfl) (fun _ h => List.mem_cons_of_mem _ (List.mem_append_right _ h)) exIAE_all exIAE_good dX7_desk_137 dX7_desk_140 dX7_desk_141 dX7_desk_144 dX7_desk_147 (by decide) (Nat.le_of_ble_eq_true rfl) (Nat.le_of_ble_eq_true rfl) (Nat.le_of_ble_eq_true rfl) (by decide) (by decide) h
abbrev rm_T_X7_wouldLose : Room := { frames := 7, cells := 2, slots := 12, locals := 121 }
def w_T_X7_wouldLose (post : Int32 → MS → Prop) (pex : String → MS → Prop) (σ : MS) (a1 : Int32) (a2 : Int32) : Prop := w_T_X7_checkPlayer (fun σ1 => w_T_X7_checkDayToCome (fun σ2 => w_X7_stageWithout (fun r4 σ3 => post r4 σ3) σ2 a1 a2) pex σ1 a2) pex σ a1
set_option maxHeartbeats 4000000 in
set_option maxRecDepth 100000 in
theorem c_T_X7_wouldLose (l : Launch) (hl0 : l.stackTraces = false) (D : va_G) (cy : Nat → ClassId) (lay : Nat → Nat) {σ : MS} {post : Int32 → MS → Prop} {pex : String → MS → Prop} {a1 : Int32} {a2 : Int32} (h : w_T_X7_wouldLose post pex σ a1 a2) (sz : Nat) : vx_Met l yX7_wouldLose wsX7_wouldLose rm_T_X7_wouldLose (va_Pc [.ref (lay 0), .int a1, .int a2] (agI D cy lay σ sz)) (va_Qi post (agO D cy lay) (agA lay sz)) (agXC D cy lay pex sz) 2 12 (agA lay sz) := by
  refine ag_ofX (cc := cX7_wouldLose) (maxL := 3) (ret := some .int) (own := RX7) (Qc := fun sz => va_Qi post (agO D cy lay) (agA lay sz)) (by decide) rfl (Nat.le_of_ble_eq_true rfl) rfl ?_
  intro p e s m args below meth c ls hC hr hlocks htab hT G hl
  unfold w_T_X7_wouldLose at h
  have hl : lv_has ls 3 [(0, .ref (lay 0)), (1, .int a1), (2, .int a2)] := hl
  refine lv_aload_n hC.1 hC.2.1 dX7_wouldLose_0 rfl (lv_at hl 0 rfl) ?_
  refine lv_iload_n hC.1 hC.2.1 dX7_wouldLose_1 rfl (lv_at hl 1 rfl) ?_
  refine ag_vT G htab hlocks (ag_runVT (As := [.int a1]) (rest := []) hC hT G (c_T_X7_checkPlayer l hl0 D cy lay h _) (cwV 1 hC.2.2.2.2 gX7_wouldLose_X7_checkPlayer rfl rfl rfl hdV_X7_checkPlayer ⟨Nat.le_of_ble_eq_true rfl, Nat.le_of_ble_eq_true rfl⟩) (ag_recv hT G (by decide) e_ag k_X7) rfl hl.1 rfl (Nat.le_of_ble_eq_true rfl) dX7_wouldLose_2 ⟨Nat.le_of_ble_eq_true rfl, Nat.le_of_ble_eq_true rfl⟩) (by decide) (by decide) (fun σ1 H locs h G => ?_)
  (try dsimp only at h)
  refine lv_aload_n hC.1 hC.2.1 dX7_wouldLose_5 rfl (lv_at hl 0 rfl) ?_
  refine lv_iload_n hC.1 hC.2.1 dX7_wouldLose_6 rfl (lv_at hl 2 rfl) ?_
  refine ag_vT G htab hlocks (ag_runVT (As := [.int a2]) (rest := []) hC hT G (c_T_X7_checkDayToCome l hl0 D cy lay h _) (cwV 1 hC.2.2.2.2 gX7_wouldLose_X7_checkDayToCome rfl rfl rfl hdV_X7_checkDayToCome ⟨Nat.le_of_ble_eq_true rfl, Nat.le_of_ble_eq_true rfl⟩) (ag_recv hT G (by decide) e_ag k_X7) rfl hl.1 rfl (Nat.le_of_ble_eq_true rfl) dX7_wouldLose_7 ⟨Nat.le_of_ble_eq_true rfl, Nat.le_of_ble_eq_true rfl⟩) (by decide) (by decide) (fun σ2 H locs h G => ?_)
  (try dsimp only at h)
  refine lv_aload_n hC.1 hC.2.1 dX7_wouldLose_10 rfl (lv_at hl 0 rfl) ?_
  refine lv_iload_n hC.1 hC.2.1 dX7_wouldLose_11 rfl (lv_at hl 1 rfl) ?_
  refine lv_iload_n hC.1 hC.2.1 dX7_wouldLose_12 rfl (lv_at hl 2 rfl) ?_
  refine ag_i G (ag_runV (As := [.int a1, .int a2]) (rest := []) hC hT G (c_X7_stageWithout l D cy lay h _) (cwV 2 hC.2.2.2.2 gX7_wouldLose_X7_stageWithout rfl rfl rfl hdV_X7_stageWithout ⟨Nat.le_of_ble_eq_true rfl, Nat.le_of_ble_eq_true rfl⟩) (ag_recv hT G (by decide) e_ag k_X7) rfl hl.1 rfl (Nat.le_of_ble_eq_true rfl) dX7_wouldLose_13 ⟨Nat.le_of_ble_eq_true rfl, Nat.le_of_ble_eq_true rfl⟩) (fun r4 σ3 H locs h G => ?_)
  (try dsimp only at h)
  refine W.widen (k := 2) (n := 12) (by decide) (by decide) ?_
  exact vx_ret (ag_iret hC hr hlocks G h dX7_wouldLose_16)
theorem hdV_X7_wouldLose : yX7_wouldLose.cls = RX7 ∧ yX7_wouldLose.cls ≠ "java/lang/invoke/MethodHandle" ∧ yX7_wouldLose.cls ≠ "java/lang/invoke/VarHandle" ∧ (parseMethodDescriptor yX7_wouldLose.desc).map (fun d => d.parameters.length) = some 2 := by decide +kernel
abbrev rm_T_X7_plan : Room := { frames := 6, cells := 1, slots := 6, locals := 120 }
def u_T_X7_plan_11 (post : Int32 → MS → Prop) (pex : String → MS → Prop) (a1 : Int32) (a2 : Int32) (σ : MS) : Prop := pex "java/lang/IllegalArgumentException" σ
set_option maxHeartbeats 4000000 in
set_option maxRecDepth 100000 in
theorem l_T_X7_plan_11 {p : Program} {l : Launch} {e : Env} {s : State} {m : MethodId} {args : Array Value} {below : List Frame} {meth : Method} {c : Code} {D : va_G} {cy : Nat → ClassId} {lay : Nat → Nat} {post : Int32 → MS → Prop} {pex : String → MS → Prop} (a1 : Int32) (a2 : Int32) (hl0 : l.stackTraces = false) (hC : CallFix p m c cX7_plan 9 s args wsX7_plan RX7) (hr : meth.sig.returnType = some .int) (hlocks : meth.locks = false) (htab : ∀ x ∈ c.exceptionTable.toList, False) (hT : agT D cy lay s) : ∀ (σ : MS), u_T_X7_plan_11 post pex a1 a2 σ → ∀ (H : Heap) (locs : List Loc) (ls : Array Slot), agG D cy lay σ (agA lay s.heap.size) s.heap H locs → lv_has ls 9 [(0, .ref (lay 0)), (1, .int a1), (2, .int a2)] → W p l e rm_T_X7_plan s m args below meth c H locs 0 0 (vx_MQ below (va_Qi post (agO D cy lay) (agA lay s.heap.size)) (agXC D cy lay pex s.heap.size) args s 1 6 (agA lay s.heap.size)) (F0 m 11 ls []) := by
  intro σ h H locs ls G hl
  unfold u_T_X7_plan_11 at h
  exact ag_throwW (text := "not a day") (names := ["java/lang/RuntimeException", "java/lang/Exception"]) hl0 hC hT G htab hlocks hl.1 (by decide) (by decide) (wm 1 rfl) (wm 2 rfl) (List.mem_of_getElem? (i := 29) rfl) (fun _ h => List.mem_cons_of_mem _ (List.mem_append_right _ h)) exIAE_all exIAE_good dX7_plan_11 dX7_plan_14 dX7_plan_15 dX7_plan_18 dX7_plan_21 (by decide) (Nat.le_of_ble_eq_true rfl) (Nat.le_of_ble_eq_true rfl) (Nat.le_of_ble_eq_true rfl) (by decide) (by decide) h
def u_T_X7_plan_37 (post : Int32 → MS → Prop) (pex : String → MS → Prop) (a1 : Int32) (a2 : Int32) : Nat → MS → Int32 → Int32 → Int32 → Int32 → Prop
  | 0, _, _, _, _, _ => False
  | n + 1, σ, v3, v4, v5, v6 => w_J6_bitCount_0f7a4 (fun r6 σ5 => (((1 <<< (r6 &&& 31)) ≤ v6 → ((a2 = 0 → post v5 σ5) ∧ (¬ a2 = 0 → post v4 σ5))) ∧ (¬ (1 <<< (r6 &&& 31)) ≤ v6 → w_X7_membersAt (fun r10 σ9 => w_X7_stageAll (fun r12 σ11 => ((r12 ≤ v5 → u_T_X7_plan_37 post pex a1 a2 n σ11 v3 v4 v5 (v6 + 1)) ∧ (¬ r12 ≤ v5 → u_T_X7_plan_37 post pex a1 a2 n σ11 v3 r10 r12 (v6 + 1)))) σ9 r10) σ5 v3 v6))) σ v3
set_option maxHeartbeats 4000000 in
set_option maxRecDepth 100000 in
theorem l_T_X7_plan_37 {p : Program} {l : Launch} {e : Env} {s : State} {m : MethodId} {args : Array Value} {below : List Frame} {meth : Method} {c : Code} {D : va_G} {cy : Nat → ClassId} {lay : Nat → Nat} {post : Int32 → MS → Prop} {pex : String → MS → Prop} (a1 : Int32) (a2 : Int32) (hl0 : l.stackTraces = false) (hC : CallFix p m c cX7_plan 9 s args wsX7_plan RX7) (hr : meth.sig.returnType = some .int) (hlocks : meth.locks = false) (htab : ∀ x ∈ c.exceptionTable.toList, False) (hT : agT D cy lay s) : ∀ (n : Nat), ∀ (σ : MS) (v3 : Int32) (v4 : Int32) (v5 : Int32) (v6 : Int32), u_T_X7_plan_37 post pex a1 a2 n σ v3 v4 v5 v6 → ∀ (H : Heap) (locs : List Loc) (ls : Array Slot), agG D cy lay σ (agA lay s.heap.size) s.heap H locs → lv_has ls 9 [(0, .ref (lay 0)), (1, .int a1), (2, .int a2), (3, .int v3), (4, .int v4), (5, .int v5), (6, .int v6)] → W p l e rm_T_X7_plan s m args below meth c H locs 0 0 (vx_MQ below (va_Qi post (agO D cy lay) (agA lay s.heap.size)) (agXC D cy lay pex s.heap.size) args s 1 6 (agA lay s.heap.size)) (F0 m 37 ls []) := by
  intro n
  induction n with
  | zero =>
    intro σ v3 v4 v5 v6 h
    exact h.elim
  | succ n ih =>
    intro σ v3 v4 v5 v6 h H locs ls G hl
    rw [u_T_X7_plan_37] at h
    refine lv_iload hC.1 hC.2.1 dX7_plan_37 (lv_at hl 6 rfl) ?_
    refine lv_iconst (v := 1) hC.1 hC.2.1 dX7_plan_39 (by decide) ?_
    refine lv_iload_n hC.1 hC.2.1 dX7_plan_40 rfl (lv_at hl 3 rfl) ?_
    refine ag_i G (ag_runS (As := [.int v3]) (rest := [.int 1, .int v6]) hC hT G (c_J6_bitCount_0f7a4 l D cy lay h _) (va_cwS 1 hC.2.2.2.2 gX7_plan_J6_bitCount_0f7a4 rfl rfl rfl hdS_J6_bitCount_0f7a4 ⟨Nat.le_of_ble_eq_true rfl, Nat.le_of_ble_eq_true rfl⟩) rfl hl.1 rfl (Nat.le_of_ble_eq_true rfl) dX7_plan_41 ⟨Nat.le_of_ble_eq_true rfl, Nat.le_of_ble_eq_true rfl⟩) (fun r6 σ5 H locs h G => ?_)
    (try dsimp only at h)
    refine lv_ishl hC.1 hC.2.1 dX7_plan_44 ?_
    refine lv_icmp_ge (tgt := 85) hC.1 hC.2.1 dX7_plan_45 (by decide) (fun c7 => ?_) (fun c7 => ?_)
    · replace h := h.1 c7
      refine lv_iload_n hC.1 hC.2.1 dX7_plan_85 rfl (lv_at hl 2 rfl) ?_
      refine lv_if_eq (tgt := 94) hC.1 hC.2.1 dX7_plan_86 (by decide) (fun c8 => ?_) (fun c8 => ?_)
      · replace h := h.1 c8
        refine lv_iload hC.1 hC.2.1 dX7_plan_94 (lv_at hl 5 rfl) ?_
        refine W.widen (k := 1) (n := 6) (by decide) (by decide) ?_
        exact vx_ret (ag_iret hC hr hlocks G h dX7_plan_96)
      · replace h := h.2 c8
        refine lv_iload hC.1 hC.2.1 dX7_plan_89 (lv_at hl 4 rfl) ?_
        refine lv_goto (tgt := 96) hC.1 hC.2.1 dX7_plan_91 (by decide) ?_
        refine W.widen (k := 1) (n := 6) (by decide) (by decide) ?_
        exact vx_ret (ag_iret hC hr hlocks G h dX7_plan_96)
    · replace h := h.2 c7
      refine lv_iload_n hC.1 hC.2.1 dX7_plan_48 rfl (lv_at hl 3 rfl) ?_
      refine lv_iload hC.1 hC.2.1 dX7_plan_49 (lv_at hl 6 rfl) ?_
      refine ag_i G (ag_runS (As := [.int v3, .int v6]) (rest := []) hC hT G (c_X7_membersAt l D cy lay h _) (va_cwS 2 hC.2.2.2.2 gX7_plan_X7_membersAt rfl rfl rfl hdS_X7_membersAt ⟨Nat.le_of_ble_eq_true rfl, Nat.le_of_ble_eq_true rfl⟩) rfl hl.1 rfl (Nat.le_of_ble_eq_true rfl) dX7_plan_51 ⟨Nat.le_of_ble_eq_true rfl, Nat.le_of_ble_eq_true rfl⟩) (fun r10 σ9 H locs h G => ?_)
      (try dsimp only at h)
      refine lv_istore (lv' := [(7, .int r10), (0, .ref (lay 0)), (1, .int a1), (2, .int a2), (3, .int v3), (4, .int v4), (5, .int v5), (6, .int v6)]) hC.1 hC.2.1 dX7_plan_54 hl (by decide) rfl (fun ls hl => ?_)
      refine lv_aload_n hC.1 hC.2.1 dX7_plan_56 rfl (lv_at hl 1 rfl) ?_
      refine lv_iload hC.1 hC.2.1 dX7_plan_57 (lv_at hl 0 rfl) ?_
      refine ag_i G (ag_runV (As := [.int r10]) (rest := []) hC hT G (c_X7_stageAll l D cy lay h _) (cwV 1 hC.2.2.2.2 gX7_plan_X7_stageAll rfl rfl rfl hdV_X7_stageAll ⟨Nat.le_of_ble_eq_true rfl, Nat.le_of_ble_eq_true rfl⟩) (ag_recv hT G (by decide) e_ag k_X7) rfl hl.1 rfl (Nat.le_of_ble_eq_true rfl) dX7_plan_59 ⟨Nat.le_of_ble_eq_true rfl, Nat.le_of_ble_eq_true rfl⟩) (fun r12 σ11 H locs h G => ?_)
      (try dsimp only at h)
      refine lv_istore (lv' := [(8, .int r12), (7, .int r10), (0, .ref (lay 0)), (1, .int a1), (2, .int a2), (3, .int v3), (4, .int v4), (5, .int v5), (6, .int v6)]) hC.1 hC.2.1 dX7_plan_62 hl (by decide) rfl (fun ls hl => ?_)
      refine lv_iload hC.1 hC.2.1 dX7_plan_64 (lv_at hl 0 rfl) ?_
      refine lv_iload hC.1 hC.2.1 dX7_plan_66 (lv_at hl 7 rfl) ?_
      refine lv_icmp_le (tgt := 79) hC.1 hC.2.1 dX7_plan_68 (by decide) (fun c13 => ?_) (fun c13 => ?_)
      · replace h := h.1 c13
        refine lv_iinc (v := v6 + 1) (lv' := [(6, .int (v6 + 1)), (8, .int r12), (7, .int r10), (0, .ref (lay 0)), (1, .int a1), (2, .int a2), (3, .int v3), (4, .int v4), (5, .int v5)]) hC.1 hC.2.1 dX7_plan_79 hl (k := 8) rfl rfl (by decide) rfl (fun ls hl => ?_)
        refine lv_goto (tgt := 37) hC.1 hC.2.1 dX7_plan_82 (by decide) ?_
        exact ih _ _ _ _ _ h _ _ _ G (lv_sub hl [3, 4, 5, 6, 7, 8, 0] rfl)
      · replace h := h.2 c13
        refine lv_iload hC.1 hC.2.1 dX7_plan_71 (lv_at hl 0 rfl) ?_
        refine lv_istore (lv' := [(5, .int r12), (8, .int r12), (7, .int r10), (0, .ref (lay 0)), (1, .int a1), (2, .int a2), (3, .int v3), (4, .int v4), (6, .int v6)]) hC.1 hC.2.1 dX7_plan_73 hl (by decide) rfl (fun ls hl => ?_)
        refine lv_iload hC.1 hC.2.1 dX7_plan_75 (lv_at hl 2 rfl) ?_
        refine lv_istore (lv' := [(4, .int r10), (5, .int r12), (8, .int r12), (7, .int r10), (0, .ref (lay 0)), (1, .int a1), (2, .int a2), (3, .int v3), (6, .int v6)]) hC.1 hC.2.1 dX7_plan_77 hl (by decide) rfl (fun ls hl => ?_)
        refine lv_iinc (v := v6 + 1) (lv' := [(6, .int (v6 + 1)), (4, .int r10), (5, .int r12), (8, .int r12), (7, .int r10), (0, .ref (lay 0)), (1, .int a1), (2, .int a2), (3, .int v3)]) hC.1 hC.2.1 dX7_plan_79 hl (k := 8) rfl rfl (by decide) rfl (fun ls hl => ?_)
        refine lv_goto (tgt := 37) hC.1 hC.2.1 dX7_plan_82 (by decide) ?_
        exact ih _ _ _ _ _ h _ _ _ G (lv_sub hl [5, 6, 7, 8, 1, 2, 0] rfl)
def w_T_X7_plan (post : Int32 → MS → Prop) (pex : String → MS → Prop) (σ : MS) (a1 : Int32) (a2 : Int32) : Prop := ((a1 < 0 → u_T_X7_plan_11 post pex a1 a2 σ) ∧ (¬ a1 < 0 → ((a1 ≤ 365 → w_X7_firstOnesOf (fun r4 σ3 => (∃ k, u_T_X7_plan_37 post pex a1 a2 k σ3 r4 0 0 1)) σ a1) ∧ (¬ a1 ≤ 365 → u_T_X7_plan_11 post pex a1 a2 σ))))
set_option maxHeartbeats 4000000 in
set_option maxRecDepth 100000 in
theorem c_T_X7_plan (l : Launch) (hl0 : l.stackTraces = false) (D : va_G) (cy : Nat → ClassId) (lay : Nat → Nat) {σ : MS} {post : Int32 → MS → Prop} {pex : String → MS → Prop} {a1 : Int32} {a2 : Int32} (h : w_T_X7_plan post pex σ a1 a2) (sz : Nat) : vx_Met l yX7_plan wsX7_plan rm_T_X7_plan (va_Pc [.ref (lay 0), .int a1, .int a2] (agI D cy lay σ sz)) (va_Qi post (agO D cy lay) (agA lay sz)) (agXC D cy lay pex sz) 1 6 (agA lay sz) := by
  refine ag_ofX (cc := cX7_plan) (maxL := 9) (ret := some .int) (own := RX7) (Qc := fun sz => va_Qi post (agO D cy lay) (agA lay sz)) (by decide) rfl (Nat.le_of_ble_eq_true rfl) rfl ?_
  intro p e s m args below meth c ls hC hr hlocks htab hT G hl
  unfold w_T_X7_plan at h
  have hl : lv_has ls 9 [(0, .ref (lay 0)), (1, .int a1), (2, .int a2)] := hl
  refine lv_iload_n hC.1 hC.2.1 dX7_plan_0 rfl (lv_at hl 1 rfl) ?_
  refine lv_if_lt (tgt := 11) hC.1 hC.2.1 dX7_plan_1 (by decide) (fun c1 => ?_) (fun c1 => ?_)
  · replace h := h.1 c1
    exact l_T_X7_plan_11 a1 a2 hl0 hC hr hlocks htab hT _ h _ _ _ G (lv_sub hl [0, 1, 2] rfl)
  · replace h := h.2 c1
    refine lv_iload_n hC.1 hC.2.1 dX7_plan_4 rfl (lv_at hl 1 rfl) ?_
    refine lv_sipush (v := 365) hC.1 hC.2.1 dX7_plan_5 (by decide) ?_
    refine lv_icmp_le (tgt := 22) hC.1 hC.2.1 dX7_plan_8 (by decide) (fun c2 => ?_) (fun c2 => ?_)
    · replace h := h.1 c2
      refine lv_aload_n hC.1 hC.2.1 dX7_plan_22 rfl (lv_at hl 0 rfl) ?_
      refine lv_iload_n hC.1 hC.2.1 dX7_plan_23 rfl (lv_at hl 1 rfl) ?_
      refine ag_i G (ag_runV (As := [.int a1]) (rest := []) hC hT G (c_X7_firstOnesOf l D cy lay h _) (cwV 1 hC.2.2.2.2 gX7_plan_X7_firstOnesOf rfl rfl rfl hdV_X7_firstOnesOf ⟨Nat.le_of_ble_eq_true rfl, Nat.le_of_ble_eq_true rfl⟩) (ag_recv hT G (by decide) e_ag k_X7) rfl hl.1 rfl (Nat.le_of_ble_eq_true rfl) dX7_plan_24 ⟨Nat.le_of_ble_eq_true rfl, Nat.le_of_ble_eq_true rfl⟩) (fun r4 σ3 H locs h G => ?_)
      (try dsimp only at h)
      refine lv_istore_n (lv' := [(3, .int r4), (0, .ref (lay 0)), (1, .int a1), (2, .int a2)]) hC.1 hC.2.1 dX7_plan_27 rfl hl (by decide) rfl (fun ls hl => ?_)
      refine lv_iconst (v := 0) hC.1 hC.2.1 dX7_plan_28 (by decide) ?_
      refine lv_istore (lv' := [(4, .int 0), (3, .int r4), (0, .ref (lay 0)), (1, .int a1), (2, .int a2)]) hC.1 hC.2.1 dX7_plan_29 hl (by decide) rfl (fun ls hl => ?_)
      refine lv_iconst (v := 0) hC.1 hC.2.1 dX7_plan_31 (by decide) ?_
      refine lv_istore (lv' := [(5, .int 0), (4, .int 0), (3, .int r4), (0, .ref (lay 0)), (1, .int a1), (2, .int a2)]) hC.1 hC.2.1 dX7_plan_32 hl (by decide) rfl (fun ls hl => ?_)
      refine lv_iconst (v := 1) hC.1 hC.2.1 dX7_plan_34 (by decide) ?_
      refine lv_istore (lv' := [(6, .int 1), (5, .int 0), (4, .int 0), (3, .int r4), (0, .ref (lay 0)), (1, .int a1), (2, .int a2)]) hC.1 hC.2.1 dX7_plan_35 hl (by decide) rfl (fun ls hl => ?_)
      obtain ⟨n1, h⟩ := h
      exact l_T_X7_plan_37 a1 a2 hl0 hC hr hlocks htab hT n1 _ _ _ _ _ h _ _ _ G (lv_sub hl [4, 5, 6, 3, 2, 1, 0] rfl)
    · replace h := h.2 c2
      exact l_T_X7_plan_11 a1 a2 hl0 hC hr hlocks htab hT _ h _ _ _ G (lv_sub hl [0, 1, 2] rfl)
theorem hdV_X7_plan : yX7_plan.cls = RX7 ∧ yX7_plan.cls ≠ "java/lang/invoke/MethodHandle" ∧ yX7_plan.cls ≠ "java/lang/invoke/VarHandle" ∧ (parseMethodDescriptor yX7_plan.desc).map (fun d => d.parameters.length) = some 2 := by decide +kernel
abbrev rm_T_X7_wouldCancel : Room := { frames := 7, cells := 2, slots := 12, locals := 103 }
theorem i_T_X7_wouldCancel_X7 : ∀ w ∈ wsX70, w ∈ wsX7_wouldCancel := fun _ h => List.mem_cons_of_mem _ (List.mem_append_left _ (List.mem_append_left _ (List.mem_append_left _ (List.mem_append_left _ (List.mem_append_left _ (List.mem_append_right _ h))))))
theorem i_T_X7_wouldCancel_X6 : ∀ w ∈ wsX60, w ∈ wsX7_wouldCancel := fun _ h => List.mem_cons_of_mem _ (List.mem_append_left _ (List.mem_append_left _ (List.mem_append_left _ (List.mem_append_left _ (List.mem_append_right _ h)))))
def w_T_X7_wouldCancel (post : Int32 → MS → Prop) (pex : String → MS → Prop) (σ : MS) (a1 : Int32) : Prop := w_T_X7_checkWedding (fun σ1 => (vp_in a1 14 ∧ (((σ1 (73 + (Int32.toNatClampNeg a1)) 7) = 1 → w_X7_owedFor (fun r5 σ4 => w_X7_extraOf (fun r7 σ6 => w_X7_allWagesAt (fun r9 σ8 => (∀ y10 : Int32, y10 = (if 0 < (r5 - (σ4 (73 + (Int32.toNatClampNeg a1)) 11)) then (r5 - (σ4 (73 + (Int32.toNatClampNeg a1)) 11)) else 0) - ((((σ4 (73 + (Int32.toNatClampNeg a1)) 9) - (σ4 (73 + (Int32.toNatClampNeg a1)) 11)) + r7) - r9) → post y10 σ8)) σ6 (Int32.toNatClampNeg a1)) σ4 (Int32.toNatClampNeg a1)) σ1 (Int32.toNatClampNeg a1)) ∧ (¬ (σ1 (73 + (Int32.toNatClampNeg a1)) 7) = 1 → pex "java/lang/IllegalStateException" σ1)))) pex σ a1
set_option maxHeartbeats 4000000 in
set_option maxRecDepth 100000 in
theorem c_T_X7_wouldCancel (l : Launch) (hl0 : l.stackTraces = false) (D : va_G) (cy : Nat → ClassId) (lay : Nat → Nat) {σ : MS} {post : Int32 → MS → Prop} {pex : String → MS → Prop} {a1 : Int32} (h : w_T_X7_wouldCancel post pex σ a1) (sz : Nat) : vx_Met l yX7_wouldCancel wsX7_wouldCancel rm_T_X7_wouldCancel (va_Pc [.ref (lay 0), .int a1] (agI D cy lay σ sz)) (va_Qi post (agO D cy lay) (agA lay sz)) (agXC D cy lay pex sz) 2 12 (agA lay sz) := by
  refine ag_ofX (cc := cX7_wouldCancel) (maxL := 5) (ret := some .int) (own := RX7) (Qc := fun sz => va_Qi post (agO D cy lay) (agA lay sz)) (by decide) rfl (Nat.le_of_ble_eq_true rfl) rfl ?_
  intro p e s m args below meth c ls hC hr hlocks htab hT G hl
  unfold w_T_X7_wouldCancel at h
  have hl : lv_has ls 5 [(0, .ref (lay 0)), (1, .int a1)] := hl
  refine lv_aload_n hC.1 hC.2.1 dX7_wouldCancel_0 rfl (lv_at hl 0 rfl) ?_
  refine lv_iload_n hC.1 hC.2.1 dX7_wouldCancel_1 rfl (lv_at hl 1 rfl) ?_
  refine ag_vT G htab hlocks (ag_runVT (As := [.int a1]) (rest := []) hC hT G (c_T_X7_checkWedding l hl0 D cy lay h _) (cwV 1 hC.2.2.2.2 gX7_wouldCancel_X7_checkWedding rfl rfl rfl hdV_X7_checkWedding ⟨Nat.le_of_ble_eq_true rfl, Nat.le_of_ble_eq_true rfl⟩) (ag_recv hT G (by decide) e_ag k_X7) rfl hl.1 rfl (Nat.le_of_ble_eq_true rfl) dX7_wouldCancel_2 ⟨Nat.le_of_ble_eq_true rfl, Nat.le_of_ble_eq_true rfl⟩) (by decide) (by decide) (fun σ1 H locs h G => ?_)
  (try dsimp only at h)
  refine lv_aload_n hC.1 hC.2.1 dX7_wouldCancel_5 rfl (lv_at hl 0 rfl) ?_
  refine ag_get hC hT G (by decide) e_ag k_X7 i_T_X7_wouldCancel_X7 3 (by decide) (wm 3 rfl) rfl dX7_wouldCancel_6 ?_
  refine lv_iload_n hC.1 hC.2.1 dX7_wouldCancel_9 rfl (lv_at hl 1 rfl) ?_
  obtain ⟨hn2, h⟩ := h
  refine ag_aald hC hT G (by decide) _ rfl e_wds hn2 dX7_wouldCancel_10 ?_
  refine lv_astore_n (lv' := [(2, .ref (lay (73 + (Int32.toNatClampNeg a1)))), (0, .ref (lay 0)), (1, .int a1)]) hC.1 hC.2.1 dX7_wouldCancel_11 rfl hl (by decide) rfl (fun ls hl => ?_)
  refine lv_aload_n hC.1 hC.2.1 dX7_wouldCancel_12 rfl (lv_at hl 0 rfl) ?_
  refine ag_get hC hT G (k_wd (vlt hn2)) (e_wd (vlt hn2)) k_X6 i_T_X7_wouldCancel_X6 7 (by decide) (wm 4 rfl) rfl dX7_wouldCancel_13 ?_
  refine lv_iconst (v := 1) hC.1 hC.2.1 dX7_wouldCancel_16 (by decide) ?_
  refine lv_icmp_eq (tgt := 31) hC.1 hC.2.1 dX7_wouldCancel_17 (by decide) (fun c3 => ?_) (fun c3 => ?_)
  · replace h := h.1 c3
    refine lv_iconst (v := 0) hC.1 hC.2.1 dX7_wouldCancel_31 (by decide) ?_
    refine lv_aload_n hC.1 hC.2.1 dX7_wouldCancel_32 rfl (lv_at hl 1 rfl) ?_
    refine lv_aload_n hC.1 hC.2.1 dX7_wouldCancel_33 rfl (lv_at hl 0 rfl) ?_
    refine ag_i G (ag_runV (As := [.ref (lay (73 + (Int32.toNatClampNeg a1)))]) (rest := [.int 0]) hC hT G (c_X7_owedFor l D cy lay h (vlt hn2) _) (cwV 1 hC.2.2.2.2 gX7_wouldCancel_X7_owedFor rfl rfl rfl hdV_X7_owedFor ⟨Nat.le_of_ble_eq_true rfl, Nat.le_of_ble_eq_true rfl⟩) (ag_recv hT G (by decide) e_ag k_X7) rfl hl.1 rfl (Nat.le_of_ble_eq_true rfl) dX7_wouldCancel_34 ⟨Nat.le_of_ble_eq_true rfl, Nat.le_of_ble_eq_true rfl⟩) (fun r5 σ4 H locs h G => ?_)
    (try dsimp only at h)
    refine lv_aload_n hC.1 hC.2.1 dX7_wouldCancel_37 rfl (lv_at hl 0 rfl) ?_
    refine ag_get hC hT G (k_wd (vlt hn2)) (e_wd (vlt hn2)) k_X6 i_T_X7_wouldCancel_X6 11 (by decide) (wm 5 rfl) rfl dX7_wouldCancel_38 ?_
    refine lv_isub hC.1 hC.2.1 dX7_wouldCancel_41 ?_
    refine va_mmax hC.1 hC.2.1 (hC.2.2.1.trans hl.1.symm) hC.2.2.2.1 (hC.2.2.2.2 _ (wm 6 rfl)) (hC.2.2.2.2 _ (wm 7 rfl)) (hC.2.2.2.2 _ (wm 8 rfl)) (hC.2.2.2.2 _ (wm 9 rfl)) (Nat.le_of_ble_eq_true rfl) (Nat.le_of_ble_eq_true rfl) (Nat.le_of_ble_eq_true rfl) (Nat.le_of_ble_eq_true rfl) dX7_wouldCancel_42 ?_
    refine lv_istore_n (lv' := [(3, .int (if 0 < (r5 - (σ4 (73 + (Int32.toNatClampNeg a1)) 11)) then (r5 - (σ4 (73 + (Int32.toNatClampNeg a1)) 11)) else 0)), (2, .ref (lay (73 + (Int32.toNatClampNeg a1)))), (0, .ref (lay 0)), (1, .int a1)]) hC.1 hC.2.1 dX7_wouldCancel_45 rfl hl (by decide) rfl (fun ls hl => ?_)
    refine lv_aload_n hC.1 hC.2.1 dX7_wouldCancel_46 rfl (lv_at hl 1 rfl) ?_
    refine ag_get hC hT G (k_wd (vlt hn2)) (e_wd (vlt hn2)) k_X6 i_T_X7_wouldCancel_X6 9 (by decide) (wm 10 rfl) rfl dX7_wouldCancel_47 ?_
    refine lv_aload_n hC.1 hC.2.1 dX7_wouldCancel_50 rfl (lv_at hl 1 rfl) ?_
    refine ag_get hC hT G (k_wd (vlt hn2)) (e_wd (vlt hn2)) k_X6 i_T_X7_wouldCancel_X6 11 (by decide) (wm 5 rfl) rfl dX7_wouldCancel_51 ?_
    refine lv_isub hC.1 hC.2.1 dX7_wouldCancel_54 ?_
    refine lv_aload_n hC.1 hC.2.1 dX7_wouldCancel_55 rfl (lv_at hl 2 rfl) ?_
    refine lv_aload_n hC.1 hC.2.1 dX7_wouldCancel_56 rfl (lv_at hl 1 rfl) ?_
    refine ag_i G (ag_runV (As := [.ref (lay (73 + (Int32.toNatClampNeg a1)))]) (rest := [.int ((σ4 (73 + (Int32.toNatClampNeg a1)) 9) - (σ4 (73 + (Int32.toNatClampNeg a1)) 11))]) hC hT G (c_X7_extraOf l D cy lay h (vlt hn2) _) (cwV 1 hC.2.2.2.2 gX7_wouldCancel_X7_extraOf rfl rfl rfl hdV_X7_extraOf ⟨Nat.le_of_ble_eq_true rfl, Nat.le_of_ble_eq_true rfl⟩) (ag_recv hT G (by decide) e_ag k_X7) rfl hl.1 rfl (Nat.le_of_ble_eq_true rfl) dX7_wouldCancel_57 ⟨Nat.le_of_ble_eq_true rfl, Nat.le_of_ble_eq_true rfl⟩) (fun r7 σ6 H locs h G => ?_)
    (try dsimp only at h)
    refine lv_iadd hC.1 hC.2.1 dX7_wouldCancel_60 ?_
    refine lv_aload_n hC.1 hC.2.1 dX7_wouldCancel_61 rfl (lv_at hl 2 rfl) ?_
    refine lv_aload_n hC.1 hC.2.1 dX7_wouldCancel_62 rfl (lv_at hl 1 rfl) ?_
    refine ag_i G (ag_runV (As := [.ref (lay (73 + (Int32.toNatClampNeg a1)))]) (rest := [.int (((σ4 (73 + (Int32.toNatClampNeg a1)) 9) - (σ4 (73 + (Int32.toNatClampNeg a1)) 11)) + r7)]) hC hT G (c_X7_allWagesAt l D cy lay h (vlt hn2) _) (cwV 1 hC.2.2.2.2 gX7_wouldCancel_X7_allWagesAt rfl rfl rfl hdV_X7_allWagesAt ⟨Nat.le_of_ble_eq_true rfl, Nat.le_of_ble_eq_true rfl⟩) (ag_recv hT G (by decide) e_ag k_X7) rfl hl.1 rfl (Nat.le_of_ble_eq_true rfl) dX7_wouldCancel_63 ⟨Nat.le_of_ble_eq_true rfl, Nat.le_of_ble_eq_true rfl⟩) (fun r9 σ8 H locs h G => ?_)
    (try dsimp only at h)
    refine lv_isub hC.1 hC.2.1 dX7_wouldCancel_66 ?_
    refine lv_istore (lv' := [(4, .int ((((σ4 (73 + (Int32.toNatClampNeg a1)) 9) - (σ4 (73 + (Int32.toNatClampNeg a1)) 11)) + r7) - r9)), (3, .int (if 0 < (r5 - (σ4 (73 + (Int32.toNatClampNeg a1)) 11)) then (r5 - (σ4 (73 + (Int32.toNatClampNeg a1)) 11)) else 0)), (2, .ref (lay (73 + (Int32.toNatClampNeg a1)))), (0, .ref (lay 0)), (1, .int a1)]) hC.1 hC.2.1 dX7_wouldCancel_67 hl (by decide) rfl (fun ls hl => ?_)
    refine lv_iload_n hC.1 hC.2.1 dX7_wouldCancel_69 rfl (lv_at hl 1 rfl) ?_
    refine lv_iload hC.1 hC.2.1 dX7_wouldCancel_70 (lv_at hl 0 rfl) ?_
    refine lv_isub hC.1 hC.2.1 dX7_wouldCancel_72 ?_
    refine lv_topi (fun y10 ey10 => ?_)
    replace h := h y10 ey10
    refine W.widen (k := 2) (n := 12) (by decide) (by decide) ?_
    exact vx_ret (ag_iret hC hr hlocks G h dX7_wouldCancel_73)
  · replace h := h.2 c3
    exact ag_throwW (text := "it is not fixed") (names := ["java/lang/RuntimeException", "java/lang/Exception"]) hl0 hC hT G htab hlocks hl.1 (by decide) (by decide) (wm 1 rfl) (wm 2 rfl) (List.mem_of_getElem? (i := 15) rfl) (fun _ h => List.mem_cons_of_mem _ (List.mem_append_left _ (List.mem_append_right _ h))) exISE_all exISE_good dX7_wouldCancel_20 dX7_wouldCancel_23 dX7_wouldCancel_24 dX7_wouldCancel_27 dX7_wouldCancel_30 (by decide) (Nat.le_of_ble_eq_true rfl) (Nat.le_of_ble_eq_true rfl) (Nat.le_of_ble_eq_true rfl) (by decide) (by decide) h
theorem hdV_X7_wouldCancel : yX7_wouldCancel.cls = RX7 ∧ yX7_wouldCancel.cls ≠ "java/lang/invoke/MethodHandle" ∧ yX7_wouldCancel.cls ≠ "java/lang/invoke/VarHandle" ∧ (parseMethodDescriptor yX7_wouldCancel.desc).map (fun d => d.parameters.length) = some 1 := by decide +kernel
abbrev rm_T_X7_key : Room := { frames := 7, cells := 1, slots := 6, locals := 118 }
theorem i_T_X7_key_X7 : ∀ w ∈ wsX70, w ∈ wsX7_key := fun _ h => List.mem_cons_of_mem _ (List.mem_append_left _ (List.mem_append_left _ (List.mem_append_left _ (List.mem_append_left _ (List.mem_append_left _ (List.mem_append_left _ (List.mem_append_right _ h)))))))
theorem i_T_X7_key_X2 : ∀ w ∈ wsX20, w ∈ wsX7_key := fun _ h => List.mem_cons_of_mem _ (List.mem_append_left _ (List.mem_append_left _ (List.mem_append_left _ (List.mem_append_left _ (List.mem_append_left _ (List.mem_append_right _ h))))))
def u_T_X7_key_24 (post : Int32 → MS → Prop) (pex : String → MS → Prop) (a1 : Int32) : Nat → MS → Int32 → Prop
  | 0, _, _ => False
  | n + 1, σ, v2 => (((σ 0 6) ≤ v2 → post (-1) σ) ∧ (¬ (σ 0 6) ≤ v2 → w_X7_has (fun r6 σ5 => ((r6 = 0 → u_T_X7_key_24 post pex a1 n σ5 (v2 + 1)) ∧ (¬ r6 = 0 → post v2 σ5))) σ (σ 9 4) v2))
set_option maxHeartbeats 4000000 in
set_option maxRecDepth 100000 in
theorem l_T_X7_key_24 {p : Program} {l : Launch} {e : Env} {s : State} {m : MethodId} {args : Array Value} {below : List Frame} {meth : Method} {c : Code} {D : va_G} {cy : Nat → ClassId} {lay : Nat → Nat} {post : Int32 → MS → Prop} {pex : String → MS → Prop} (a1 : Int32) (hl0 : l.stackTraces = false) (hC : CallFix p m c cX7_key 3 s args wsX7_key RX7) (hr : meth.sig.returnType = some .int) (hlocks : meth.locks = false) (htab : ∀ x ∈ c.exceptionTable.toList, False) (hT : agT D cy lay s) : ∀ (n : Nat), ∀ (σ : MS) (v2 : Int32), u_T_X7_key_24 post pex a1 n σ v2 → ∀ (H : Heap) (locs : List Loc) (ls : Array Slot), agG D cy lay σ (agA lay s.heap.size) s.heap H locs → lv_has ls 3 [(0, .ref (lay 0)), (1, .int a1), (2, .int v2)] → W p l e rm_T_X7_key s m args below meth c H locs 1 6 (vx_MQ below (va_Qi post (agO D cy lay) (agA lay s.heap.size)) (agXC D cy lay pex s.heap.size) args s 1 6 (agA lay s.heap.size)) (F0 m 24 ls []) := by
  intro n
  induction n with
  | zero =>
    intro σ v2 h
    exact h.elim
  | succ n ih =>
    intro σ v2 h H locs ls G hl
    rw [u_T_X7_key_24] at h
    refine lv_iload_n hC.1 hC.2.1 dX7_key_24 rfl (lv_at hl 2 rfl) ?_
    refine lv_aload_n hC.1 hC.2.1 dX7_key_25 rfl (lv_at hl 0 rfl) ?_
    refine ag_get hC hT G (by decide) e_ag k_X7 i_T_X7_key_X7 6 (by decide) (wm 3 rfl) rfl dX7_key_26 ?_
    refine lv_icmp_ge (tgt := 54) hC.1 hC.2.1 dX7_key_29 (by decide) (fun c4 => ?_) (fun c4 => ?_)
    · replace h := h.1 c4
      refine lv_iconst (v := (-1)) hC.1 hC.2.1 dX7_key_54 (by decide) ?_
      refine W.widen (k := 1) (n := 6) (by decide) (by decide) ?_
      exact vx_ret (ag_iret hC hr hlocks G h dX7_key_55)
    · replace h := h.2 c4
      refine lv_aload_n hC.1 hC.2.1 dX7_key_32 rfl (lv_at hl 0 rfl) ?_
      refine ag_get hC hT G (by decide) e_ag k_X7 i_T_X7_key_X7 13 (by decide) (wm 1 rfl) rfl dX7_key_33 ?_
      refine ag_get hC hT G (by decide) e_fd k_X2 i_T_X7_key_X2 4 (by decide) (wm 4 rfl) rfl dX7_key_36 ?_
      refine lv_iload_n hC.1 hC.2.1 dX7_key_39 rfl (lv_at hl 2 rfl) ?_
      refine ag_i G (ag_runS (As := [.int (σ 9 4), .int v2]) (rest := []) hC hT G (c_X7_has l D cy lay h _) (va_cwS 2 hC.2.2.2.2 gX7_key_X7_has rfl rfl rfl hdS_X7_has ⟨Nat.le_of_ble_eq_true rfl, Nat.le_of_ble_eq_true rfl⟩) rfl hl.1 rfl (Nat.le_of_ble_eq_true rfl) dX7_key_40 ⟨Nat.le_of_ble_eq_true rfl, Nat.le_of_ble_eq_true rfl⟩) (fun r6 σ5 H locs h G => ?_)
      (try dsimp only at h)
      refine lv_if_eq (tgt := 48) hC.1 hC.2.1 dX7_key_43 (by decide) (fun c7 => ?_) (fun c7 => ?_)
      · replace h := h.1 c7
        refine lv_iinc (v := v2 + 1) (lv' := [(2, .int (v2 + 1)), (0, .ref (lay 0)), (1, .int a1)]) hC.1 hC.2.1 dX7_key_48 hl (k := 2) rfl rfl (by decide) rfl (fun ls hl => ?_)
        refine lv_goto (tgt := 24) hC.1 hC.2.1 dX7_key_51 (by decide) ?_
        exact ih _ _ h _ _ _ G (lv_sub hl [1, 2, 0] rfl)
      · replace h := h.2 c7
        refine lv_iload_n hC.1 hC.2.1 dX7_key_46 rfl (lv_at hl 2 rfl) ?_
        refine W.widen (k := 1) (n := 6) (by decide) (by decide) ?_
        exact vx_ret (ag_iret hC hr hlocks G h dX7_key_47)
def w_T_X7_key (post : Int32 → MS → Prop) (pex : String → MS → Prop) (σ : MS) (a1 : Int32) : Prop := w_T_X7_checkWedding (fun σ1 => w_X7_surveyNow (fun σ2 => (((σ2 9 3) = 0 → post (-1) σ2) ∧ (¬ (σ2 9 3) = 0 → (∃ k, u_T_X7_key_24 post pex a1 k σ2 0)))) σ1 a1) pex σ a1
set_option maxHeartbeats 4000000 in
set_option maxRecDepth 100000 in
theorem c_T_X7_key (l : Launch) (hl0 : l.stackTraces = false) (D : va_G) (cy : Nat → ClassId) (lay : Nat → Nat) {σ : MS} {post : Int32 → MS → Prop} {pex : String → MS → Prop} {a1 : Int32} (h : w_T_X7_key post pex σ a1) (sz : Nat) : vx_Met l yX7_key wsX7_key rm_T_X7_key (va_Pc [.ref (lay 0), .int a1] (agI D cy lay σ sz)) (va_Qi post (agO D cy lay) (agA lay sz)) (agXC D cy lay pex sz) 1 6 (agA lay sz) := by
  refine ag_ofX (cc := cX7_key) (maxL := 3) (ret := some .int) (own := RX7) (Qc := fun sz => va_Qi post (agO D cy lay) (agA lay sz)) (by decide) rfl (Nat.le_of_ble_eq_true rfl) rfl ?_
  intro p e s m args below meth c ls hC hr hlocks htab hT G hl
  unfold w_T_X7_key at h
  have hl : lv_has ls 3 [(0, .ref (lay 0)), (1, .int a1)] := hl
  refine lv_aload_n hC.1 hC.2.1 dX7_key_0 rfl (lv_at hl 0 rfl) ?_
  refine lv_iload_n hC.1 hC.2.1 dX7_key_1 rfl (lv_at hl 1 rfl) ?_
  refine ag_vT G htab hlocks (ag_runVT (As := [.int a1]) (rest := []) hC hT G (c_T_X7_checkWedding l hl0 D cy lay h _) (cwV 1 hC.2.2.2.2 gX7_key_X7_checkWedding rfl rfl rfl hdV_X7_checkWedding ⟨Nat.le_of_ble_eq_true rfl, Nat.le_of_ble_eq_true rfl⟩) (ag_recv hT G (by decide) e_ag k_X7) rfl hl.1 rfl (Nat.le_of_ble_eq_true rfl) dX7_key_2 ⟨Nat.le_of_ble_eq_true rfl, Nat.le_of_ble_eq_true rfl⟩) (by decide) (by decide) (fun σ1 H locs h G => ?_)
  (try dsimp only at h)
  refine lv_aload_n hC.1 hC.2.1 dX7_key_5 rfl (lv_at hl 0 rfl) ?_
  refine lv_iload_n hC.1 hC.2.1 dX7_key_6 rfl (lv_at hl 1 rfl) ?_
  refine ag_v G (ag_runV (As := [.int a1]) (rest := []) hC hT G (c_X7_surveyNow l D cy lay h _) (cwV 1 hC.2.2.2.2 gX7_key_X7_surveyNow rfl rfl rfl hdV_X7_surveyNow ⟨Nat.le_of_ble_eq_true rfl, Nat.le_of_ble_eq_true rfl⟩) (ag_recv hT G (by decide) e_ag k_X7) rfl hl.1 rfl (Nat.le_of_ble_eq_true rfl) dX7_key_7 ⟨Nat.le_of_ble_eq_true rfl, Nat.le_of_ble_eq_true rfl⟩) (fun σ2 H locs h G => ?_)
  (try dsimp only at h)
  refine lv_aload_n hC.1 hC.2.1 dX7_key_10 rfl (lv_at hl 0 rfl) ?_
  refine ag_get hC hT G (by decide) e_ag k_X7 i_T_X7_key_X7 13 (by decide) (wm 1 rfl) rfl dX7_key_11 ?_
  refine ag_get hC hT G (by decide) e_fd k_X2 i_T_X7_key_X2 3 (by decide) (wm 2 rfl) rfl dX7_key_14 ?_
  refine lv_if_ne (tgt := 22) hC.1 hC.2.1 dX7_key_17 (by decide) (fun c3 => ?_) (fun c3 => ?_)
  · replace h := h.2 c3
    refine lv_iconst (v := 0) hC.1 hC.2.1 dX7_key_22 (by decide) ?_
    refine lv_istore_n (lv' := [(2, .int 0), (0, .ref (lay 0)), (1, .int a1)]) hC.1 hC.2.1 dX7_key_23 rfl hl (by decide) rfl (fun ls hl => ?_)
    obtain ⟨n1, h⟩ := h
    exact l_T_X7_key_24 a1 hl0 hC hr hlocks htab hT n1 _ _ h _ _ _ G (lv_sub hl [1, 2, 0] rfl)
  · replace h := h.1 c3
    refine lv_iconst (v := (-1)) hC.1 hC.2.1 dX7_key_20 (by decide) ?_
    refine W.widen (k := 1) (n := 6) (by decide) (by decide) ?_
    exact vx_ret (ag_iret hC hr hlocks G h dX7_key_21)
theorem hdV_X7_key : yX7_key.cls = RX7 ∧ yX7_key.cls ≠ "java/lang/invoke/MethodHandle" ∧ yX7_key.cls ≠ "java/lang/invoke/VarHandle" ∧ (parseMethodDescriptor yX7_key.desc).map (fun d => d.parameters.length) = some 1 := by decide +kernel
