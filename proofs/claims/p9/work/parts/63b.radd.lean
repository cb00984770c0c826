/-! THE REFERENCE: adding to a list, second half -/
theorem g_astoA {p : Program} {l : Launch} {e : Env} {R : Room} {s : State} {m : MethodId} {args : Array Value} {below : List Frame} {meth : Method} {c : Code} {H : Heap} {locs : List Loc} {cells slots : Nat} {Q : State → Prop} {cc : ByteArray} {pc nL : Nat} {ls : Array Slot} {rest : List Value} {D : va_G} {cy : Nat → ClassId} {lay : Nat → Nat} {X : Nat → Option va_E} {A : Nat → Prop} {H0 : Heap} {Ts : List Cond} {own : String} {k kv a v : Nat} (ha : lay k = a) (hv : lay kv = v) (hC : CallFix p m c cc nL s args Ts own) (hT : va_K D vwCl (fdT cy) s) (G : gG D lay X A H0 H locs) (hk : k < 128) (hkv : kv < 128) (ci : Nat) {r : vw_C} {n : Nat} {vs : List Value} {f : Nat → Option Nat} (he : X k = some (.inl (cy 7, n, rfS f))) (hca : va_Nw (.castable r.1 "java/lang/Object") s) (hev : X kv = some (.inr (ci, vs))) (hc : vwCl[ci]? = some r) {i : Int32} (hin : vp_in i n) (hdg : decode cc pc = .ok (.aastore, 1))
    (kk : ∀ (H1 : Heap) (locs1 : List Loc), gG D lay (gU X k (some (.inl (cy 7, n, rfS (va_up f i.toNatClampNeg (some v)))))) A H0 H1 locs1 → W p l e R s m args below meth c H1 locs1 cells slots Q (F0 m (pc + 1) ls rest)) : W p l e R s m args below meth c H locs cells slots Q (F0 m pc ls (.ref v :: .int i :: .ref a :: rest)) := by
  subst ha
  subst hv
  exact g_asto hC hT G hk hkv ci he hca hev hc hin hdg kk
theorem gU4 {X : Nat → Option va_E} {ke kl : Nat} {a b c d : Option va_E} : gU (gU (gU (gU X ke a) kl b) ke c) kl d = gU (gU X ke c) kl d := by
  funext i
  by_cases h : i = kl
  · subst h; rw [gU_eq, gU_eq]
  · rw [gU_ne h, gU_ne h]
    by_cases h2 : i = ke
    · subst h2; rw [gU_eq, gU_eq]
    · rw [gU_ne h2, gU_ne h, gU_ne h2, gU_ne h2]
theorem gU3 {X : Nat → Option va_E} {ke kl : Nat} {b c d : Option va_E} : gU (gU (gU X kl b) ke c) kl d = gU (gU X ke c) kl d := by
  funext i
  by_cases h : i = kl
  · subst h; rw [gU_eq, gU_eq]
  · rw [gU_ne h, gU_ne h]
    by_cases h2 : i = ke
    · subst h2; rw [gU_eq, gU_eq]
    · rw [gU_ne h2, gU_ne h, gU_ne h2]
/-- the list's row and the list, with one more -/
def adX (cy : Nat → ClassId) (X : Nat → Option va_E) (kl ke : Nat) (mo : Int32) (o cap n : Nat) (f : Nat → Option Nat) (v : Nat) : Nat → Option va_E :=
  gU (gU X ke (some (.inl (cy 7, cap, rfS (va_up f n (some v)))))) kl (some (.inr (4, [.int mo, .ref o, .int (nI (n + 1))])))
set_option maxHeartbeats 4000000 in
set_option maxRecDepth 100000 in
theorem c_ad3_0 (l : Launch) (D : va_G) (cy : Nat → ClassId) (lay : Nat → Nat) (X : Nat → Option va_E) (ea mi : Nat) {kl ke kv ci qn : Nat} {r : vw_C} {vs : List Value} (hkl : kl < 128) (hke : ke < 128) (hkv : kv < 128) (hne : kl ≠ ke) (hne2 : kv ≠ ke) (hne3 : kv ≠ kl) {mo : Int32} (h1 : X kl = some (.inr (4, [.int mo, .ref ea, .int 0]))) (h2 : X ke = none) (h3 : X kv = some (.inr (ci, vs))) (hc : vwCl[ci]? = some r) (hqn : nestR[qn]? = some (.castable r.1 "java/lang/Object")) (sz : Nat) : Met l yJx4a65c_add_72be8 wsJx4a65c_add_72be8 rm_ad3 (va_Pc [.ref (lay kl), .ref (lay kv), .ref ea, .int 0] (hK D cy lay X ea mi sz)) (va_Qv (fun Y : GY => ∃ q, Y = (gU lay ke q, adX cy X kl ke mo q 10 0 (fun _ => none) (lay kv))) (gO D (gA lay X sz)) (gA lay X sz)) 1 10 (gA lay X sz) := by
  refine k_ofW (cc := cJx4a65c_add_72be8) (maxL := 4) (ret := none) (own := RJx4a65c) (Qc := fun sz => va_Qv (fun Y : GY => ∃ q, Y = (gU lay ke q, adX cy X kl ke mo q 10 0 (fun _ => none) (lay kv))) (gO D (gA lay X sz)) (gA lay X sz)) (by decide) rfl (Nat.le_of_ble_eq_true rfl) rfl ?_
  intro p e0 s m args below meth c ls hC hr hlocks hname hT hZ G hl
  have hl : lv_has ls 4 [(0, .ref (lay kl)), (1, .ref (lay kv)), (2, .ref ea), (3, .int 0)] := hl
  have hA : ∀ q, s.heap.size ≤ q → gA lay X s.heap.size q := fun _ h => Or.inr h
  refine lv_iload_n hC.1 hC.2.1 dJx4a65c_add_72be8_0 rfl (lv_at hl 3 rfl) ?_
  refine lv_aload_n hC.1 hC.2.1 dJx4a65c_add_72be8_1 rfl (lv_at hl 2 rfl) ?_
  refine va_tlen (ty := .object "java/lang/Object") (N := 0) (f := fun _ => .null) hC.1 hC.2.1 hZ.2.1 G.2.2 rfl dJx4a65c_add_72be8_2 ?_
  refine lv_icmp_ne (tgt := 11) hC.1 hC.2.1 dJx4a65c_add_72be8_3 (by decide) (fun c1 => absurd rfl c1) (fun _ => ?_)
  refine lv_aload_n hC.1 hC.2.1 dJx4a65c_add_72be8_6 rfl (lv_at hl 0 rfl) ?_
  refine k_r (f := fun Y => Y.1 ke) G hA (k_runV (As := []) (rest := []) hC hT hZ hA G (c_gr1 l D cy lay X ea mi hkl hke hne h1 h2 _) (cwV 0 hC.2.2.2.2 gJx4a65c_add_72be8_Jx4a65c_grow_d5877 rfl rfl rfl hdV_gr1 ⟨Nat.le_of_ble_eq_true rfl, Nat.le_of_ble_eq_true rfl⟩) (h_recv hT G hkl h1 k_AL) rfl hl.1 rfl (Nat.le_of_ble_eq_true rfl) dJx4a65c_add_72be8_7 ⟨Nat.le_of_ble_eq_true rfl, Nat.le_of_ble_eq_true rfl⟩) (fun Y H locs hY G => ?_)
  obtain ⟨q, rfl⟩ := hY
  have G : gG D (gU lay ke q) (gU (gU X ke (some (arr0 cy))) kl (some (.inr (4, [.int mo, .ref q, .int 0])))) (gA lay X s.heap.size) s.heap H locs := G
  have e1 : gU lay ke q kl = lay kl := gU_ne hne
  have e2 : gU lay ke q kv = lay kv := gU_ne hne2
  have e3 : gU lay ke q ke = q := gU_eq
  refine lv_astore_n (lv' := [(2, .ref q), (0, .ref (lay kl)), (1, .ref (lay kv)), (3, .int 0)]) hC.1 hC.2.1 dJx4a65c_add_72be8_10 rfl hl (by decide) (by show (2, Value.ref (gU lay ke q ke)) :: _ = _; rw [e3]; rfl) (fun ls hl => ?_)
  refine lv_aload_n hC.1 hC.2.1 dJx4a65c_add_72be8_11 rfl (lv_at hl 0 rfl) ?_
  refine lv_iload_n hC.1 hC.2.1 dJx4a65c_add_72be8_12 rfl (lv_at hl 3 rfl) ?_
  refine lv_aload_n hC.1 hC.2.1 dJx4a65c_add_72be8_13 rfl (lv_at hl 2 rfl) ?_
  refine g_astoA e3 e2 hC hT.1 G hke hkv ci ((gU_ne (Ne.symm hne)).trans gU_eq) (hT.2.1 _ (wm qn hqn)) ((gU_ne hne3).trans ((gU_ne hne2).trans h3)) hc (show vp_in (nI 0) 10 from vp_in_nI (by decide) (by decide)) dJx4a65c_add_72be8_14 (fun H locs G => ?_)
  refine lv_aload_n hC.1 hC.2.1 dJx4a65c_add_72be8_15 rfl (lv_at hl 1 rfl) ?_
  refine lv_iload_n hC.1 hC.2.1 dJx4a65c_add_72be8_16 rfl (lv_at hl 3 rfl) ?_
  refine lv_iconst (v := 1) hC.1 hC.2.1 dJx4a65c_add_72be8_17 (by decide) ?_
  refine lv_iadd hC.1 hC.2.1 dJx4a65c_add_72be8_18 ?_
  refine g_putA (a := lay kl) e1 hC hT.1 G hkl ((gU_ne hne).trans gU_eq) k_AL i_ad3_L 2 (by decide) (wm 1 rfl) rfl rfl rfl (by simp) dJx4a65c_add_72be8_19 (fun H locs G => ?_)
  have G : gG D (gU lay ke q) (adX cy X kl ke mo q 10 0 (fun _ => none) (lay kv)) (gA lay X s.heap.size) s.heap H locs := by
    unfold adX
    rw [← gU4 (a := some (arr0 cy)) (b := some (.inr (4, [.int mo, .ref q, .int 0])))]
    exact G
  exact g_vret (Y := (gU lay ke q, adX cy X kl ke mo q 10 0 (fun _ => none) (lay kv))) hC hr hlocks G ⟨q, rfl⟩ dJx4a65c_add_72be8_22
set_option maxHeartbeats 4000000 in
set_option maxRecDepth 100000 in
theorem c_ad3_A (l : Launch) (D : va_G) (cy : Nat → ClassId) (lay : Nat → Nat) (X : Nat → Option va_E) (ea mi : Nat) {kl ke kv ci qn n cap : Nat} {r : vw_C} {vs : List Value} {f : Nat → Option Nat} (hkl : kl < 128) (hke : ke < 128) (hkv : kv < 128) (hne : kl ≠ ke) (hn : n < cap) (hcap : cap < 100) {mo : Int32} (h1 : X kl = some (.inr (4, [.int mo, .ref (lay ke), .int (nI n)]))) (h2 : X ke = some (.inl (cy 7, cap, rfS f))) (h3 : X kv = some (.inr (ci, vs))) (hc : vwCl[ci]? = some r) (hqn : nestR[qn]? = some (.castable r.1 "java/lang/Object")) (sz : Nat) : Met l yJx4a65c_add_72be8 wsJx4a65c_add_72be8 rm_ad3 (va_Pc [.ref (lay kl), .ref (lay kv), .ref (lay ke), .int (nI n)] (hK D cy lay X ea mi sz)) (va_Qv (fun Y : GY => Y = (lay, adX cy X kl ke mo (lay ke) cap n f (lay kv))) (gO D (gA lay X sz)) (gA lay X sz)) 1 10 (gA lay X sz) := by
  refine k_ofW (cc := cJx4a65c_add_72be8) (maxL := 4) (ret := none) (own := RJx4a65c) (Qc := fun sz => va_Qv (fun Y : GY => Y = (lay, adX cy X kl ke mo (lay ke) cap n f (lay kv))) (gO D (gA lay X sz)) (gA lay X sz)) (by decide) rfl (Nat.le_of_ble_eq_true rfl) rfl ?_
  intro p e0 s m args below meth c ls hC hr hlocks hname hT hZ G hl
  have hl : lv_has ls 4 [(0, .ref (lay kl)), (1, .ref (lay kv)), (2, .ref (lay ke)), (3, .int (nI n))] := hl
  refine lv_iload_n hC.1 hC.2.1 dJx4a65c_add_72be8_0 rfl (lv_at hl 3 rfl) ?_
  refine lv_aload_n hC.1 hC.2.1 dJx4a65c_add_72be8_1 rfl (lv_at hl 2 rfl) ?_
  obtain ⟨q0, hq0⟩ := gW_pos (lay := lay) hke h2
  refine va_alen hC.1 hC.2.1 hT.1 (gP_list G.1) q0 7 hq0 rfl rfl dJx4a65c_add_72be8_2 ?_
  refine lv_icmp_ne (tgt := 11) hC.1 hC.2.1 dJx4a65c_add_72be8_3 (by decide) (fun _ => ?_) (fun c1 => absurd (by rw [c1]; exact Int32.le_refl _) (nI_ge hn (by omega)))
  refine lv_aload_n hC.1 hC.2.1 dJx4a65c_add_72be8_11 rfl (lv_at hl 2 rfl) ?_
  refine lv_iload_n hC.1 hC.2.1 dJx4a65c_add_72be8_12 rfl (lv_at hl 3 rfl) ?_
  refine lv_aload_n hC.1 hC.2.1 dJx4a65c_add_72be8_13 rfl (lv_at hl 1 rfl) ?_
  refine g_asto hC hT.1 G hke hkv ci h2 (hT.2.1 _ (wm qn hqn)) h3 hc (vp_in_nI hn (by omega)) dJx4a65c_add_72be8_14 (fun H locs G => ?_)
  refine lv_aload_n hC.1 hC.2.1 dJx4a65c_add_72be8_15 rfl (lv_at hl 0 rfl) ?_
  refine lv_iload_n hC.1 hC.2.1 dJx4a65c_add_72be8_16 rfl (lv_at hl 3 rfl) ?_
  refine lv_iconst (v := 1) hC.1 hC.2.1 dJx4a65c_add_72be8_17 (by decide) ?_
  refine lv_iadd hC.1 hC.2.1 dJx4a65c_add_72be8_18 ?_
  rw [nI_1, nI_clamp (show n < 2 ^ 31 by omega)] at *
  refine g_put hC hT.1 G hkl ((gU_ne hne).trans h1) k_AL i_ad3_L 2 (by decide) (wm 1 rfl) rfl rfl rfl (by simp) dJx4a65c_add_72be8_19 (fun H locs G => ?_)
  have G : gG D lay (adX cy X kl ke mo (lay ke) cap n f (lay kv)) (gA lay X s.heap.size) s.heap H locs := G
  refine W.widen (k := 1) (n := 10) (by decide) (by decide) ?_
  exact g_vret (Y := (lay, adX cy X kl ke mo (lay ke) cap n f (lay kv))) hC hr hlocks G rfl dJx4a65c_add_72be8_22
/-! add(E): on the empty list -/
set_option maxHeartbeats 4000000 in
set_option maxRecDepth 100000 in
theorem c_add_0 (l : Launch) (D : va_G) (cy : Nat → ClassId) (lay : Nat → Nat) (X : Nat → Option va_E) (ea mi : Nat) {kl ke kv ci qn : Nat} {r : vw_C} {vs : List Value} (hkl : kl < 128) (hke : ke < 128) (hkv : kv < 128) (hne : kl ≠ ke) (hne2 : kv ≠ ke) (hne3 : kv ≠ kl) {mo : Int32} (h1 : X kl = some (.inr (4, [.int mo, .ref ea, .int 0]))) (h2 : X ke = none) (h3 : X kv = some (.inr (ci, vs))) (hc : vwCl[ci]? = some r) (hqn : nestR[qn]? = some (.castable r.1 "java/lang/Object")) (sz : Nat) : Met l yJx4a65c_add_9ea2d wsJx4a65c_add_9ea2d rm_add (va_Pc [.ref (lay kl), .ref (lay kv)] (hK D cy lay X ea mi sz)) (va_Qi (fun x (Y : GY) => x = 1 ∧ ∃ q, Y = (gU lay ke q, adX cy X kl ke (mo + 1) q 10 0 (fun _ => none) (lay kv))) (gO D (gA lay X sz)) (gA lay X sz)) 1 10 (gA lay X sz) := by
  refine k_ofW (cc := cJx4a65c_add_9ea2d) (maxL := 2) (ret := some .boolean) (own := RJx4a65c) (Qc := fun sz => va_Qi (fun x (Y : GY) => x = 1 ∧ ∃ q, Y = (gU lay ke q, adX cy X kl ke (mo + 1) q 10 0 (fun _ => none) (lay kv))) (gO D (gA lay X sz)) (gA lay X sz)) (by decide) rfl (Nat.le_of_ble_eq_true rfl) rfl ?_
  intro p e0 s m args below meth c ls hC hr hlocks hname hT hZ G hl
  have hl : lv_has ls 2 [(0, .ref (lay kl)), (1, .ref (lay kv))] := hl
  have hA : ∀ q, s.heap.size ≤ q → gA lay X s.heap.size q := fun _ h => Or.inr h
  refine lv_aload_n hC.1 hC.2.1 dJx4a65c_add_9ea2d_0 rfl (lv_at hl 0 rfl) ?_
  refine lv_dup hC.1 hC.2.1 dJx4a65c_add_9ea2d_1 rfl ?_
  refine g_getS hC hT.1 G hkl h1 k_AL i_add_L 0 (by decide) (wm 1 rfl) (wm 2 rfl) rfl dJx4a65c_add_9ea2d_2 ?_
  refine lv_iconst (v := 1) hC.1 hC.2.1 dJx4a65c_add_9ea2d_5 (by decide) ?_
  refine lv_iadd hC.1 hC.2.1 dJx4a65c_add_9ea2d_6 ?_
  refine g_putS hC hT.1 G hkl h1 k_AL i_add_L 0 (by decide) (wm 1 rfl) (wm 2 rfl) rfl rfl rfl (by simp) dJx4a65c_add_9ea2d_7 (fun H locs G => ?_)
  have G : gG D lay (gU X kl (some (.inr (4, [.int (mo + 1), .ref ea, .int 0])))) (gA lay X s.heap.size) s.heap H locs := G
  refine lv_aload_n hC.1 hC.2.1 dJx4a65c_add_9ea2d_10 rfl (lv_at hl 0 rfl) ?_
  refine lv_aload_n hC.1 hC.2.1 dJx4a65c_add_9ea2d_11 rfl (lv_at hl 1 rfl) ?_
  refine lv_aload_n hC.1 hC.2.1 dJx4a65c_add_9ea2d_12 rfl (lv_at hl 0 rfl) ?_
  refine g_get hC hT.1 G hkl gU_eq k_AL i_add_L 1 (by decide) (wm 3 rfl) rfl dJx4a65c_add_9ea2d_13 ?_
  refine lv_aload_n hC.1 hC.2.1 dJx4a65c_add_9ea2d_16 rfl (lv_at hl 0 rfl) ?_
  refine g_get hC hT.1 G hkl gU_eq k_AL i_add_L 2 (by decide) (wm 4 rfl) rfl dJx4a65c_add_9ea2d_17 ?_
  refine g_v G hA (k_runV (As := [.ref (lay kv), .ref ea, .int 0]) (rest := []) hC hT hZ hA G (c_ad3_0 l D cy lay (gU X kl (some (.inr (4, [.int (mo + 1), .ref ea, .int 0])))) ea mi hkl hke hkv hne hne2 hne3 gU_eq ((gU_ne (Ne.symm hne)).trans h2) ((gU_ne hne3).trans h3) hc hqn _) (cwV 3 hC.2.2.2.2 gJx4a65c_add_9ea2d_Jx4a65c_add_72be8 rfl rfl rfl hdV_ad3 ⟨Nat.le_of_ble_eq_true rfl, Nat.le_of_ble_eq_true rfl⟩) (h_recv hT G hkl gU_eq k_AL) rfl hl.1 rfl (Nat.le_of_ble_eq_true rfl) dJx4a65c_add_9ea2d_20 ⟨Nat.le_of_ble_eq_true rfl, Nat.le_of_ble_eq_true rfl⟩) (fun Y H locs hY G => ?_)
  obtain ⟨q, rfl⟩ := hY
  have G : gG D (gU lay ke q) (adX cy X kl ke (mo + 1) q 10 0 (fun _ => none) (lay kv)) (gA lay X s.heap.size) s.heap H locs := by
    have e : adX cy (gU X kl (some (.inr (4, [.int (mo + 1), .ref ea, .int 0])))) kl ke (mo + 1) q 10 0 (fun _ => none) (lay kv) = adX cy X kl ke (mo + 1) q 10 0 (fun _ => none) (lay kv) := by
      unfold adX
      exact gU3
    rw [← e]
    exact G
  refine lv_iconst (v := 1) hC.1 hC.2.1 dJx4a65c_add_9ea2d_23 (by decide) ?_
  exact W.zret (v := 1) hC.1 hC.2.1 hr rfl (fun t ht hW => ⟨⟨1, (gU lay ke q, adX cy X kl ke (mo + 1) q 10 0 (fun _ => none) (lay kv)), rfl, ⟨rfl, q, rfl⟩, by rw [ht]; exact G.1, G.2.1⟩, G.2.2.F ht⟩) G.2.2.2.2 dJx4a65c_add_9ea2d_24 hlocks
/-! add(E): where there is room -/
set_option maxHeartbeats 4000000 in
set_option maxRecDepth 100000 in
theorem c_add_A (l : Launch) (D : va_G) (cy : Nat → ClassId) (lay : Nat → Nat) (X : Nat → Option va_E) (ea mi : Nat) {kl ke kv ci qn n cap : Nat} {r : vw_C} {vs : List Value} {f : Nat → Option Nat} (hkl : kl < 128) (hke : ke < 128) (hkv : kv < 128) (hne : kl ≠ ke) (hne3 : kv ≠ kl) (hn : n < cap) (hcap : cap < 100) {mo : Int32} (h1 : X kl = some (.inr (4, [.int mo, .ref (lay ke), .int (nI n)]))) (h2 : X ke = some (.inl (cy 7, cap, rfS f))) (h3 : X kv = some (.inr (ci, vs))) (hc : vwCl[ci]? = some r) (hqn : nestR[qn]? = some (.castable r.1 "java/lang/Object")) (sz : Nat) : Met l yJx4a65c_add_9ea2d wsJx4a65c_add_9ea2d rm_add (va_Pc [.ref (lay kl), .ref (lay kv)] (hK D cy lay X ea mi sz)) (va_Qi (fun x (Y : GY) => x = 1 ∧ Y = (lay, adX cy X kl ke (mo + 1) (lay ke) cap n f (lay kv))) (gO D (gA lay X sz)) (gA lay X sz)) 1 10 (gA lay X sz) := by
  refine k_ofW (cc := cJx4a65c_add_9ea2d) (maxL := 2) (ret := some .boolean) (own := RJx4a65c) (Qc := fun sz => va_Qi (fun x (Y : GY) => x = 1 ∧ Y = (lay, adX cy X kl ke (mo + 1) (lay ke) cap n f (lay kv))) (gO D (gA lay X sz)) (gA lay X sz)) (by decide) rfl (Nat.le_of_ble_eq_true rfl) rfl ?_
  intro p e0 s m args below meth c ls hC hr hlocks hname hT hZ G hl
  have hl : lv_has ls 2 [(0, .ref (lay kl)), (1, .ref (lay kv))] := hl
  have hA : ∀ q, s.heap.size ≤ q → gA lay X s.heap.size q := fun _ h => Or.inr h
  refine lv_aload_n hC.1 hC.2.1 dJx4a65c_add_9ea2d_0 rfl (lv_at hl 0 rfl) ?_
  refine lv_dup hC.1 hC.2.1 dJx4a65c_add_9ea2d_1 rfl ?_
  refine g_getS hC hT.1 G hkl h1 k_AL i_add_L 0 (by decide) (wm 1 rfl) (wm 2 rfl) rfl dJx4a65c_add_9ea2d_2 ?_
  refine lv_iconst (v := 1) hC.1 hC.2.1 dJx4a65c_add_9ea2d_5 (by decide) ?_
  refine lv_iadd hC.1 hC.2.1 dJx4a65c_add_9ea2d_6 ?_
  refine g_putS hC hT.1 G hkl h1 k_AL i_add_L 0 (by decide) (wm 1 rfl) (wm 2 rfl) rfl rfl rfl (by simp) dJx4a65c_add_9ea2d_7 (fun H locs G => ?_)
  have G : gG D lay (gU X kl (some (.inr (4, [.int (mo + 1), .ref (lay ke), .int (nI n)])))) (gA lay X s.heap.size) s.heap H locs := G
  refine lv_aload_n hC.1 hC.2.1 dJx4a65c_add_9ea2d_10 rfl (lv_at hl 0 rfl) ?_
  refine lv_aload_n hC.1 hC.2.1 dJx4a65c_add_9ea2d_11 rfl (lv_at hl 1 rfl) ?_
  refine lv_aload_n hC.1 hC.2.1 dJx4a65c_add_9ea2d_12 rfl (lv_at hl 0 rfl) ?_
  refine g_get hC hT.1 G hkl gU_eq k_AL i_add_L 1 (by decide) (wm 3 rfl) rfl dJx4a65c_add_9ea2d_13 ?_
  refine lv_aload_n hC.1 hC.2.1 dJx4a65c_add_9ea2d_16 rfl (lv_at hl 0 rfl) ?_
  refine g_get hC hT.1 G hkl gU_eq k_AL i_add_L 2 (by decide) (wm 4 rfl) rfl dJx4a65c_add_9ea2d_17 ?_
  refine g_v G hA (k_runV (As := [.ref (lay kv), .ref (lay ke), .int (nI n)]) (rest := []) hC hT hZ hA G (c_ad3_A l D cy lay (gU X kl (some (.inr (4, [.int (mo + 1), .ref (lay ke), .int (nI n)])))) ea mi hkl hke hkv hne hn hcap gU_eq ((gU_ne (Ne.symm hne)).trans h2) ((gU_ne hne3).trans h3) hc hqn _) (cwV 3 hC.2.2.2.2 gJx4a65c_add_9ea2d_Jx4a65c_add_72be8 rfl rfl rfl hdV_ad3 ⟨Nat.le_of_ble_eq_true rfl, Nat.le_of_ble_eq_true rfl⟩) (h_recv hT G hkl gU_eq k_AL) rfl hl.1 rfl (Nat.le_of_ble_eq_true rfl) dJx4a65c_add_9ea2d_20 ⟨Nat.le_of_ble_eq_true rfl, Nat.le_of_ble_eq_true rfl⟩) (fun Y H locs hY G => ?_)
  subst hY
  have G : gG D lay (adX cy X kl ke (mo + 1) (lay ke) cap n f (lay kv)) (gA lay X s.heap.size) s.heap H locs := by
    have e : adX cy (gU X kl (some (.inr (4, [.int (mo + 1), .ref (lay ke), .int (nI n)])))) kl ke (mo + 1) (lay ke) cap n f (lay kv) = adX cy X kl ke (mo + 1) (lay ke) cap n f (lay kv) := by
      unfold adX
      exact gU3
    rw [← e]
    exact G
  refine lv_iconst (v := 1) hC.1 hC.2.1 dJx4a65c_add_9ea2d_23 (by decide) ?_
  exact W.zret (v := 1) hC.1 hC.2.1 hr rfl (fun t ht hW => ⟨⟨1, (lay, adX cy X kl ke (mo + 1) (lay ke) cap n f (lay kv)), rfl, ⟨rfl, rfl⟩, by rw [ht]; exact G.1, G.2.1⟩, G.2.2.F ht⟩) G.2.2.2.2 dJx4a65c_add_9ea2d_24 hlocks
