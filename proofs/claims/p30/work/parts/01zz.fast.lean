/-! DECODE ROWS OUT OF A METHOD'S BYTES, IN PIECES -/
/-- a byte of c -/
def zB (c : ByteArray) (p b : Nat) : Prop := ∃ u : UInt8, c.data.toList[p]? = some u ∧ u.toNat = b
def zPre : List Nat → List UInt8 → Bool
  | [], _ => true
  | b :: l, u :: r => (u.toNat == b) && zPre l r
  | _ :: _, [] => false
theorem zPre_ok : ∀ (l : List Nat) (r : List UInt8), zPre l r = true → ∀ (i b : Nat), l[i]? = some b → ∃ u : UInt8, r[i]? = some u ∧ u.toNat = b
  | [], _, _, i, b, h => by rw [List.getElem?_nil] at h; cases h
  | b :: l, u :: r, h, 0, b', h' => by
    unfold zPre at h
    rw [Bool.and_eq_true, beq_iff_eq] at h
    rw [List.getElem?_cons_zero] at h'
    cases h'
    exact ⟨u, rfl, h.1⟩
  | b :: l, u :: r, h, i + 1, b', h' => by
    unfold zPre at h
    rw [Bool.and_eq_true] at h
    rw [List.getElem?_cons_succ] at h' ⊢
    exact zPre_ok l r h.2 i b' h'
/-- the pieces: each of 64 bytes and those just behind it -/
def zTab (r : List UInt8) : List (List Nat) → Bool
  | [] => true
  | ch :: T => zPre ch r && zTab (r.drop 64) T
theorem zTab_ok : ∀ (T : List (List Nat)) (r : List UInt8), zTab r T = true → ∀ (K : Nat) (ch : List Nat), T[K]? = some ch → zPre ch (r.drop (64 * K)) = true
  | [], _, _, K, ch, h => by rw [List.getElem?_nil] at h; cases h
  | a :: T, r, h, 0, ch, h' => by
    unfold zTab at h
    rw [Bool.and_eq_true] at h
    rw [List.getElem?_cons_zero] at h'
    cases h'
    exact h.1
  | a :: T, r, h, K + 1, ch, h' => by
    unfold zTab at h
    rw [Bool.and_eq_true] at h
    rw [List.getElem?_cons_succ] at h'
    have := zTab_ok T _ h.2 K ch h'
    rw [List.drop_drop] at this
    rw [show 64 * (K + 1) = 64 + 64 * K by omega]
    exact this
/-- the bytes at place j of piece K -/
def zAt (T : List (List Nat)) (K j : Nat) : List Nat := match T[K]? with
  | none => []
  | some ch => ch.drop j
theorem zAt_ok {c : ByteArray} {T : List (List Nat)} (E : zTab c.data.toList T = true) {K j i b : Nat} (h : (zAt T K j)[i]? = some b) : zB c (64 * K + j + i) b := by
  unfold zAt at h
  split at h
  · rw [List.getElem?_nil] at h; cases h
  · rename_i ch hc
    rw [List.getElem?_drop] at h
    obtain ⟨u, h1, h2⟩ := zPre_ok _ _ (zTab_ok _ _ E K ch hc) _ _ h
    refine ⟨u, ?_, h2⟩
    rw [List.getElem?_drop] at h1
    rw [← h1]
    congr 1
    omega
theorem zB_u1 {c : ByteArray} {p b : Nat} (h : zB c p b) : (Reader.u1 : Decoder Nat) c p = .ok (b, p + 1) := by
  obtain ⟨u, h1, rfl⟩ := h
  obtain ⟨hp, e⟩ := List.getElem?_eq_some_iff.mp h1
  have hs : p < c.size := hp
  have e2 : c[p] = u := e
  show (if h : p < c.size then (do set (p + 1); pure c[p].toNat : Decoder Nat) else throw (HasTruncated.truncated p)) c p = _
  rw [dif_pos hs, e2]
  rfl
theorem zbind {α β : Type} {r : Decoder α} {c : ByteArray} {p q : Nat} {v : α} (h : r c p = .ok (v, q)) (k : α → Decoder β) : (r >>= k) c p = k v c q := by
  show Except.bind (r c p) (fun x => k x.1 c x.2) = _
  rw [h]
  rfl
theorem zmap {α β : Type} {r : Decoder α} {c : ByteArray} {p q : Nat} {v : α} (h : r c p = .ok (v, q)) (f : α → β) : (f <$> r) c p = .ok (f v, q) := by
  show Except.bind (r c p) (fun x => .ok (f x.1, x.2)) = _
  rw [h]
  rfl
theorem zdec {c : ByteArray} {p n : Nat} {i : Instr} (h : (Decoder.instr p) c p = .ok (i, p + n)) : decode c p = .ok (i, n) := by
  show Except.bind ((Decoder.instr p) c p) (fun x => .ok (x.1, x.2 - p)) = _
  rw [h]
  show Except.ok (i, p + n - p) = _
  rw [Nat.add_sub_cancel_left]
/-! what an instruction of a shape is read from -/
def z0 (c : ByteArray) (p op : Nat) : Prop := zB c p op
def zu1 (c : ByteArray) (p op v : Nat) : Prop := zB c p op ∧ zB c (p + 1) v
def zs1 (c : ByteArray) (p op : Nat) (v : Int) : Prop := zB c p op ∧ ∃ a, zB c (p + 1) a ∧ Reader.signed 8 a = v
def zu2 (c : ByteArray) (p op v : Nat) : Prop := zB c p op ∧ ∃ a b, zB c (p + 1) a ∧ zB c (p + 2) b ∧ a * 256 + b = v
def zs2 (c : ByteArray) (p op : Nat) (v : Int) : Prop := zB c p op ∧ ∃ a b, zB c (p + 1) a ∧ zB c (p + 2) b ∧ Reader.signed 16 (a * 256 + b) = v
def zii (c : ByteArray) (p op n : Nat) (v : Int) : Prop := zB c p op ∧ zB c (p + 1) n ∧ ∃ a, zB c (p + 2) a ∧ Reader.signed 8 a = v
def k0 (l : List Nat) (op : Nat) : Bool := match l with | o :: _ => o == op | _ => false
def ku1 (l : List Nat) (op v : Nat) : Bool := match l with | o :: a :: _ => o == op && a == v | _ => false
def ks1 (l : List Nat) (op : Nat) (v : Int) : Bool := match l with | o :: a :: _ => o == op && decide (Reader.signed 8 a = v) | _ => false
def ku2 (l : List Nat) (op v : Nat) : Bool := match l with | o :: a :: b :: _ => o == op && a * 256 + b == v | _ => false
def ks2 (l : List Nat) (op : Nat) (v : Int) : Bool := match l with | o :: a :: b :: _ => o == op && decide (Reader.signed 16 (a * 256 + b) = v) | _ => false
def kii (l : List Nat) (op n : Nat) (v : Int) : Bool := match l with | o :: a :: b :: _ => o == op && (a == n && decide (Reader.signed 8 b = v)) | _ => false
section FASTZ
variable {c : ByteArray} {T : List (List Nat)} {op n w : Nat} {v : Int}
theorem y0 (E : zTab c.data.toList T = true) (K j : Nat) (h : k0 (zAt T K j) op = true) : z0 c (64 * K + j) op := by
  unfold k0 at h
  split at h
  · rename_i o l e
    rw [beq_iff_eq] at h
    subst h
    exact zAt_ok E (i := 0) (by rw [e]; rfl)
  · cases h
theorem yu1 (E : zTab c.data.toList T = true) (K j : Nat) (h : ku1 (zAt T K j) op w = true) : zu1 c (64 * K + j) op w := by
  unfold ku1 at h
  split at h
  · rename_i o a l e
    rw [Bool.and_eq_true, beq_iff_eq, beq_iff_eq] at h
    obtain ⟨rfl, rfl⟩ := h
    exact ⟨zAt_ok E (i := 0) (by rw [e]; rfl), zAt_ok E (i := 1) (by rw [e]; rfl)⟩
  · cases h
theorem ys1 (E : zTab c.data.toList T = true) (K j : Nat) (h : ks1 (zAt T K j) op v = true) : zs1 c (64 * K + j) op v := by
  unfold ks1 at h
  split at h
  · rename_i o a l e
    rw [Bool.and_eq_true, beq_iff_eq, decide_eq_true_iff] at h
    obtain ⟨rfl, h⟩ := h
    exact ⟨zAt_ok E (i := 0) (by rw [e]; rfl), a, zAt_ok E (i := 1) (by rw [e]; rfl), h⟩
  · cases h
theorem yu2 (E : zTab c.data.toList T = true) (K j : Nat) (h : ku2 (zAt T K j) op w = true) : zu2 c (64 * K + j) op w := by
  unfold ku2 at h
  split at h
  · rename_i o a b l e
    rw [Bool.and_eq_true, beq_iff_eq, beq_iff_eq] at h
    obtain ⟨rfl, h⟩ := h
    exact ⟨zAt_ok E (i := 0) (by rw [e]; rfl), a, b, zAt_ok E (i := 1) (by rw [e]; rfl), zAt_ok E (i := 2) (by rw [e]; rfl), h⟩
  · cases h
theorem ys2 (E : zTab c.data.toList T = true) (K j : Nat) (h : ks2 (zAt T K j) op v = true) : zs2 c (64 * K + j) op v := by
  unfold ks2 at h
  split at h
  · rename_i o a b l e
    rw [Bool.and_eq_true, beq_iff_eq, decide_eq_true_iff] at h
    obtain ⟨rfl, h⟩ := h
    exact ⟨zAt_ok E (i := 0) (by rw [e]; rfl), a, b, zAt_ok E (i := 1) (by rw [e]; rfl), zAt_ok E (i := 2) (by rw [e]; rfl), h⟩
  · cases h
theorem yii (E : zTab c.data.toList T = true) (K j : Nat) (h : kii (zAt T K j) op n v = true) : zii c (64 * K + j) op n v := by
  unfold kii at h
  split at h
  · rename_i o a b l e
    rw [Bool.and_eq_true, beq_iff_eq, Bool.and_eq_true, beq_iff_eq, decide_eq_true_iff] at h
    obtain ⟨rfl, rfl, h⟩ := h
    exact ⟨zAt_ok E (i := 0) (by rw [e]; rfl), zAt_ok E (i := 1) (by rw [e]; rfl), b, zAt_ok E (i := 2) (by rw [e]; rfl), h⟩
  · cases h
theorem z_u2 {p a b : Nat} (h1 : zB c p a) (h2 : zB c (p + 1) b) : (Reader.u2 : Decoder Nat) c p = .ok (a * 256 + b, p + 2) := (zbind (zB_u1 h1) _).trans (zbind (zB_u1 h2) _)
theorem z_s1 {p a : Nat} (h1 : zB c p a) : (Reader.s1 : Decoder Int) c p = .ok (Reader.signed 8 a, p + 1) := zmap (zB_u1 h1) _
theorem z_s2 {p a b : Nat} (h1 : zB c p a) (h2 : zB c (p + 1) b) : (Reader.s2 : Decoder Int) c p = .ok (Reader.signed 16 (a * 256 + b), p + 2) := zmap (z_u2 h1 h2) _
/-! instruction by instruction -/
theorem dz_aaload {p : Nat} (h : z0 c p 50) : decode c p = .ok (.aaload, 1) := zdec ((zbind (zB_u1 h) _).trans rfl)
theorem dz_aastore {p : Nat} (h : z0 c p 83) : decode c p = .ok (.aastore, 1) := zdec ((zbind (zB_u1 h) _).trans rfl)
theorem dz_aload {p : Nat} (h : zu1 c p 25 w) : decode c p = .ok (.aload w, 2) := zdec ((zbind (zB_u1 h.1) _).trans (zbind (zB_u1 h.2) _))
theorem dz_aload_n_0 {p : Nat} (h : z0 c p 42) : decode c p = .ok (.aload_n 0, 1) := zdec ((zbind (zB_u1 h) _).trans rfl)
theorem dz_aload_n_1 {p : Nat} (h : z0 c p 43) : decode c p = .ok (.aload_n 1, 1) := zdec ((zbind (zB_u1 h) _).trans rfl)
theorem dz_aload_n_2 {p : Nat} (h : z0 c p 44) : decode c p = .ok (.aload_n 2, 1) := zdec ((zbind (zB_u1 h) _).trans rfl)
theorem dz_aload_n_3 {p : Nat} (h : z0 c p 45) : decode c p = .ok (.aload_n 3, 1) := zdec ((zbind (zB_u1 h) _).trans rfl)
theorem dz_anewarray {p : Nat} (h : zu2 c p 189 w) : decode c p = .ok (.anewarray w, 3) := by
  obtain ⟨h0, a, b, h1, h2, rfl⟩ := h
  exact zdec ((zbind (zB_u1 h0) _).trans (zbind (z_u2 h1 h2) _))
theorem dz_areturn {p : Nat} (h : z0 c p 176) : decode c p = .ok (.areturn, 1) := zdec ((zbind (zB_u1 h) _).trans rfl)
theorem dz_arraylength {p : Nat} (h : z0 c p 190) : decode c p = .ok (.arraylength, 1) := zdec ((zbind (zB_u1 h) _).trans rfl)
theorem dz_astore {p : Nat} (h : zu1 c p 58 w) : decode c p = .ok (.astore w, 2) := zdec ((zbind (zB_u1 h.1) _).trans (zbind (zB_u1 h.2) _))
theorem dz_astore_n_1 {p : Nat} (h : z0 c p 76) : decode c p = .ok (.astore_n 1, 1) := zdec ((zbind (zB_u1 h) _).trans rfl)
theorem dz_astore_n_2 {p : Nat} (h : z0 c p 77) : decode c p = .ok (.astore_n 2, 1) := zdec ((zbind (zB_u1 h) _).trans rfl)
theorem dz_astore_n_3 {p : Nat} (h : z0 c p 78) : decode c p = .ok (.astore_n 3, 1) := zdec ((zbind (zB_u1 h) _).trans rfl)
theorem dz_athrow {p : Nat} (h : z0 c p 191) : decode c p = .ok (.athrow, 1) := zdec ((zbind (zB_u1 h) _).trans rfl)
theorem dz_baload {p : Nat} (h : z0 c p 51) : decode c p = .ok (.baload, 1) := zdec ((zbind (zB_u1 h) _).trans rfl)
theorem dz_bastore {p : Nat} (h : z0 c p 84) : decode c p = .ok (.bastore, 1) := zdec ((zbind (zB_u1 h) _).trans rfl)
theorem dz_bipush {p : Nat} (h : zs1 c p 16 v) : decode c p = .ok (.bipush v, 2) := by
  obtain ⟨h0, a, h1, rfl⟩ := h
  exact zdec ((zbind (zB_u1 h0) _).trans (zbind (z_s1 h1) _))
theorem dz_checkcast {p : Nat} (h : zu2 c p 192 w) : decode c p = .ok (.checkcast w, 3) := by
  obtain ⟨h0, a, b, h1, h2, rfl⟩ := h
  exact zdec ((zbind (zB_u1 h0) _).trans (zbind (z_u2 h1 h2) _))
theorem dz_dup {p : Nat} (h : z0 c p 89) : decode c p = .ok (.dup, 1) := zdec ((zbind (zB_u1 h) _).trans rfl)
theorem dz_dup2 {p : Nat} (h : z0 c p 92) : decode c p = .ok (.dup2, 1) := zdec ((zbind (zB_u1 h) _).trans rfl)
theorem dz_dup_x1 {p : Nat} (h : z0 c p 90) : decode c p = .ok (.dup_x1, 1) := zdec ((zbind (zB_u1 h) _).trans rfl)
theorem dz_getfield {p : Nat} (h : zu2 c p 180 w) : decode c p = .ok (.getfield w, 3) := by
  obtain ⟨h0, a, b, h1, h2, rfl⟩ := h
  exact zdec ((zbind (zB_u1 h0) _).trans (zbind (z_u2 h1 h2) _))
theorem dz_getstatic {p : Nat} (h : zu2 c p 178 w) : decode c p = .ok (.getstatic w, 3) := by
  obtain ⟨h0, a, b, h1, h2, rfl⟩ := h
  exact zdec ((zbind (zB_u1 h0) _).trans (zbind (z_u2 h1 h2) _))
theorem dz_goto {p : Nat} (h : zs2 c p 167 v) : decode c p = .ok (.goto v, 3) := by
  obtain ⟨h0, a, b, h1, h2, rfl⟩ := h
  exact zdec ((zbind (zB_u1 h0) _).trans (zbind (z_s2 h1 h2) _))
theorem dz_i2b {p : Nat} (h : z0 c p 145) : decode c p = .ok (.i2b, 1) := zdec ((zbind (zB_u1 h) _).trans rfl)
theorem dz_i2c {p : Nat} (h : z0 c p 146) : decode c p = .ok (.i2c, 1) := zdec ((zbind (zB_u1 h) _).trans rfl)
theorem dz_i2l {p : Nat} (h : z0 c p 133) : decode c p = .ok (.i2l, 1) := zdec ((zbind (zB_u1 h) _).trans rfl)
theorem dz_iadd {p : Nat} (h : z0 c p 96) : decode c p = .ok (.iadd, 1) := zdec ((zbind (zB_u1 h) _).trans rfl)
theorem dz_iaload {p : Nat} (h : z0 c p 46) : decode c p = .ok (.iaload, 1) := zdec ((zbind (zB_u1 h) _).trans rfl)
theorem dz_iand {p : Nat} (h : z0 c p 126) : decode c p = .ok (.iand, 1) := zdec ((zbind (zB_u1 h) _).trans rfl)
theorem dz_iastore {p : Nat} (h : z0 c p 79) : decode c p = .ok (.iastore, 1) := zdec ((zbind (zB_u1 h) _).trans rfl)
theorem dz_iconst_m1 {p : Nat} (h : z0 c p 2) : decode c p = .ok (.iconst (-1), 1) := zdec ((zbind (zB_u1 h) _).trans rfl)
theorem dz_iconst_0 {p : Nat} (h : z0 c p 3) : decode c p = .ok (.iconst 0, 1) := zdec ((zbind (zB_u1 h) _).trans rfl)
theorem dz_iconst_1 {p : Nat} (h : z0 c p 4) : decode c p = .ok (.iconst 1, 1) := zdec ((zbind (zB_u1 h) _).trans rfl)
theorem dz_iconst_2 {p : Nat} (h : z0 c p 5) : decode c p = .ok (.iconst 2, 1) := zdec ((zbind (zB_u1 h) _).trans rfl)
theorem dz_iconst_3 {p : Nat} (h : z0 c p 6) : decode c p = .ok (.iconst 3, 1) := zdec ((zbind (zB_u1 h) _).trans rfl)
theorem dz_iconst_4 {p : Nat} (h : z0 c p 7) : decode c p = .ok (.iconst 4, 1) := zdec ((zbind (zB_u1 h) _).trans rfl)
theorem dz_iconst_5 {p : Nat} (h : z0 c p 8) : decode c p = .ok (.iconst 5, 1) := zdec ((zbind (zB_u1 h) _).trans rfl)
theorem dz_idiv {p : Nat} (h : z0 c p 108) : decode c p = .ok (.idiv, 1) := zdec ((zbind (zB_u1 h) _).trans rfl)
theorem dz_ifCond_eq {p : Nat} (h : zs2 c p 153 v) : decode c p = .ok (.ifCond .eq v, 3) := by
  obtain ⟨h0, a, b, h1, h2, rfl⟩ := h
  exact zdec ((zbind (zB_u1 h0) _).trans (zbind (z_s2 h1 h2) _))
theorem dz_ifCond_ge {p : Nat} (h : zs2 c p 156 v) : decode c p = .ok (.ifCond .ge v, 3) := by
  obtain ⟨h0, a, b, h1, h2, rfl⟩ := h
  exact zdec ((zbind (zB_u1 h0) _).trans (zbind (z_s2 h1 h2) _))
theorem dz_ifCond_gt {p : Nat} (h : zs2 c p 157 v) : decode c p = .ok (.ifCond .gt v, 3) := by
  obtain ⟨h0, a, b, h1, h2, rfl⟩ := h
  exact zdec ((zbind (zB_u1 h0) _).trans (zbind (z_s2 h1 h2) _))
theorem dz_ifCond_le {p : Nat} (h : zs2 c p 158 v) : decode c p = .ok (.ifCond .le v, 3) := by
  obtain ⟨h0, a, b, h1, h2, rfl⟩ := h
  exact zdec ((zbind (zB_u1 h0) _).trans (zbind (z_s2 h1 h2) _))
theorem dz_ifCond_lt {p : Nat} (h : zs2 c p 155 v) : decode c p = .ok (.ifCond .lt v, 3) := by
  obtain ⟨h0, a, b, h1, h2, rfl⟩ := h
  exact zdec ((zbind (zB_u1 h0) _).trans (zbind (z_s2 h1 h2) _))
theorem dz_ifCond_ne {p : Nat} (h : zs2 c p 154 v) : decode c p = .ok (.ifCond .ne v, 3) := by
  obtain ⟨h0, a, b, h1, h2, rfl⟩ := h
  exact zdec ((zbind (zB_u1 h0) _).trans (zbind (z_s2 h1 h2) _))
theorem dz_if_acmp_eq {p : Nat} (h : zs2 c p 165 v) : decode c p = .ok (.if_acmp .eq v, 3) := by
  obtain ⟨h0, a, b, h1, h2, rfl⟩ := h
  exact zdec ((zbind (zB_u1 h0) _).trans (zbind (z_s2 h1 h2) _))
theorem dz_if_acmp_ne {p : Nat} (h : zs2 c p 166 v) : decode c p = .ok (.if_acmp .ne v, 3) := by
  obtain ⟨h0, a, b, h1, h2, rfl⟩ := h
  exact zdec ((zbind (zB_u1 h0) _).trans (zbind (z_s2 h1 h2) _))
theorem dz_if_icmp_eq {p : Nat} (h : zs2 c p 159 v) : decode c p = .ok (.if_icmp .eq v, 3) := by
  obtain ⟨h0, a, b, h1, h2, rfl⟩ := h
  exact zdec ((zbind (zB_u1 h0) _).trans (zbind (z_s2 h1 h2) _))
theorem dz_if_icmp_ge {p : Nat} (h : zs2 c p 162 v) : decode c p = .ok (.if_icmp .ge v, 3) := by
  obtain ⟨h0, a, b, h1, h2, rfl⟩ := h
  exact zdec ((zbind (zB_u1 h0) _).trans (zbind (z_s2 h1 h2) _))
theorem dz_if_icmp_gt {p : Nat} (h : zs2 c p 163 v) : decode c p = .ok (.if_icmp .gt v, 3) := by
  obtain ⟨h0, a, b, h1, h2, rfl⟩ := h
  exact zdec ((zbind (zB_u1 h0) _).trans (zbind (z_s2 h1 h2) _))
theorem dz_if_icmp_le {p : Nat} (h : zs2 c p 164 v) : decode c p = .ok (.if_icmp .le v, 3) := by
  obtain ⟨h0, a, b, h1, h2, rfl⟩ := h
  exact zdec ((zbind (zB_u1 h0) _).trans (zbind (z_s2 h1 h2) _))
theorem dz_if_icmp_lt {p : Nat} (h : zs2 c p 161 v) : decode c p = .ok (.if_icmp .lt v, 3) := by
  obtain ⟨h0, a, b, h1, h2, rfl⟩ := h
  exact zdec ((zbind (zB_u1 h0) _).trans (zbind (z_s2 h1 h2) _))
theorem dz_if_icmp_ne {p : Nat} (h : zs2 c p 160 v) : decode c p = .ok (.if_icmp .ne v, 3) := by
  obtain ⟨h0, a, b, h1, h2, rfl⟩ := h
  exact zdec ((zbind (zB_u1 h0) _).trans (zbind (z_s2 h1 h2) _))
theorem dz_ifnonnull {p : Nat} (h : zs2 c p 199 v) : decode c p = .ok (.ifnonnull v, 3) := by
  obtain ⟨h0, a, b, h1, h2, rfl⟩ := h
  exact zdec ((zbind (zB_u1 h0) _).trans (zbind (z_s2 h1 h2) _))
theorem dz_iinc {p : Nat} (h : zii c p 132 w v) : decode c p = .ok (.iinc w v, 3) := by
  obtain ⟨h0, h1, a, h2, rfl⟩ := h
  exact zdec ((zbind (zB_u1 h0) _).trans ((zbind (zB_u1 h1) _).trans (zbind (z_s1 h2) _)))
theorem dz_iload {p : Nat} (h : zu1 c p 21 w) : decode c p = .ok (.iload w, 2) := zdec ((zbind (zB_u1 h.1) _).trans (zbind (zB_u1 h.2) _))
theorem dz_iload_n_0 {p : Nat} (h : z0 c p 26) : decode c p = .ok (.iload_n 0, 1) := zdec ((zbind (zB_u1 h) _).trans rfl)
theorem dz_iload_n_1 {p : Nat} (h : z0 c p 27) : decode c p = .ok (.iload_n 1, 1) := zdec ((zbind (zB_u1 h) _).trans rfl)
theorem dz_iload_n_2 {p : Nat} (h : z0 c p 28) : decode c p = .ok (.iload_n 2, 1) := zdec ((zbind (zB_u1 h) _).trans rfl)
theorem dz_iload_n_3 {p : Nat} (h : z0 c p 29) : decode c p = .ok (.iload_n 3, 1) := zdec ((zbind (zB_u1 h) _).trans rfl)
theorem dz_imul {p : Nat} (h : z0 c p 104) : decode c p = .ok (.imul, 1) := zdec ((zbind (zB_u1 h) _).trans rfl)
theorem dz_ineg {p : Nat} (h : z0 c p 116) : decode c p = .ok (.ineg, 1) := zdec ((zbind (zB_u1 h) _).trans rfl)
theorem dz_invokespecial {p : Nat} (h : zu2 c p 183 w) : decode c p = .ok (.invokespecial w, 3) := by
  obtain ⟨h0, a, b, h1, h2, rfl⟩ := h
  exact zdec ((zbind (zB_u1 h0) _).trans (zbind (z_u2 h1 h2) _))
theorem dz_invokestatic {p : Nat} (h : zu2 c p 184 w) : decode c p = .ok (.invokestatic w, 3) := by
  obtain ⟨h0, a, b, h1, h2, rfl⟩ := h
  exact zdec ((zbind (zB_u1 h0) _).trans (zbind (z_u2 h1 h2) _))
theorem dz_invokevirtual {p : Nat} (h : zu2 c p 182 w) : decode c p = .ok (.invokevirtual w, 3) := by
  obtain ⟨h0, a, b, h1, h2, rfl⟩ := h
  exact zdec ((zbind (zB_u1 h0) _).trans (zbind (z_u2 h1 h2) _))
theorem dz_ior {p : Nat} (h : z0 c p 128) : decode c p = .ok (.ior, 1) := zdec ((zbind (zB_u1 h) _).trans rfl)
theorem dz_irem {p : Nat} (h : z0 c p 112) : decode c p = .ok (.irem, 1) := zdec ((zbind (zB_u1 h) _).trans rfl)
theorem dz_ireturn {p : Nat} (h : z0 c p 172) : decode c p = .ok (.ireturn, 1) := zdec ((zbind (zB_u1 h) _).trans rfl)
theorem dz_ishl {p : Nat} (h : z0 c p 120) : decode c p = .ok (.ishl, 1) := zdec ((zbind (zB_u1 h) _).trans rfl)
theorem dz_ishr {p : Nat} (h : z0 c p 122) : decode c p = .ok (.ishr, 1) := zdec ((zbind (zB_u1 h) _).trans rfl)
theorem dz_istore {p : Nat} (h : zu1 c p 54 w) : decode c p = .ok (.istore w, 2) := zdec ((zbind (zB_u1 h.1) _).trans (zbind (zB_u1 h.2) _))
theorem dz_istore_n_0 {p : Nat} (h : z0 c p 59) : decode c p = .ok (.istore_n 0, 1) := zdec ((zbind (zB_u1 h) _).trans rfl)
theorem dz_istore_n_1 {p : Nat} (h : z0 c p 60) : decode c p = .ok (.istore_n 1, 1) := zdec ((zbind (zB_u1 h) _).trans rfl)
theorem dz_istore_n_2 {p : Nat} (h : z0 c p 61) : decode c p = .ok (.istore_n 2, 1) := zdec ((zbind (zB_u1 h) _).trans rfl)
theorem dz_istore_n_3 {p : Nat} (h : z0 c p 62) : decode c p = .ok (.istore_n 3, 1) := zdec ((zbind (zB_u1 h) _).trans rfl)
theorem dz_isub {p : Nat} (h : z0 c p 100) : decode c p = .ok (.isub, 1) := zdec ((zbind (zB_u1 h) _).trans rfl)
theorem dz_iushr {p : Nat} (h : z0 c p 124) : decode c p = .ok (.iushr, 1) := zdec ((zbind (zB_u1 h) _).trans rfl)
theorem dz_ixor {p : Nat} (h : z0 c p 130) : decode c p = .ok (.ixor, 1) := zdec ((zbind (zB_u1 h) _).trans rfl)
theorem dz_ladd {p : Nat} (h : z0 c p 97) : decode c p = .ok (.ladd, 1) := zdec ((zbind (zB_u1 h) _).trans rfl)
theorem dz_lcmp {p : Nat} (h : z0 c p 148) : decode c p = .ok (.lcmp, 1) := zdec ((zbind (zB_u1 h) _).trans rfl)
theorem dz_lconst_0 {p : Nat} (h : z0 c p 9) : decode c p = .ok (.lconst 0, 1) := zdec ((zbind (zB_u1 h) _).trans rfl)
theorem dz_lconst_1 {p : Nat} (h : z0 c p 10) : decode c p = .ok (.lconst 1, 1) := zdec ((zbind (zB_u1 h) _).trans rfl)
theorem dz_ldc {p : Nat} (h : zu1 c p 18 w) : decode c p = .ok (.ldc w, 2) := zdec ((zbind (zB_u1 h.1) _).trans (zbind (zB_u1 h.2) _))
theorem dz_ldc2_w {p : Nat} (h : zu2 c p 20 w) : decode c p = .ok (.ldc2_w w, 3) := by
  obtain ⟨h0, a, b, h1, h2, rfl⟩ := h
  exact zdec ((zbind (zB_u1 h0) _).trans (zbind (z_u2 h1 h2) _))
theorem dz_ldc_w {p : Nat} (h : zu2 c p 19 w) : decode c p = .ok (.ldc_w w, 3) := by
  obtain ⟨h0, a, b, h1, h2, rfl⟩ := h
  exact zdec ((zbind (zB_u1 h0) _).trans (zbind (z_u2 h1 h2) _))
theorem dz_lload {p : Nat} (h : zu1 c p 22 w) : decode c p = .ok (.lload w, 2) := zdec ((zbind (zB_u1 h.1) _).trans (zbind (zB_u1 h.2) _))
theorem dz_lload_n_1 {p : Nat} (h : z0 c p 31) : decode c p = .ok (.lload_n 1, 1) := zdec ((zbind (zB_u1 h) _).trans rfl)
theorem dz_lmul {p : Nat} (h : z0 c p 105) : decode c p = .ok (.lmul, 1) := zdec ((zbind (zB_u1 h) _).trans rfl)
theorem dz_lreturn {p : Nat} (h : z0 c p 173) : decode c p = .ok (.lreturn, 1) := zdec ((zbind (zB_u1 h) _).trans rfl)
theorem dz_lstore {p : Nat} (h : zu1 c p 55 w) : decode c p = .ok (.lstore w, 2) := zdec ((zbind (zB_u1 h.1) _).trans (zbind (zB_u1 h.2) _))
theorem dz_lstore_n_1 {p : Nat} (h : z0 c p 64) : decode c p = .ok (.lstore_n 1, 1) := zdec ((zbind (zB_u1 h) _).trans rfl)
theorem dz_new {p : Nat} (h : zu2 c p 187 w) : decode c p = .ok (.new w, 3) := by
  obtain ⟨h0, a, b, h1, h2, rfl⟩ := h
  exact zdec ((zbind (zB_u1 h0) _).trans (zbind (z_u2 h1 h2) _))
theorem dz_pop {p : Nat} (h : z0 c p 87) : decode c p = .ok (.pop, 1) := zdec ((zbind (zB_u1 h) _).trans rfl)
theorem dz_putfield {p : Nat} (h : zu2 c p 181 w) : decode c p = .ok (.putfield w, 3) := by
  obtain ⟨h0, a, b, h1, h2, rfl⟩ := h
  exact zdec ((zbind (zB_u1 h0) _).trans (zbind (z_u2 h1 h2) _))
theorem dz_return {p : Nat} (h : z0 c p 177) : decode c p = .ok (.return_, 1) := zdec ((zbind (zB_u1 h) _).trans rfl)
theorem dz_sipush {p : Nat} (h : zs2 c p 17 v) : decode c p = .ok (.sipush v, 3) := by
  obtain ⟨h0, a, b, h1, h2, rfl⟩ := h
  exact zdec ((zbind (zB_u1 h0) _).trans (zbind (z_s2 h1 h2) _))
end FASTZ
/-! words of a caller: good once for all, then found by their places -/
theorem gi_r {big : List Cond} (g : big.all goodWord = true) (ws : List Cond) (ps : List Nat) (hp : ws = ps.filterMap (fun i => big[i]?)) : GoodIn big ws := fun w hw => by
  rw [hp] at hw
  obtain ⟨q, -, hq⟩ := List.mem_filterMap.mp hw
  have hm := List.mem_of_getElem? hq
  exact ⟨hm, good_of_word (List.all_eq_true.mp g w hm)⟩
theorem gi_sub {big ws : List Cond} (g : big.all goodWord = true) (hm : ∀ w ∈ ws, w ∈ big) : GoodIn big ws := fun w hw => ⟨hm w hw, good_of_word (List.all_eq_true.mp g w (hm w hw))⟩
