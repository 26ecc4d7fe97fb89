/-! ===== words: the bytes of a long that aren't 0 ===== -/
def nz (r m : Nat) : List Nat := (be r m).filter (fun c => decide (c ≠ 0))
theorem nz_0 (m : Nat) : nz 0 m = [] := rfl
theorem nz_no {r m : Nat} (h : m / 256 ^ r % 256 = 0) : nz (r + 1) m = nz r m := by
  unfold nz
  rw [be, List.filter_cons, if_neg (by simp [h])]
theorem nz_yes {r m : Nat} (h : m / 256 ^ r % 256 ≠ 0) : nz (r + 1) m = (m / 256 ^ r % 256) :: nz r m := by
  unfold nz
  rw [be, List.filter_cons, if_pos (by simp [h])]
theorem nz_len (r m : Nat) : (nz r m).length ≤ r := by
  have := List.length_filter_le (fun c => decide (c ≠ 0)) (be r m)
  rw [be_len] at this
  exact this
theorem nz_mem {r m c : Nat} (h : c ∈ nz r m) : 0 < c ∧ c < 256 := by
  unfold nz at h
  rw [List.mem_filter] at h
  have := be_lt _ _ _ h.1
  have h2 : c ≠ 0 := by simpa using h.2
  omega
def vb (a : Nat) (l : List Nat) : Nat := l.foldl (fun a c => a * 256 + c) a
theorem vb_cons (a c : Nat) (l : List Nat) : vb a (c :: l) = vb (a * 256 + c) l := rfl
theorem vb_split : ∀ (l : List Nat) (a : Nat), vb a l = a * 256 ^ l.length + vb 0 l
  | [], a => by simp [vb]
  | c :: l, a => by
    rw [vb_cons, vb_cons, vb_split l (a * 256 + c), vb_split l (0 * 256 + c), List.length_cons, Nat.pow_succ, Nat.add_mul, Nat.zero_mul, Nat.zero_add, Nat.mul_assoc, Nat.add_assoc, Nat.mul_comm 256]
theorem vb_lt : ∀ (l : List Nat), (∀ c ∈ l, c < 256) → vb 0 l < 256 ^ l.length
  | [], _ => by simp [vb]
  | c :: l, h => by
    have h1 := vb_lt l (fun x hx => h x (List.mem_cons_of_mem _ hx))
    have h2 := h c List.mem_cons_self
    rw [vb_cons, vb_split, Nat.zero_mul, Nat.zero_add, List.length_cons, Nat.pow_succ, Nat.mul_comm _ 256]
    have : c * 256 ^ l.length + 256 ^ l.length ≤ 256 * 256 ^ l.length := by rw [← Nat.succ_mul]; exact Nat.mul_le_mul_right _ h2
    omega
theorem vb_ge {c : Nat} {l : List Nat} (h : 0 < c) : 256 ^ l.length ≤ vb 0 (c :: l) := by
  rw [vb_cons, vb_split, Nat.zero_mul, Nat.zero_add]
  have : 1 * 256 ^ l.length ≤ c * 256 ^ l.length := Nat.mul_le_mul_right _ h
  omega
theorem be_vb : ∀ (l : List Nat), (∀ c ∈ l, c < 256) → be l.length (vb 0 l) = l
  | [], _ => rfl
  | c :: l, h => by
    have h1 := vb_lt l (fun x hx => h x (List.mem_cons_of_mem _ hx))
    have h2 := h c List.mem_cons_self
    have ih := be_vb l (fun x hx => h x (List.mem_cons_of_mem _ hx))
    have hp : 0 < 256 ^ l.length := Nat.pow_pos (by decide)
    have e : vb 0 (c :: l) = vb 0 l + 256 ^ l.length * c := by rw [vb_cons, vb_split, Nat.zero_mul, Nat.zero_add, Nat.mul_comm, Nat.add_comm]
    rw [List.length_cons, be, e, Nat.add_mul_div_left _ _ hp, Nat.div_eq_of_lt h1, Nat.zero_add, Nat.mod_eq_of_lt h2]
    congr 1
    have : be l.length ((vb 0 l + 256 ^ l.length * c) % 256 ^ l.length) = be l.length (vb 0 l + 256 ^ l.length * c) := be_mod _ _ _ (Nat.le_refl _)
    rw [← this, Nat.add_mul_mod_self_left, Nat.mod_eq_of_lt h1]
    exact ih
theorem p28 (r : Nat) : 2 ^ (8 * r) = 256 ^ r := by rw [Nat.pow_mul]
theorem l_or8 (m : Nat) {c : Nat} (hc : c < 256) : lN m <<< ((nI 8).toInt64 &&& 63) ||| lN c = lN (m * 256 + c) := by
  rw [wb_shl m (k := 8) (by decide), Nat.mul_comm m, fb_or_sumL m (k := 8) hc, Nat.mul_comm]
theorem l_sb (x : Int64) {k : Nat} (hk : k ≤ 56) : (x >>> ((nI k).toInt64 &&& 63)) &&& lN 255 = lN (uN x / 2 ^ k % 256) := by
  have hs : ((lN k).toBitVec.smod 64).toNat = k := by rw [lN_bv, wb_sm k (by omega)]; show k % 2 ^ 64 = k; omega
  rw [wb_c k (by omega)]
  apply Int64.toBitVec_inj.mp
  apply BitVec.eq_of_getLsbD_eq
  intro i hi
  rw [Int64.toBitVec_and, BitVec.getLsbD_and, Int64.toBitVec_shiftRight, lN_bv, lN_bv, lN_bv]
  rw [lN_bv] at hs
  rw [BitVec.sshiftRight_eq', hs, BitVec.getLsbD_sshiftRight, BitVec.getLsbD_ofNat, BitVec.getLsbD_ofNat, show (256 : Nat) = 2 ^ 8 from rfl, Nat.testBit_mod_two_pow, Nat.testBit_div_two_pow, show (255 : Nat) = 2 ^ 8 - 1 from rfl, Nat.testBit_two_pow_sub_one]
  by_cases h8 : i < 8
  · rw [if_pos (by omega)]
    simp [h8, hi, show ¬ 64 ≤ i by omega, uN, Nat.add_comm]
    rfl
  · simp [h8]
theorem l_s8 (x : Int64) {k : Nat} (hk : k ≤ 56) : uN (x >>> ((nI k).toInt64 &&& 63)) % 256 = uN x / 2 ^ k % 256 := by
  have h := l_sb x hk
  have h2 : (x >>> ((nI k).toInt64 &&& 63)) &&& lN 255 = lN (uN (x >>> ((nI k).toInt64 &&& 63)) % 256) := by
    conv => lhs; lhs; rw [← lN_uN (x >>> ((nI k).toInt64 &&& 63))]
    exact fb_maskL _ 8
  have h3 := h2.symm.trans h
  exact (pk_lEQ (by omega) (by omega)).mp h3
theorem li_b (y : Int64) : y.toInt32 &&& nI 255 = nI (uN y % 256) := by
  conv => lhs; rw [← lN_uN y]
  rw [lN_i]
  exact fa_mask _ 8
theorem m1 (r : Nat) : nI r + Int32.ofInt (-1) = nI r - nI 1 := by
  have h : Int32.ofInt (-1) = - nI 1 := by decide
  rw [h, Int32.sub_eq_add_neg]
section WO
variable {d : Nat} {sh : List (Nat × Nat)} {I : Nat → Nat → Int32} {L : Nat → Nat → Int64} {R : Nat → Nat → Option Nat} {Q : am_Q}
theorem c_124 {v : Int64} (hq : Q (some (.long (lN (vb 0 (nz 8 (uN v)))))) (sh, I, L, R)) : am_call (d + 1) 124 [.long v] (sh, I, L, R) Q := by
  have loop : ∀ (r a : Nat) (o : Option Value), r ≤ 8 → vb a (nz r (uN v)) = vb 0 (nz 8 (uN v)) → am_V 124 am_c124 d sh Q 4 [some (.long v), none, some (.long (lN a)), none, some (.int (nI (8 * r) - nI 8)), o, none] [] (sh, I, L, R) := by
    intro r
    induction r with
    | zero =>
      intro a o _ ha
      refine wp_iload (k := 4) rfl rfl ?_
      refine w_z_lt (k := 5) (t' := 24) rfl rfl (fun q => ?_) (fun q => absurd (by decide) q)
      refine wp_lload (k := 24) rfl rfl ?_
      refine w_rl (k := 25) rfl rfl rfl rfl ?_
      rw [show a = vb a (nz 0 (uN v)) from rfl, ha]
      exact hq
    | succ r ih =>
      intro a o hr ha
      have e : nI (8 * (r + 1)) - nI 8 = nI (8 * r) := by rw [pk_sub (by omega)]; congr 1
      have e2 : (v.toUInt64 >>> ((nI (8 * r)).toInt64.toUInt64 &&& Int64.toUInt64 63)).toInt64 &&& lN 255 = lN (uN v / 256 ^ r % 256) := by
        conv => lhs; rw [← lN_uN v]
        rw [wb_shr (uN_lt v) (by omega), p28]
        exact fb_maskL _ 8
      have hb : uN v / 256 ^ r % 256 < 256 := Nat.mod_lt _ (by decide)
      rw [e]
      refine wp_iload (k := 4) rfl rfl ?_
      refine w_m_lt (k := 5) (t' := 24) rfl rfl (by omega) (fun q => absurd q (by omega)) (fun q => ?_)
      refine wp_lload (k := 6) rfl rfl ?_
      refine wp_iload (k := 7) rfl rfl ?_
      refine wp_lushr (k := 8) rfl ?_
      refine w_lc (k := 9) (x := lN 255) rfl (ol_lN 255) ?_
      refine wp_land (k := 10) rfl ?_
      rw [e2]
      refine wp_lstore (k := 11) rfl rfl ?_
      refine wp_lload (k := 12) rfl rfl ?_
      refine w_lc (k := 13) (x := lN 0) rfl (ol_lN 0) ?_
      refine w_L_eq (k := 14) (t' := 22) rfl rfl rfl (fun c1 => ?_) (fun c1 => ?_)
      · have c1 := (pk_lEQ (by omega) (by omega)).mp c1
        refine w_incX (k := 22) rfl rfl (m8 r) ?_
        refine w_goto (k := 23) (t' := 4) rfl rfl ?_
        exact ih a _ (by omega) (by rw [← ha, nz_no c1])
      · have c1 : uN v / 256 ^ r % 256 ≠ 0 := fun q => c1 (by rw [q])
        refine wp_lload (k := 16) rfl rfl ?_
        refine w_ic (k := 17) (x := nI 8) rfl (oi_nI 8) ?_
        refine wp_lshl (k := 18) rfl ?_
        refine wp_lload (k := 19) rfl rfl ?_
        refine wp_lor (k := 20) rfl ?_
        rw [l_or8 a hb]
        refine wp_lstore (k := 21) rfl rfl ?_
        refine w_incX (k := 22) rfl rfl (m8 r) ?_
        refine w_goto (k := 23) (t' := 4) rfl rfl ?_
        exact ih _ _ (by omega) (by rw [← ha, nz_yes c1, vb_cons])
  refine am_enter (ls := [some _, none, none, none, none, none, none]) (cs := am_c124) rfl rfl (Nat.le_of_ble_eq_true rfl) rfl ?_
  refine w_lc (k := 0) (x := lN 0) rfl (ol_lN 0) ?_
  refine wp_lstore (k := 1) rfl rfl ?_
  refine w_ic (k := 2) (x := nI 56) rfl (oi_nI 56) ?_
  refine wp_istore (k := 3) rfl rfl ?_
  exact loop 8 0 none (by omega) rfl
theorem c_198 {v : Int64} (hq : Q (some (.long (lN (vb 0 (nz 8 (uN v)))))) (sh, I, L, R)) : am_call (d + 1) 198 [.long v] (sh, I, L, R) Q := by
  have loop : ∀ (r a : Nat) (o : Option Value), r ≤ 8 → vb a (nz r (uN v)) = vb 0 (nz 8 (uN v)) → am_V 198 am_c198 d sh Q 4 [some (.long v), none, some (.long (lN a)), none, some (.int (nI r - nI 1)), o, none] [] (sh, I, L, R) := by
    intro r
    induction r with
    | zero =>
      intro a o _ ha
      refine wp_iload (k := 4) rfl rfl ?_
      refine w_z_lt (k := 5) (t' := 28) rfl rfl (fun q => ?_) (fun q => absurd (by decide) q)
      refine wp_lload (k := 28) rfl rfl ?_
      refine w_rl (k := 29) rfl rfl rfl rfl ?_
      rw [show a = vb a (nz 0 (uN v)) from rfl, ha]
      exact hq
    | succ r ih =>
      intro a o hr ha
      have e : nI (r + 1) - nI 1 = nI r := by rw [pk_sub (by omega)]; congr 1
      have e2 := l_sb v (k := 8 * r) (by omega)
      rw [p28] at e2
      have hb : uN v / 256 ^ r % 256 < 256 := Nat.mod_lt _ (by decide)
      rw [e]
      refine wp_iload (k := 4) rfl rfl ?_
      refine w_m_lt (k := 5) (t' := 28) rfl rfl (by omega) (fun q => absurd q (by omega)) (fun q => ?_)
      refine wp_lload (k := 6) rfl rfl ?_
      refine w_ic (k := 7) (x := nI 8) rfl (oi_nI 8) ?_
      refine wp_iload (k := 8) rfl rfl ?_
      refine w_mulN (k := 9) rfl ?_
      refine wp_lshr (k := 10) rfl ?_
      refine w_lc (k := 11) (x := lN 255) rfl (ol_lN 255) ?_
      refine wp_land (k := 12) rfl ?_
      rw [e2]
      refine wp_lstore (k := 13) rfl rfl ?_
      refine wp_lload (k := 14) rfl rfl ?_
      refine w_lc (k := 15) (x := lN 0) rfl (ol_lN 0) ?_
      refine w_L_ne (k := 16) (t' := 20) rfl rfl rfl (fun c1 => ?_) (fun c1 => ?_)
      · have c1 : uN v / 256 ^ r % 256 ≠ 0 := fun q => c1 (by rw [q])
        refine wp_lload (k := 20) rfl rfl ?_
        refine w_ic (k := 21) (x := nI 8) rfl (oi_nI 8) ?_
        refine wp_lshl (k := 22) rfl ?_
        refine wp_lload (k := 23) rfl rfl ?_
        refine wp_lor (k := 24) rfl ?_
        rw [l_or8 a hb]
        refine wp_lstore (k := 25) rfl rfl ?_
        refine w_incX (k := 26) rfl rfl (m1 r) ?_
        refine w_goto (k := 27) (t' := 4) rfl rfl ?_
        exact ih _ _ (by omega) (by rw [← ha, nz_yes c1, vb_cons])
      · have c1 := (pk_lEQ (by omega) (by omega)).mp c1
        refine wp_lload (k := 18) rfl rfl ?_
        refine w_goto (k := 19) (t' := 25) rfl rfl ?_
        refine wp_lstore (k := 25) rfl rfl ?_
        refine w_incX (k := 26) rfl rfl (m1 r) ?_
        refine w_goto (k := 27) (t' := 4) rfl rfl ?_
        exact ih a _ (by omega) (by rw [← ha, nz_no c1])
  refine am_enter (ls := [some _, none, none, none, none, none, none]) (cs := am_c198) rfl rfl (Nat.le_of_ble_eq_true rfl) rfl ?_
  refine w_lc (k := 0) (x := lN 0) rfl (ol_lN 0) ?_
  refine wp_lstore (k := 1) rfl rfl ?_
  refine w_ic (k := 2) (x := nI 7) rfl (oi_nI 7) ?_
  refine wp_istore (k := 3) rfl rfl ?_
  exact loop 8 0 none (by omega) rfl
/-- a byte of a word -/
def okc (c : Nat) : Bool := decide (33 ≤ c ∧ c ≤ 126 ∧ c ≠ 58)
def isW (v : Int64) : Bool := (nz 8 (uN v)).all okc && !(nz 8 (uN v)).isEmpty
theorem nz_empty : ∀ (r m : Nat), m < 256 ^ r → nz r m = [] → m = 0
  | 0, m, h, _ => by simpa using h
  | r + 1, m, h, e => by
    by_cases c : m / 256 ^ r % 256 = 0
    · rw [nz_no c] at e
      have hp : 0 < 256 ^ r := Nat.pow_pos (by decide)
      have h2 : m / 256 ^ r < 256 := by
        rw [Nat.div_lt_iff_lt_mul hp, Nat.mul_comm]
        rw [Nat.pow_succ] at h
        exact h
      rw [Nat.mod_eq_of_lt h2] at c
      exact nz_empty r m (by rcases Nat.div_eq_zero_iff.mp c with q | q <;> omega) e
    · rw [nz_yes c] at e
      cases e
theorem c_126 {v : Int64} (hq : Q (some (.int (bI (isW v)))) (sh, I, L, R)) : am_call (d + 1) 126 [.long v] (sh, I, L, R) Q := by
  have loop : ∀ (r : Nat) (o : Option Value), r ≤ 8 → ((nz r (uN v)).all okc = (nz 8 (uN v)).all okc) → am_V 126 am_c126 d sh Q 2 [some (.long v), none, some (.int (nI (8 * r) - nI 8)), o] [] (sh, I, L, R) := by
    intro r
    induction r with
    | zero =>
      intro o _ ha
      have ha : (nz 8 (uN v)).all okc = true := ha.symm
      refine wp_iload (k := 2) rfl rfl ?_
      refine w_z_lt (k := 3) (t' := 26) rfl rfl (fun q => ?_) (fun q => absurd (by decide) q)
      refine wp_lload (k := 26) rfl rfl ?_
      refine w_lc (k := 27) (x := lN 0) rfl (ol_lN 0) ?_
      refine w_L_eq (k := 28) (t' := 32) rfl rfl rfl (fun c1 => ?_) (fun c1 => ?_)
      · refine w_ic (k := 32) (x := bI false) rfl rfl ?_
        refine w_rz (k := 33) rfl rfl rfl ?_
        have e : isW v = false := by
          have : nz 8 (uN v) = [] := by rw [c1]; decide
          simp [isW, this]
        rw [e] at hq
        exact hq
      · refine w_ic (k := 30) (x := bI true) rfl rfl ?_
        refine w_goto (k := 31) (t' := 33) rfl rfl ?_
        refine w_rz (k := 33) rfl rfl rfl ?_
        have e : isW v = true := by
          unfold isW
          rw [ha]
          cases hz : nz 8 (uN v) with
          | nil =>
            have h0 := nz_empty 8 (uN v) (uN_lt v) hz
            exact absurd (uN_inj (y := lN 0) (by rw [h0]; decide)) c1
          | cons a l => rfl
        rw [e] at hq
        exact hq
    | succ r ih =>
      intro o hr ha
      have e : nI (8 * (r + 1)) - nI 8 = nI (8 * r) := by rw [pk_sub (by omega)]; congr 1
      have e2 : (v.toUInt64 >>> ((nI (8 * r)).toInt64.toUInt64 &&& Int64.toUInt64 63)).toInt64.toInt32 &&& nI 255 = nI (uN v / 256 ^ r % 256) := by
        rw [li_b, uN_sk v (by omega), p28]
      have hb : uN v / 256 ^ r % 256 < 256 := Nat.mod_lt _ (by decide)
      have bad : ∀ ls, okc (uN v / 256 ^ r % 256) = false → uN v / 256 ^ r % 256 ≠ 0 → am_V 126 am_c126 d sh Q 22 ls [] (sh, I, L, R) := by
        intro ls hk h0
        have e3 : isW v = false := by
          unfold isW
          rw [← ha, nz_yes h0, List.all_cons, hk]
          rfl
        refine w_ic (k := 22) (x := bI false) rfl rfl ?_
        refine w_rz (k := 23) rfl rfl rfl ?_
        rw [e3] at hq
        exact hq
      rw [e]
      refine wp_iload (k := 2) rfl rfl ?_
      refine w_m_lt (k := 3) (t' := 26) rfl rfl (by omega) (fun q => absurd q (by omega)) (fun q => ?_)
      refine wp_lload (k := 4) rfl rfl ?_
      refine wp_iload (k := 5) rfl rfl ?_
      refine wp_lushr (k := 6) rfl ?_
      refine wp_l2i (k := 7) rfl ?_
      refine w_ic (k := 8) (x := nI 255) rfl (oi_nI 255) ?_
      refine wp_iand (k := 9) rfl ?_
      rw [e2]
      refine wp_istore (k := 10) rfl rfl ?_
      refine wp_iload (k := 11) rfl rfl ?_
      refine w_m_eq (k := 12) (t' := 24) rfl rfl (by omega) (fun c1 => ?_) (fun c1 => ?_)
      · refine w_incX (k := 24) rfl rfl (m8 r) ?_
        refine w_goto (k := 25) (t' := 2) rfl rfl ?_
        exact ih _ (by omega) (by rw [← ha, nz_no c1])
      · refine wp_iload (k := 13) rfl rfl ?_
        refine w_ic (k := 14) (x := nI 33) rfl (oi_nI 33) ?_
        refine w_n_lt (k := 15) (t' := 22) rfl rfl (by omega) (fun c2 => ?_) (fun c2 => ?_)
        · exact bad _ (by simp [okc]; omega) c1
        · refine wp_iload (k := 16) rfl rfl ?_
          refine w_ic (k := 17) (x := nI 126) rfl (oi_nI 126) ?_
          refine w_n_gt (k := 18) (t' := 22) rfl rfl (by omega) (fun c3 => ?_) (fun c3 => ?_)
          · exact bad _ (by simp [okc]; omega) c1
          · refine wp_iload (k := 19) rfl rfl ?_
            refine w_ic (k := 20) (x := nI 58) rfl (oi_nI 58) ?_
            refine w_n_ne (k := 21) (t' := 24) rfl rfl (by omega) (fun c4 => ?_) (fun c4 => ?_)
            · refine w_incX (k := 24) rfl rfl (m8 r) ?_
              refine w_goto (k := 25) (t' := 2) rfl rfl ?_
              exact ih _ (by omega) (by rw [← ha, nz_yes c1, List.all_cons, show okc (uN v / 256 ^ r % 256) = true by simp [okc]; omega]; rfl)
            · exact bad _ (by simp [okc]; omega) c1
  refine am_enter (ls := [some _, none, none, none]) (cs := am_c126) rfl rfl (Nat.le_of_ble_eq_true rfl) rfl ?_
  refine w_ic (k := 0) (x := nI 56) rfl (oi_nI 56) ?_
  refine wp_istore (k := 1) rfl rfl ?_
  exact loop 8 none (by omega) rfl
end WO
