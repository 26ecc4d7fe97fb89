/-! ===== leading zeros; the reference's letters ===== -/
section NL
variable {d : Nat} {sh : List (Nat × Nat)} {I : Nat → Nat → Int32} {L : Nat → Nat → Int64} {R : Nat → Nat → Option Nat} {Q : am_Q}
theorem c_265 {m : Nat} (hm : m < 2 ^ 32) (hq : ∀ b, b ≤ 32 → m < 2 ^ b → (b = 0 ∨ 2 ^ (b - 1) ≤ m) → Q (some (.int (nI (32 - b)))) (sh, I, L, R)) : am_call (d + 1) 265 [.int (nI m)] (sh, I, L, R) Q := by
  have hus : ∀ (a k : Nat), a < 2 ^ 32 → k < 32 → ((nI a).toUInt32 >>> ((nI k).toUInt32 &&& Int32.toUInt32 31)).toInt32 = nI (a / 2 ^ k) := fun a k ha hk => pk_ushrN ha _ k (s_u k hk)
  have fin : ∀ (acc y : Nat), acc ≤ 30 → y < 4 → 1 ≤ y → y = m / 2 ^ acc → am_V 265 am_c265 d sh Q 42 [some (.int (nI y)), some (.int (nI (31 - acc)))] [] (sh, I, L, R) := by
    intro acc y h1 h2 h3 h4
    refine wp_iload (k := 42) rfl rfl ?_
    refine wp_iload (k := 43) rfl rfl ?_
    refine w_ic (k := 44) (x := nI 1) rfl (oi_nI 1) ?_
    refine wp_iushr (k := 45) rfl ?_
    rw [hus y 1 (by omega) (by decide)]
    have hp : 0 < 2 ^ acc := Nat.pow_pos (by decide)
    have hlo := Nat.div_mul_le_self m (2 ^ acc)
    have hhi := Nat.lt_div_mul_add (a := m) hp
    rw [← h4] at hlo hhi
    refine wp_isub (k := 46) rfl ?_
    rw [pk_sub (by omega)]
    refine w_ri (k := 47) rfl rfl rfl rfl ?_
    by_cases hy : y = 1
    · have := hq (acc + 1) (by omega) (by rw [Nat.pow_succ]; rw [hy] at hhi; omega) (Or.inr (by rw [hy] at hlo; simpa using hlo))
      rw [show 31 - acc - y / 2 ^ 1 = 32 - (acc + 1) by omega]
      exact this
    · have := hq (acc + 2) (by omega) (by
        rw [Nat.pow_add]
        have : y * 2 ^ acc + 2 ^ acc ≤ 4 * 2 ^ acc := by rw [← Nat.succ_mul]; exact Nat.mul_le_mul_right _ h2
        omega) (Or.inr (by
        rw [show acc + 2 - 1 = acc + 1 by omega, Nat.pow_succ]
        have : 2 * 2 ^ acc ≤ y * 2 ^ acc := Nat.mul_le_mul_right _ (by omega)
        omega))
      rw [show 31 - acc - y / 2 ^ 1 = 32 - (acc + 2) by omega]
      exact this
  have s2 : ∀ (acc y : Nat), acc ≤ 28 → y < 16 → 1 ≤ y → y = m / 2 ^ acc → am_V 265 am_c265 d sh Q 34 [some (.int (nI y)), some (.int (nI (31 - acc)))] [] (sh, I, L, R) := by
    intro acc y h1 h2 h3 h4
    refine wp_iload (k := 34) rfl rfl ?_
    refine w_ic (k := 35) (x := nI 4) rfl (oi_nI 4) ?_
    refine w_n_lt (k := 36) (t' := 42) rfl rfl (by omega) (fun c1 => ?_) (fun c1 => ?_)
    · exact fin acc y (by omega) c1 h3 h4
    · refine w_incX (k := 37) rfl rfl (show nI (31 - acc) + Int32.ofInt (-2) = nI (31 - (acc + 2)) from by rw [show Int32.ofInt (-2) = - nI 2 by decide, ← Int32.sub_eq_add_neg, pk_sub (by omega)]; congr 1) ?_
      refine wp_iload (k := 38) rfl rfl ?_
      refine w_ic (k := 39) (x := nI 2) rfl (oi_nI 2) ?_
      refine wp_iushr (k := 40) rfl ?_
      rw [hus y 2 (by omega) (by decide)]
      refine wp_istore (k := 41) rfl rfl ?_
      exact fin (acc + 2) (y / 2 ^ 2) (by omega) (by omega) (by omega) (by rw [h4, Nat.div_div_eq_div_mul, ← Nat.pow_add])
  have s4 : ∀ (acc y : Nat), acc ≤ 24 → y < 256 → 1 ≤ y → y = m / 2 ^ acc → am_V 265 am_c265 d sh Q 26 [some (.int (nI y)), some (.int (nI (31 - acc)))] [] (sh, I, L, R) := by
    intro acc y h1 h2 h3 h4
    refine wp_iload (k := 26) rfl rfl ?_
    refine w_ic (k := 27) (x := nI 16) rfl (oi_nI 16) ?_
    refine w_n_lt (k := 28) (t' := 34) rfl rfl (by omega) (fun c1 => ?_) (fun c1 => ?_)
    · exact s2 acc y (by omega) c1 h3 h4
    · refine w_incX (k := 29) rfl rfl (show nI (31 - acc) + Int32.ofInt (-4) = nI (31 - (acc + 4)) from by rw [show Int32.ofInt (-4) = - nI 4 by decide, ← Int32.sub_eq_add_neg, pk_sub (by omega)]; congr 1) ?_
      refine wp_iload (k := 30) rfl rfl ?_
      refine w_ic (k := 31) (x := nI 4) rfl (oi_nI 4) ?_
      refine wp_iushr (k := 32) rfl ?_
      rw [hus y 4 (by omega) (by decide)]
      refine wp_istore (k := 33) rfl rfl ?_
      exact s2 (acc + 4) (y / 2 ^ 4) (by omega) (by omega) (by omega) (by rw [h4, Nat.div_div_eq_div_mul, ← Nat.pow_add])
  have s8 : ∀ (acc y : Nat), acc ≤ 16 → y < 65536 → 1 ≤ y → y = m / 2 ^ acc → am_V 265 am_c265 d sh Q 18 [some (.int (nI y)), some (.int (nI (31 - acc)))] [] (sh, I, L, R) := by
    intro acc y h1 h2 h3 h4
    refine wp_iload (k := 18) rfl rfl ?_
    refine w_ic (k := 19) (x := nI 256) rfl (oi_nI 256) ?_
    refine w_n_lt (k := 20) (t' := 26) rfl rfl (by omega) (fun c1 => ?_) (fun c1 => ?_)
    · exact s4 acc y (by omega) c1 h3 h4
    · refine w_incX (k := 21) rfl rfl (show nI (31 - acc) + Int32.ofInt (-8) = nI (31 - (acc + 8)) from by rw [show Int32.ofInt (-8) = - nI 8 by decide, ← Int32.sub_eq_add_neg, pk_sub (by omega)]; congr 1) ?_
      refine wp_iload (k := 22) rfl rfl ?_
      refine w_ic (k := 23) (x := nI 8) rfl (oi_nI 8) ?_
      refine wp_iushr (k := 24) rfl ?_
      rw [hus y 8 (by omega) (by decide)]
      refine wp_istore (k := 25) rfl rfl ?_
      exact s4 (acc + 8) (y / 2 ^ 8) (by omega) (by omega) (by omega) (by rw [h4, Nat.div_div_eq_div_mul, ← Nat.pow_add])
  refine am_enter (ls := [some _, none]) (cs := am_c265) rfl rfl (Nat.le_of_ble_eq_true rfl) rfl ?_
  by_cases hb : m < 2 ^ 31
  · refine wp_iload (k := 0) rfl rfl ?_
    refine w_m_gt (k := 1) (t' := 8) rfl rfl (by omega) (fun c1 => ?_) (fun c1 => ?_)
    · refine w_ic (k := 8) (x := nI 31) rfl (oi_nI 31) ?_
      refine wp_istore (k := 9) rfl rfl ?_
      refine wp_iload (k := 10) rfl rfl ?_
      refine w_ic (k := 11) (x := nI 65536) rfl (oi_nI 65536) ?_
      refine w_n_lt (k := 12) (t' := 18) rfl rfl (by omega) (fun c2 => ?_) (fun c2 => ?_)
      · exact s8 0 m (by decide) c2 c1 (by simp)
      · refine w_incX (k := 13) rfl rfl (show nI 31 + Int32.ofInt (-16) = nI (31 - 16) from by decide) ?_
        refine wp_iload (k := 14) rfl rfl ?_
        refine w_ic (k := 15) (x := nI 16) rfl (oi_nI 16) ?_
        refine wp_iushr (k := 16) rfl ?_
        rw [hus m 16 hm (by decide)]
        refine wp_istore (k := 17) rfl rfl ?_
        exact s8 16 (m / 2 ^ 16) (by decide) (by omega) (by omega) rfl
    · refine wp_iload (k := 2) rfl rfl ?_
      refine w_m_ne (k := 3) (t' := 6) rfl rfl (by omega) (fun q => absurd q (by omega)) (fun q => ?_)
      refine w_ic (k := 4) (x := nI 32) rfl (oi_nI 32) ?_
      refine w_goto (k := 5) (t' := 7) rfl rfl ?_
      refine w_ri (k := 7) rfl rfl rfl rfl ?_
      exact hq 0 (by decide) (by omega) (Or.inl rfl)
  · have hneg : nI m < 0 := by
      rw [Int32.lt_iff_toInt_lt]
      show (BitVec.ofNat 32 m).toInt < 0
      have h2 : (BitVec.ofNat 32 m).toNat = m := by show m % 2 ^ 32 = m; omega
      rw [BitVec.toInt_eq_toNat_cond, h2, if_neg (by omega)]
      omega
    refine wp_iload (k := 0) rfl rfl ?_
    refine w_z_gt (k := 1) (t' := 8) rfl rfl (fun q => absurd q (fun q => absurd (Int32.lt_trans q hneg) Int32.lt_irrefl)) (fun q => ?_)
    refine wp_iload (k := 2) rfl rfl ?_
    refine w_z_ne (k := 3) (t' := 6) rfl rfl (fun q => ?_) (fun q => absurd q (fun q => absurd (q ▸ hneg) (by decide)))
    refine w_ic (k := 6) (x := nI 0) rfl (oi_nI 0) ?_
    refine w_ri (k := 7) rfl rfl rfl rfl ?_
    exact hq 32 (by decide) hm (Or.inr (by omega))
theorem c_266 {v : Int64} (hq : ∀ b, b ≤ 64 → uN v < 2 ^ b → (b = 0 ∨ 2 ^ (b - 1) ≤ uN v) → Q (some (.int (nI (64 - b)))) (sh, I, L, R)) : am_call (d + 2) 266 [.long v] (sh, I, L, R) Q := by
  have hv := uN_lt v
  have e1 : (v.toUInt64 >>> ((nI 32).toInt64.toUInt64 &&& Int64.toUInt64 63)).toInt64.toInt32 = nI (uN v / 2 ^ 32) := by
    conv => lhs; rw [← lN_uN v]
    rw [wb_shr (uN_lt v) (by decide), lN_i]
  have e2 : v.toInt32 = nI (uN v % 2 ^ 32) := by
    rw [← nI_uI v.toInt32, uI_l]
  refine am_enter (ls := [some _, none, none]) (cs := am_c266) rfl rfl (Nat.le_of_ble_eq_true rfl) rfl ?_
  refine wp_lload (k := 0) rfl rfl ?_
  refine w_ic (k := 1) (x := nI 32) rfl (oi_nI 32) ?_
  refine wp_lushr (k := 2) rfl ?_
  refine wp_l2i (k := 3) rfl ?_
  rw [e1]
  by_cases h0 : uN v / 2 ^ 32 = 0
  · rw [h0]
    refine wp_istore (k := 4) rfl rfl ?_
    refine wp_iload (k := 5) rfl rfl ?_
    refine w_m_ne (k := 6) (t' := 13) rfl rfl (by omega) (fun q => absurd q (by omega)) (fun q => ?_)
    refine w_ic (k := 7) (x := nI 32) rfl (oi_nI 32) ?_
    refine wp_lload (k := 8) rfl rfl ?_
    refine wp_l2i (k := 9) rfl ?_
    rw [e2]
    refine w_Si (k := 10) [_] rfl rfl rfl (Nat.le_of_ble_eq_true rfl) (Or.inl ⟨rfl, rfl⟩) ?_
    refine (c_265 (m := uN v % 2 ^ 32) (by omega) (fun b b1 b2 b3 => ⟨_, rfl, ?_⟩))
    refine w_addN (k := 11) rfl ?_
    refine w_goto (k := 12) (t' := 15) rfl rfl ?_
    refine w_ri (k := 15) rfl rfl rfl rfl ?_
    rw [show 32 + (32 - b) = 64 - b by omega]
    exact hq b (by omega) (by omega) (by omega)
  · refine wp_istore (k := 4) rfl rfl ?_
    refine wp_iload (k := 5) rfl rfl ?_
    refine w_z_ne (k := 6) (t' := 13) rfl rfl (fun q => ?_) (fun q => absurd q (fun q => ?_))
    refine wp_iload (k := 13) rfl rfl ?_
    refine w_Si (k := 14) [_] rfl rfl rfl (Nat.le_of_ble_eq_true rfl) (Or.inl ⟨rfl, rfl⟩) ?_
    refine (c_265 (m := uN v / 2 ^ 32) (by omega) (fun b b1 b2 b3 => ⟨_, rfl, ?_⟩))
    refine w_ri (k := 15) rfl rfl rfl rfl ?_
    · have hh : uN v < 2 ^ 32 * 2 ^ b := by
        have := Nat.lt_mul_of_div_lt (a := uN v) (b := 2 ^ b) (c := 2 ^ 32) b2 (by decide)
        rw [Nat.mul_comm] at this
        exact this
      have := hq (32 + b) (by omega) (by rw [Nat.pow_add]; exact hh) (Or.inr (by
        rcases b3 with rfl | b3
        · exfalso; rw [Nat.pow_zero] at b2; omega
        · rcases Nat.eq_zero_or_pos b with rfl | hb
          · rw [Nat.pow_zero] at b2; omega
          · rw [show 32 + b - 1 = 32 + (b - 1) by omega, Nat.pow_add]
            have := Nat.mul_le_of_le_div _ _ _ b3
            rw [Nat.mul_comm] at this
            exact this))
      rw [show 32 - b = 64 - (32 + b) by omega]
      exact this
    · have := congrArg uI q
      rw [uI_nI (by omega)] at this
      exact h0 this
theorem c_125 {l : List Nat} (hl : l.length ≤ 8) (hb : ∀ c ∈ l, 0 < c ∧ c < 256) (hq : Q (some (.int (nI l.length))) (sh, I, L, R)) : am_call (d + 3) 125 [.long (lN (vb 0 l))] (sh, I, L, R) Q := by
  have h1 := vb_lt l (fun c hc => (hb c hc).2)
  have h64 : vb 0 l < 2 ^ 64 := Nat.lt_of_lt_of_le h1 (Nat.le_trans (Nat.pow_le_pow_right (by decide) hl) (by decide))
  refine am_enter (ls := [some _, none]) (cs := am_c125) rfl rfl (Nat.le_of_ble_eq_true rfl) rfl ?_
  refine w_ic (k := 0) (x := nI 71) rfl (oi_nI 71) ?_
  refine wp_lload (k := 1) rfl rfl ?_
  refine w_Si (k := 2) [_] rfl rfl rfl (Nat.le_of_ble_eq_true rfl) (Or.inl ⟨rfl, rfl⟩) ?_
  refine (c_266 (fun b b1 b2 b3 => ⟨_, rfl, ?_⟩))
  rw [uN_lN h64] at b2 b3
  refine wp_isub (k := 3) rfl ?_
  rw [pk_sub (by omega)]
  refine w_ic (k := 4) (x := nI 8) rfl (oi_nI 8) ?_
  refine wp_idiv (k := 5) rfl (by decide) ?_
  rw [pk_div (by omega) (by decide) (by decide)]
  refine w_ri (k := 6) rfl rfl rfl rfl ?_
  have e : (71 - (64 - b)) / 8 = l.length := by
    rw [← p28] at h1
    cases l with
    | nil =>
      have h0 : vb 0 [] = 0 := rfl
      rw [h0] at b2 b3
      rcases b3 with rfl | b3
      · rfl
      · exact absurd b3 (Nat.not_le.mpr (Nat.pow_pos (by decide)))
    | cons c l =>
      have h2 := vb_ge (l := l) (hb c List.mem_cons_self).1
      rw [← p28] at h2
      have u1 : 8 * l.length < b := (Nat.pow_lt_pow_iff_right (by decide)).mp (Nat.lt_of_le_of_lt h2 b2)
      rcases b3 with rfl | b3
      · omega
      · have u2 : b - 1 < 8 * (c :: l).length := (Nat.pow_lt_pow_iff_right (by decide)).mp (Nat.lt_of_le_of_lt b3 h1)
        rw [List.length_cons] at u2 ⊢
        omega
  rw [e]
  exact hq
end NL
section LT
variable {d N : Nat} {I : Nat → Nat → Int32} {L : Nat → Nat → Int64} {w : Option Nat} {Q : am_Q}
/-- the reference's letters -/
def lt_ok (I : Nat → Nat → Int32) (l : List Nat) : Prop := I 100 23 = nI l.length ∧ av I 114 l
theorem c_188 {v : Int64} {A : List Nat} (hA : lt_ok I A) (hl : A.length + 8 ≤ 16) (hq : ∀ I', lt_ok I' (A ++ nz 8 (uN v)) → (∀ x, x ≠ 100 → x ≠ 114 → I' x = I x) → (∀ s, s ≠ 23 → I' 100 s = I 100 s) → Q none (am_SH N, I', L, am_RR w)) : am_call (d + 1) 188 [.ref 100, .long v] (am_SH N, I, L, am_RR w) Q := by
  have loop : ∀ (r : Nat) (I1 : Nat → Nat → Int32) (A1 : List Nat) (o : Option Value), r ≤ 8 → A1.length + r ≤ 16 → lt_ok I1 A1 → (∀ I', lt_ok I' (A1 ++ nz r (uN v)) → (∀ x, x ≠ 100 → x ≠ 114 → I' x = I1 x) → (∀ s, s ≠ 23 → I' 100 s = I1 100 s) → Q none (am_SH N, I', L, am_RR w)) → am_V 188 am_c188 d (am_SH N) Q 2 [some (.ref 100), some (.long v), none, some (.int (nI r - nI 1)), o] [] (am_SH N, I1, L, am_RR w) := by
    intro r
    induction r with
    | zero =>
      intro I1 A1 o _ _ h1 hq
      refine wp_iload (k := 2) rfl rfl ?_
      refine w_z_lt (k := 3) (t' := 29) rfl rfl (fun q => ?_) (fun q => absurd (by decide) q)
      refine w_rv (k := 29) rfl rfl rfl rfl ?_
      exact hq I1 (by simpa [nz_0] using h1) (fun _ _ _ => rfl) (fun _ _ => rfl)
    | succ r ih =>
      intro I1 A1 o hr hl h1 hq
      have e : nI (r + 1) - nI 1 = nI r := by rw [pk_sub (by omega)]; congr 1
      have e2 : (v >>> ((nI (8 * r)).toInt64 &&& 63)).toInt32 &&& nI 255 = nI (uN v / 256 ^ r % 256) := by
        rw [li_b, l_s8 v (by omega), p28]
      have hb : uN v / 256 ^ r % 256 < 256 := Nat.mod_lt _ (by decide)
      obtain ⟨g1, g2⟩ := h1
      rw [e]
      refine wp_iload (k := 2) rfl rfl ?_
      refine w_m_lt (k := 3) (t' := 29) rfl rfl (by omega) (fun q => absurd q (by omega)) (fun q => ?_)
      refine wp_lload (k := 4) rfl rfl ?_
      refine w_ic (k := 5) (x := nI 8) rfl (oi_nI 8) ?_
      refine wp_iload (k := 6) rfl rfl ?_
      refine w_mulN (k := 7) rfl ?_
      refine wp_lshr (k := 8) rfl ?_
      refine wp_l2i (k := 9) rfl ?_
      refine w_ic (k := 10) (x := nI 255) rfl (oi_nI 255) ?_
      refine wp_iand (k := 11) rfl ?_
      rw [e2]
      refine wp_istore (k := 12) rfl rfl ?_
      refine wp_iload (k := 13) rfl rfl ?_
      refine w_m_eq (k := 14) (t' := 27) rfl rfl (by omega) (fun c1 => ?_) (fun c1 => ?_)
      · refine w_incX (k := 27) rfl rfl (m1 r) ?_
        refine w_goto (k := 28) (t' := 2) rfl rfl ?_
        exact ih I1 A1 _ (by omega) (by omega) ⟨g1, g2⟩ (by rw [← nz_no c1]; exact hq)
      · refine wp_aload (k := 15) rfl rfl ?_
        refine w_gr (k := 16) (s := 22) rfl rfl (by first | assumption | rfl) (by first | assumption | rfl) ?_
        refine wp_aload (k := 17) rfl rfl ?_
        refine w_gi (k := 18) (s := 23) rfl rfl (by first | assumption | rfl) (by first | assumption | rfl) ?_
        refine wp_iload (k := 19) rfl rfl ?_
        refine w_iast (k := 20) rfl rfl (by omega) (by first | assumption | rfl) (by omega) ?_
        refine wp_aload (k := 21) rfl rfl ?_
        refine wp_dup (k := 22) rfl rfl ?_
        refine w_gi (k := 23) (s := 23) rfl rfl (by first | assumption | rfl) (am_uv (by decide) g1) ?_
        refine w_ic (k := 24) (x := nI 1) rfl (oi_nI 1) ?_
        refine w_addN (k := 25) rfl ?_
        refine w_pi (k := 26) (s := 23) rfl rfl (by first | assumption | rfl) ?_
        refine w_incX (k := 27) rfl rfl (m1 r) ?_
        refine w_goto (k := 28) (t' := 2) rfl rfl ?_
        have k1 := av_w1 g2 (Nat.le_refl A1.length) hb
        rw [wr_end] at k1
        refine ih _ (A1 ++ [uN v / 256 ^ r % 256]) _ (by omega) (by simp; omega) ⟨by rw [am_us]; simp, av_keep k1 (by rw [am_uR (by decide)])⟩ (fun I' i1 i2 i3 => hq I' (by rw [nz_yes c1]; simpa [List.append_assoc] using i1) (fun x hx hy => ?_) (fun s hs => ?_))
        · rw [i2 x hx hy, am_uR hx, am_uR hy]
        · rw [i3 s hs, am_u_app, if_neg (fun q => hs q.2), am_uR (by decide)]
  refine am_enter (ls := [some _, some _, none, none, none]) (cs := am_c188) rfl rfl (Nat.le_of_ble_eq_true rfl) rfl ?_
  refine w_ic (k := 0) (x := nI 7) rfl (oi_nI 7) ?_
  refine wp_istore (k := 1) rfl rfl ?_
  exact loop 8 I A none (by omega) hl hA hq
theorem c_193 {v : Int64} (hq : ∀ I', lt_ok I' (nz 8 (uN v)) → (∀ x, x ≠ 100 → x ≠ 114 → I' x = I x) → (∀ s, s ≠ 23 → I' 100 s = I 100 s) → Q (some (.int (bI (isW v)))) (am_SH N, I', L, am_RR w)) : am_call (d + 2) 193 [.ref 100, .long v] (am_SH N, I, L, am_RR w) Q := by
  refine am_enter (ls := [some _, some _, none, none, none]) (cs := am_c193) rfl rfl (Nat.le_of_ble_eq_true rfl) rfl ?_
  refine wp_aload (k := 0) rfl rfl ?_
  refine w_ic (k := 1) (x := nI 0) rfl (oi_nI 0) ?_
  refine w_pi (k := 2) (s := 23) rfl rfl (by first | assumption | rfl) ?_
  refine wp_aload (k := 3) rfl rfl ?_
  refine wp_lload (k := 4) rfl rfl ?_
  refine w_Vv (k := 5) [_] rfl rfl rfl (Nat.le_of_ble_eq_true rfl) (by first | assumption | rfl) (Or.inl ⟨rfl, rfl⟩) ?_
  refine (c_188 (A := []) ⟨by rw [am_us]; rfl, ⟨fun i hi => absurd hi (Nat.not_lt_zero i), fun c hc => by cases hc⟩⟩ (by decide) (fun I1 i1 i2 i3 => ⟨rfl, ?_⟩))
  rw [List.nil_append] at i1
  obtain ⟨g1, g2⟩ := id i1
  have hlen := nz_len 8 (uN v)
  have key : ∀ (r i : Nat) (b : Bool), i + r = (nz 8 (uN v)).length → isW v = (b && ((nz 8 (uN v)).drop i).all okc) → am_V 193 am_c193 (d + 1) (am_SH N) Q 15 [some (.ref 100), some (.long v), none, some (.int (bI b)), some (.int (nI i))] [] (am_SH N, I1, L, am_RR w) := by
    intro r
    induction r with
    | zero =>
      intro i b hi hb
      refine wp_iload (k := 15) rfl rfl ?_
      refine wp_aload (k := 16) rfl rfl ?_
      refine w_gi (k := 17) (s := 23) rfl rfl (by first | assumption | rfl) (by first | assumption | rfl) ?_
      refine w_n_ge (k := 18) (t' := 42) rfl rfl (by omega) (fun q => ?_) (fun q => absurd q (by omega))
      refine wp_iload (k := 42) rfl rfl ?_
      refine w_rz (k := 43) rfl rfl rfl ?_
      rw [List.drop_of_length_le (by omega)] at hb
      have hb : isW v = b := by simpa using hb
      rw [← hb]
      refine hq I1 i1 (fun x hx hy => by rw [i2 x hx hy, am_uR hx]) (fun s hs => by rw [i3 s hs, am_u_app, if_neg (fun q => hs q.2)])
    | succ r ih =>
      intro i b hi hb
      have hd : (nz 8 (uN v)).drop i = (nz 8 (uN v)).getD i 0 :: (nz 8 (uN v)).drop (i + 1) := by
        rw [List.drop_eq_getElem_cons (by omega), List.getD_eq_getElem?_getD, List.getElem?_eq_getElem (by omega)]
        rfl
      have hc := gd_lt g2.2 i
      rw [hd, List.all_cons] at hb
      have no : ∀ ls, (b && okc ((nz 8 (uN v)).getD i 0)) = false → am_V 193 am_c193 (d + 1) (am_SH N) Q 38 [some (.ref 100), some (.long v), none, ls, some (.int (nI i))] [] (am_SH N, I1, L, am_RR w) := by
        intro ls hf
        refine w_ic (k := 38) (x := bI false) rfl rfl ?_
        refine wp_istore (k := 39) rfl rfl ?_
        refine w_incN (k := 40) (m := 1) rfl (oi_nI 1) rfl ?_
        refine w_goto (k := 41) (t' := 15) rfl rfl ?_
        exact ih (i + 1) false (by omega) (by rw [hb, ← Bool.and_assoc, hf])
      refine wp_iload (k := 15) rfl rfl ?_
      refine wp_aload (k := 16) rfl rfl ?_
      refine w_gi (k := 17) (s := 23) rfl rfl (by first | assumption | rfl) (by first | assumption | rfl) ?_
      refine w_n_ge (k := 18) (t' := 42) rfl rfl (by omega) (fun q => absurd q (by omega)) (fun q => ?_)
      refine wp_iload (k := 19) rfl rfl ?_
      refine w_b_eq (k := 20) (t' := 38) rfl rfl (fun c1 => ?_) (fun c1 => ?_)
      · exact no _ (by rw [c1]; rfl)
      · refine wp_aload (k := 21) rfl rfl ?_
        refine w_gr (k := 22) (s := 22) rfl rfl (by first | assumption | rfl) (by first | assumption | rfl) ?_
        refine wp_iload (k := 23) rfl rfl ?_
        refine w_iald (k := 24) rfl rfl (by first | assumption | rfl) (by omega) (g2.1 i (by omega)) ?_
        refine wp_i2l (k := 25) rfl ?_
        refine w_lc (k := 26) (x := lN 33) rfl (ol_lN 33) ?_
        refine w_lc (k := 27) (x := lN 126) rfl (ol_lN 126) ?_
        refine w_Si (k := 28) [_, _, _] rfl rfl rfl (Nat.le_of_ble_eq_true rfl) (Or.inl ⟨rfl, rfl⟩) ?_
        refine (c_166 ?_)
        refine ⟨_, rfl, ?_⟩
        rw [nI_l (by omega)]
        refine w_b_eq (k := 29) (t' := 38) rfl rfl (fun c2 => ?_) (fun c2 => ?_)
        · have c2 := of_decide_eq_false c2
          rw [pk_lLE (by omega) (by omega), pk_lLE (by omega) (by omega)] at c2
          exact no _ (by rw [show okc ((nz 8 (uN v)).getD i 0) = false by simp only [okc, decide_eq_false_iff_not]; omega]; simp)
        · have c2 := of_decide_eq_true c2
          rw [pk_lLE (by omega) (by omega), pk_lLE (by omega) (by omega)] at c2
          refine wp_aload (k := 30) rfl rfl ?_
          refine w_gr (k := 31) (s := 22) rfl rfl (by first | assumption | rfl) (by first | assumption | rfl) ?_
          refine wp_iload (k := 32) rfl rfl ?_
          refine w_iald (k := 33) rfl rfl (by first | assumption | rfl) (by omega) (g2.1 i (by omega)) ?_
          refine w_ic (k := 34) (x := nI 58) rfl (oi_nI 58) ?_
          refine w_n_eq (k := 35) (t' := 38) rfl rfl (by omega) (fun c3 => ?_) (fun c3 => ?_)
          · exact no _ (by rw [show okc ((nz 8 (uN v)).getD i 0) = false by simp only [okc, decide_eq_false_iff_not]; omega]; simp)
          · refine w_ic (k := 36) (x := bI true) rfl rfl ?_
            refine w_goto (k := 37) (t' := 39) rfl rfl ?_
            refine wp_istore (k := 39) rfl rfl ?_
            refine w_incN (k := 40) (m := 1) rfl (oi_nI 1) rfl ?_
            refine w_goto (k := 41) (t' := 15) rfl rfl ?_
            exact ih (i + 1) true (by omega) (by rw [hb, c1, show okc ((nz 8 (uN v)).getD i 0) = true by simp only [okc, decide_eq_true_eq]; omega]; rfl)
  refine wp_aload (k := 6) rfl rfl ?_
  refine w_gi (k := 7) (s := 23) rfl rfl (by first | assumption | rfl) (by first | assumption | rfl) ?_
  refine w_m_le (k := 8) (t' := 11) rfl rfl (by omega) (fun c1 => ?_) (fun c1 => ?_)
  · refine w_ic (k := 11) (x := bI false) rfl rfl ?_
    refine wp_istore (k := 12) rfl rfl ?_
    refine w_ic (k := 13) (x := nI 0) rfl (oi_nI 0) ?_
    refine wp_istore (k := 14) rfl rfl ?_
    exact key _ 0 false (Nat.zero_add _) (by rw [isW, List.eq_nil_of_length_eq_zero (Nat.le_zero.mp c1)]; rfl)
  · refine w_ic (k := 9) (x := bI true) rfl rfl ?_
    refine w_goto (k := 10) (t' := 12) rfl rfl ?_
    refine wp_istore (k := 12) rfl rfl ?_
    refine w_ic (k := 13) (x := nI 0) rfl (oi_nI 0) ?_
    refine wp_istore (k := 14) rfl rfl ?_
    refine key _ 0 true (Nat.zero_add _) ?_
    unfold isW
    rw [List.drop_zero, Bool.true_and]
    cases hz : nz 8 (uN v) with
    | nil => rw [hz] at c1; exact absurd c1 (by decide)
    | cons a l => simp
end LT
