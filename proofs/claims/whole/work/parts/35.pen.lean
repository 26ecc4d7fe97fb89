/-! ===== the pen: messages in a row ===== -/
def pad4 (n : Nat) : Nat := (n + 3) / 4 * 4
theorem pad4_ge (n : Nat) : n ≤ pad4 n ∧ pad4 n < n + 4 := by unfold pad4; omega
/-- LENGTH is set, an attribute stands behind -/
def hd_ (A : List Nat) (kd w : Nat) : List Nat := wr A 2 (be 2 (A.length + 4 + pad4 w - 20)) ++ (be 2 kd ++ be 2 w)
def at_ (A : List Nat) (kd : Nat) (bs : List Nat) : List Nat := hd_ A kd bs.length ++ (bs ++ List.replicate (pad4 bs.length - bs.length) 0)
theorem hd_len {A : List Nat} (h : 4 ≤ A.length) (kd w : Nat) : (hd_ A kd w).length = A.length + 4 := by
  unfold hd_
  rw [List.length_append, wr_in (by rw [be_len]; omega), List.length_append, be_len, be_len]
theorem at_len {A : List Nat} (h : 4 ≤ A.length) (kd : Nat) (bs : List Nat) : (at_ A kd bs).length = A.length + 4 + pad4 bs.length := by
  have := pad4_ge bs.length
  unfold at_
  rw [List.length_append, hd_len h, List.length_append, List.length_replicate]
  omega
theorem set_wr2 {A : List Nat} (h : 4 ≤ A.length) (x y : Nat) : (A.set 2 x).set 3 y = wr A 2 [x, y] := by
  apply gd_ext
  · rw [wr_in (by simpa using h)]; simp
  · intro i hi
    have hi : i < A.length := by simpa using hi
    rw [wr_getD (by omega), List.getD_eq_getElem?_getD, List.getElem?_set, List.getElem?_set]
    by_cases h3 : i = 3
    · subst h3
      simp [hi]
    · by_cases h2 : i = 2
      · subst h2
        simp [hi]
      · rw [if_neg (fun q => h3 q.symm), if_neg (fun q => h2 q.symm)]
        by_cases h1 : i < 2
        · rw [if_pos h1, List.getD_eq_getElem?_getD]
        · rw [if_neg h1, if_neg (by simp; omega), List.getD_eq_getElem?_getD]
theorem i_and4 {m : Nat} (h : m < 2 ^ 31) : nI m &&& (-4) = nI (m / 4 * 4) := by
  apply b_ext
  intro i hi
  have hb : ∀ j, j < 32 → bt (-4) j = decide (2 ≤ j) := by decide
  rw [b_and, bt_nI _ _ hi, bt_nI _ _ hi, hb i hi, show m / 4 * 4 = (m / 2 ^ 2) * 2 ^ 2 from rfl, Nat.testBit_mul_two_pow, Nat.testBit_div_two_pow]
  by_cases h2 : 2 ≤ i
  · simp [h2, show i - 2 + 2 = i by omega]
  · simp [h2]
section PEN
variable {d : Nat} {sh : List (Nat × Nat)} {I : Nat → Nat → Int32} {L : Nat → Nat → Int64} {R : Nat → Nat → Option Nat} {Q : am_Q} {p b n e : Nat} {A : List Nat}
theorem c_58 {m : Nat} (hm : m < 2 ^ 30) (hq : Q (some (.int (nI (pad4 m)))) (sh, I, L, R)) : am_call (d + 1) 58 [.int (nI m)] (sh, I, L, R) Q := by
  refine am_enter (ls := [some _]) (cs := am_c58) rfl rfl (Nat.le_of_ble_eq_true rfl) rfl ?_
  refine wp_iload (k := 0) rfl rfl ?_
  refine w_ic (k := 1) (x := nI 3) rfl (oi_nI 3) ?_
  refine w_addN (k := 2) rfl ?_
  refine w_ic (k := 3) (x := (-4)) rfl (by decide) ?_
  refine wp_iand (k := 4) rfl ?_
  rw [i_and4 (by omega)]
  refine w_ri (k := 5) rfl rfl rfl rfl ?_
  exact hq
def pn_at (sh : List (Nat × Nat)) (R : Nat → Nat → Option Nat) (e p : Nat) : Prop := sh[e]? = some (4, 2) ∧ R e 0 = some p ∧ R e 1 = some 7
def tk (A : List Nat) (kd : Int32) (w n : Nat) : Bool := decide (¬ kd < 0 ∧ ¬ nI 65535 < kd ∧ 20 ≤ A.length ∧ A.length % 4 = 0 ∧ A.length + 4 + pad4 w ≤ n)
theorem c_61 (he : pn_at sh R e p) (hr : rw_at sh R p b n) (hA : rw_B I p b n A) {kd : Int32} {m : Nat} (hm : m < 2 ^ 20) (hq : Q (some (.int (bI (tk A kd m n)))) (sh, I, L, R)) : am_call (d + 2) 61 [.ref e, .int kd, .int (nI m)] (sh, I, L, R) Q := by
  obtain ⟨e1, e2, e3⟩ := he
  obtain ⟨r1, r2, r3, r4, r5⟩ := id hr
  obtain ⟨g1, g2, g3, g4⟩ := id hA
  have hp := pad4_ge m
  have no : ∀ ls, tk A kd m n = false → am_V 61 am_c61 (d + 1) sh Q 30 ls [] (sh, I, L, R) := by
    intro ls h
    refine w_ic (k := 30) (x := bI false) rfl rfl ?_
    refine w_rz (k := 31) rfl rfl rfl ?_
    rw [h] at hq
    exact hq
  unfold tk at no hq
  refine am_enter (ls := [some _, some _, some _]) (cs := am_c61) rfl rfl (Nat.le_of_ble_eq_true rfl) rfl ?_
  refine wp_iload (k := 0) rfl rfl ?_
  refine w_z_lt (k := 1) (t' := 30) rfl rfl (fun k1 => ?_) (fun k1 => ?_)
  · exact no _ (decide_eq_false (fun q => q.1 k1))
  · refine wp_iload (k := 2) rfl rfl ?_
    refine w_ic (k := 3) (x := nI 65535) rfl (oi_nI 65535) ?_
    refine w_c_gt (k := 4) (t' := 30) rfl rfl (fun k2 => ?_) (fun k2 => ?_)
    · exact no _ (decide_eq_false (fun q => q.2.1 k2))
    · refine wp_aload (k := 5) rfl rfl ?_
      refine w_gr (k := 6) (s := 0) rfl rfl (by first | assumption | rfl) (by first | assumption | rfl) ?_
      refine w_Vi (k := 7) [] rfl rfl rfl (Nat.le_of_ble_eq_true rfl) (by first | assumption | rfl) (Or.inl ⟨rfl, rfl⟩) ?_
      refine (c_82 hr hA ?_)
      refine ⟨_, rfl, ?_⟩
      refine w_ic (k := 8) (x := nI 20) rfl (oi_nI 20) ?_
      refine w_n_lt (k := 9) (t' := 30) rfl rfl (by omega) (fun k3 => ?_) (fun k3 => ?_)
      · exact no _ (decide_eq_false (fun q => absurd q.2.2.1 (by omega)))
      · refine wp_aload (k := 10) rfl rfl ?_
        refine w_gr (k := 11) (s := 0) rfl rfl (by first | assumption | rfl) (by first | assumption | rfl) ?_
        refine w_Vi (k := 12) [] rfl rfl rfl (Nat.le_of_ble_eq_true rfl) (by first | assumption | rfl) (Or.inl ⟨rfl, rfl⟩) ?_
        refine (c_82 hr hA ?_)
        refine ⟨_, rfl, ?_⟩
        refine w_ic (k := 13) (x := nI 4) rfl (oi_nI 4) ?_
        refine wp_irem (k := 14) rfl (by decide) ?_
        rw [pk_rem (by omega) (by decide) (by decide)]
        refine w_m_ne (k := 15) (t' := 30) rfl rfl (by omega) (fun k4 => ?_) (fun k4 => ?_)
        · exact no _ (decide_eq_false (fun q => absurd q.2.2.2.1 (by omega)))
        · refine wp_aload (k := 16) rfl rfl ?_
          refine w_gr (k := 17) (s := 0) rfl rfl (by first | assumption | rfl) (by first | assumption | rfl) ?_
          refine w_Vi (k := 18) [] rfl rfl rfl (Nat.le_of_ble_eq_true rfl) (by first | assumption | rfl) (Or.inl ⟨rfl, rfl⟩) ?_
          refine (c_82 hr hA ?_)
          refine ⟨_, rfl, ?_⟩
          refine w_ic (k := 19) (x := nI 4) rfl (oi_nI 4) ?_
          refine w_addN (k := 20) rfl ?_
          refine wp_iload (k := 21) rfl rfl ?_
          refine w_Si (k := 22) [_] rfl rfl rfl (Nat.le_of_ble_eq_true rfl) (Or.inl ⟨rfl, rfl⟩) ?_
          refine (c_58 (by omega) ?_)
          refine ⟨_, rfl, ?_⟩
          refine w_addN (k := 23) rfl ?_
          refine wp_aload (k := 24) rfl rfl ?_
          refine w_gr (k := 25) (s := 0) rfl rfl (by first | assumption | rfl) (by first | assumption | rfl) ?_
          refine w_Vi (k := 26) [] rfl rfl rfl (Nat.le_of_ble_eq_true rfl) (by first | assumption | rfl) (Or.inl ⟨rfl, rfl⟩) ?_
          refine (c_83 hr ?_)
          refine ⟨_, rfl, ?_⟩
          refine w_n_gt (k := 27) (t' := 30) rfl rfl (by omega) (fun k5 => ?_) (fun k5 => ?_)
          · exact no _ (decide_eq_false (fun q => absurd q.2.2.2.2 (by omega)))
          · refine w_ic (k := 28) (x := bI true) rfl rfl ?_
            refine w_goto (k := 29) (t' := 31) rfl rfl ?_
            refine w_rz (k := 31) rfl rfl rfl ?_
            rw [decide_eq_true ⟨k1, k2, k3, k4, k5⟩] at hq
            exact hq
/-- the head of a message -/
def hd20 (ty x y z : Nat) : List Nat := be 2 ty ++ be 2 0 ++ be 4 554869826 ++ be 4 x ++ be 4 y ++ be 4 z
theorem hd20_len (ty x y z : Nat) : (hd20 ty x y z).length = 20 := by simp [hd20, be_len]
theorem c_62 (he : pn_at sh R e p) (hr : rw_at sh R p b n) (hA : rw_B I p b n A) (hn : 20 ≤ n) {ty x y z : Int32} (hq : ∀ I', rw_B I' p b n (hd20 (uI ty) (uI x) (uI y) (uI z)) → (∀ x, x ≠ p → x ≠ b → I' x = I x) → Q none (sh, I', L, R)) : am_call (d + 2) 62 [.ref e, .int ty, .int x, .int y, .int z] (sh, I, L, R) Q := by
  obtain ⟨e1, e2, e3⟩ := he
  have r1 := hr.1
  have el : uN (lN 0) = 0 := rfl
  have ec : uN (lN 554869826) = 554869826 := rfl
  refine am_enter (ls := [some _, some _, some _, some _, some _]) (cs := am_c62) rfl rfl (Nat.le_of_ble_eq_true rfl) rfl ?_
  refine wp_aload (k := 0) rfl rfl ?_
  refine w_gr (k := 1) (s := 0) rfl rfl (by first | assumption | rfl) (by first | assumption | rfl) ?_
  refine w_ic (k := 2) (x := nI 0) rfl (oi_nI 0) ?_
  refine w_Vv (k := 3) [_] rfl rfl rfl (Nat.le_of_ble_eq_true rfl) (by first | assumption | rfl) (Or.inl ⟨rfl, rfl⟩) ?_
  refine (c_86 hr hA (Nat.zero_le _) (fun I1 k1 f1 => ⟨rfl, ?_⟩))
  rw [List.take_zero] at k1
  refine wp_aload (k := 4) rfl rfl ?_
  refine w_gr (k := 5) (s := 0) rfl rfl (by first | assumption | rfl) (by first | assumption | rfl) ?_
  refine wp_iload (k := 6) rfl rfl ?_
  refine wp_i2l (k := 7) rfl ?_
  refine w_ic (k := 8) (x := nI 2) rfl (oi_nI 2) ?_
  refine w_Vv (k := 9) [_, _] rfl rfl rfl (Nat.le_of_ble_eq_true rfl) (by first | assumption | rfl) (Or.inl ⟨rfl, rfl⟩) ?_
  refine (c_87 hr k1 (by simp; omega) (by decide) (fun I2 k2 f2 => ⟨rfl, ?_⟩))
  refine wp_aload (k := 10) rfl rfl ?_
  refine w_gr (k := 11) (s := 0) rfl rfl (by first | assumption | rfl) (by first | assumption | rfl) ?_
  refine w_lc (k := 12) (x := lN 0) rfl (ol_lN 0) ?_
  refine w_ic (k := 13) (x := nI 2) rfl (oi_nI 2) ?_
  refine w_Vv (k := 14) [_, _] rfl rfl rfl (Nat.le_of_ble_eq_true rfl) (by first | assumption | rfl) (Or.inl ⟨rfl, rfl⟩) ?_
  refine (c_87 hr k2 (by simp [be_len]; omega) (by decide) (fun I3 k3 f3 => ⟨rfl, ?_⟩))
  refine wp_aload (k := 15) rfl rfl ?_
  refine w_gr (k := 16) (s := 0) rfl rfl (by first | assumption | rfl) (by first | assumption | rfl) ?_
  refine w_lc (k := 17) (x := lN 554869826) rfl (ol_lN 554869826) ?_
  refine w_ic (k := 18) (x := nI 4) rfl (oi_nI 4) ?_
  refine w_Vv (k := 19) [_, _] rfl rfl rfl (Nat.le_of_ble_eq_true rfl) (by first | assumption | rfl) (Or.inl ⟨rfl, rfl⟩) ?_
  refine (c_87 hr k3 (by simp [be_len]; omega) (by decide) (fun I4 k4 f4 => ⟨rfl, ?_⟩))
  refine wp_aload (k := 20) rfl rfl ?_
  refine w_gr (k := 21) (s := 0) rfl rfl (by first | assumption | rfl) (by first | assumption | rfl) ?_
  refine wp_iload (k := 22) rfl rfl ?_
  refine wp_i2l (k := 23) rfl ?_
  refine w_ic (k := 24) (x := nI 4) rfl (oi_nI 4) ?_
  refine w_Vv (k := 25) [_, _] rfl rfl rfl (Nat.le_of_ble_eq_true rfl) (by first | assumption | rfl) (Or.inl ⟨rfl, rfl⟩) ?_
  refine (c_87 hr k4 (by simp [be_len]; omega) (by decide) (fun I5 k5 f5 => ⟨rfl, ?_⟩))
  refine wp_aload (k := 26) rfl rfl ?_
  refine w_gr (k := 27) (s := 0) rfl rfl (by first | assumption | rfl) (by first | assumption | rfl) ?_
  refine wp_iload (k := 28) rfl rfl ?_
  refine wp_i2l (k := 29) rfl ?_
  refine w_ic (k := 30) (x := nI 4) rfl (oi_nI 4) ?_
  refine w_Vv (k := 31) [_, _] rfl rfl rfl (Nat.le_of_ble_eq_true rfl) (by first | assumption | rfl) (Or.inl ⟨rfl, rfl⟩) ?_
  refine (c_87 hr k5 (by simp [be_len]; omega) (by decide) (fun I6 k6 f6 => ⟨rfl, ?_⟩))
  refine wp_aload (k := 32) rfl rfl ?_
  refine w_gr (k := 33) (s := 0) rfl rfl (by first | assumption | rfl) (by first | assumption | rfl) ?_
  refine wp_iload (k := 34) rfl rfl ?_
  refine wp_i2l (k := 35) rfl ?_
  refine w_ic (k := 36) (x := nI 4) rfl (oi_nI 4) ?_
  refine w_Vv (k := 37) [_, _] rfl rfl rfl (Nat.le_of_ble_eq_true rfl) (by first | assumption | rfl) (Or.inl ⟨rfl, rfl⟩) ?_
  refine (c_87 hr k6 (by simp [be_len]; omega) (by decide) (fun I7 k7 f7 => ⟨rfl, ?_⟩))
  refine w_rv (k := 38) rfl rfl rfl rfl ?_
  rw [List.nil_append, be_i _ (by decide), be_i _ (by decide), be_i _ (by decide), be_i _ (by decide), el, ec] at k7
  exact hq I7 k7 (fun y h1 h2 => by rw [f7 y h1 h2, f6 y h1 h2, f5 y h1 h2, f4 y h1 h2, f3 y h1 h2, f2 y h1 h2, f1 y h1])
theorem c_63 (he : pn_at sh R e p) (hr : rw_at sh R p b n) (hA : rw_B I p b n A) (h20 : 20 ≤ A.length) {kd : Int32} {m : Nat} (hm : A.length + 4 + pad4 m ≤ n) (hq : ∀ I', rw_B I' p b n (hd_ A (uI kd) m) → (∀ x, x ≠ p → x ≠ b → I' x = I x) → Q none (sh, I', L, R)) : am_call (d + 2) 63 [.ref e, .int kd, .int (nI m)] (sh, I, L, R) Q := by
  obtain ⟨e1, e2, e3⟩ := he
  have r1 := hr.1
  have hp := pad4_ge m
  have hn : n < 1000 := hr.2.2.2.2
  refine am_enter (ls := [some _, some _, some _, none]) (cs := am_c63) rfl rfl (Nat.le_of_ble_eq_true rfl) rfl ?_
  refine wp_aload (k := 0) rfl rfl ?_
  refine w_gr (k := 1) (s := 0) rfl rfl (by first | assumption | rfl) (by first | assumption | rfl) ?_
  refine w_Vi (k := 2) [] rfl rfl rfl (Nat.le_of_ble_eq_true rfl) (by first | assumption | rfl) (Or.inl ⟨rfl, rfl⟩) ?_
  refine (c_82 hr hA ?_)
  refine ⟨_, rfl, ?_⟩
  refine w_ic (k := 3) (x := nI 4) rfl (oi_nI 4) ?_
  refine w_addN (k := 4) rfl ?_
  refine wp_iload (k := 5) rfl rfl ?_
  refine w_Si (k := 6) [_] rfl rfl rfl (Nat.le_of_ble_eq_true rfl) (Or.inl ⟨rfl, rfl⟩) ?_
  refine (c_58 (by omega) ?_)
  refine ⟨_, rfl, ?_⟩
  refine w_addN (k := 7) rfl ?_
  refine w_ic (k := 8) (x := nI 20) rfl (oi_nI 20) ?_
  refine w_subN (k := 9) rfl (by omega) ?_
  refine wp_istore (k := 10) rfl rfl ?_
  refine wp_aload (k := 11) rfl rfl ?_
  refine w_gr (k := 12) (s := 0) rfl rfl (by first | assumption | rfl) (by first | assumption | rfl) ?_
  refine w_ic (k := 13) (x := nI 2) rfl (oi_nI 2) ?_
  refine wp_iload (k := 14) rfl rfl ?_
  refine w_ic (k := 15) (x := nI 8) rfl (oi_nI 8) ?_
  refine wp_ishr (k := 16) rfl ?_
  rw [i_shr (by omega) (by decide)]
  have u1 : (nI ((A.length + 4 + pad4 m - 20) / 2 ^ 8)).toBitVec.toNat % 256 = (A.length + 4 + pad4 m - 20) / 256 % 256 := by
    show uI (nI _) % 256 = _
    rw [uI_nI (by omega)]
  have u2 : (nI (A.length + 4 + pad4 m - 20)).toBitVec.toNat % 256 = (A.length + 4 + pad4 m - 20) % 256 := by
    show uI (nI _) % 256 = _
    rw [uI_nI (by omega)]
  refine w_Vv (k := 17) [_, _] rfl rfl rfl (Nat.le_of_ble_eq_true rfl) (by first | assumption | rfl) (Or.inl ⟨rfl, rfl⟩) ?_
  refine (c_85 hr hA (j := 2) (by omega) (fun I1 k1 f1 => ⟨rfl, ?_⟩))
  refine wp_aload (k := 18) rfl rfl ?_
  refine w_gr (k := 19) (s := 0) rfl rfl (by first | assumption | rfl) (by first | assumption | rfl) ?_
  refine w_ic (k := 20) (x := nI 3) rfl (oi_nI 3) ?_
  refine wp_iload (k := 21) rfl rfl ?_
  refine w_Vv (k := 22) [_, _] rfl rfl rfl (Nat.le_of_ble_eq_true rfl) (by first | assumption | rfl) (Or.inl ⟨rfl, rfl⟩) ?_
  refine (c_85 hr k1 (j := 3) (by simp; omega) (fun I2 k2 f2 => ⟨rfl, ?_⟩))
  rw [u1, u2, set_wr2 (by omega), ← be2] at k2
  have hl : (wr A 2 (be 2 (A.length + 4 + pad4 m - 20))).length = A.length := wr_in (by rw [be_len]; omega)
  refine wp_aload (k := 23) rfl rfl ?_
  refine w_gr (k := 24) (s := 0) rfl rfl (by first | assumption | rfl) (by first | assumption | rfl) ?_
  refine wp_iload (k := 25) rfl rfl ?_
  refine wp_i2l (k := 26) rfl ?_
  refine w_ic (k := 27) (x := nI 2) rfl (oi_nI 2) ?_
  refine w_Vv (k := 28) [_, _] rfl rfl rfl (Nat.le_of_ble_eq_true rfl) (by first | assumption | rfl) (Or.inl ⟨rfl, rfl⟩) ?_
  refine (c_87 hr k2 (by rw [hl]; omega) (by decide) (fun I3 k3 f3 => ⟨rfl, ?_⟩))
  refine wp_aload (k := 29) rfl rfl ?_
  refine w_gr (k := 30) (s := 0) rfl rfl (by first | assumption | rfl) (by first | assumption | rfl) ?_
  refine wp_iload (k := 31) rfl rfl ?_
  refine wp_i2l (k := 32) rfl ?_
  refine w_ic (k := 33) (x := nI 2) rfl (oi_nI 2) ?_
  refine w_Vv (k := 34) [_, _] rfl rfl rfl (Nat.le_of_ble_eq_true rfl) (by first | assumption | rfl) (Or.inl ⟨rfl, rfl⟩) ?_
  refine (c_87 hr k3 (by rw [List.length_append, hl, be_len]; omega) (by decide) (fun I4 k4 f4 => ⟨rfl, ?_⟩))
  refine w_rv (k := 35) rfl rfl rfl rfl ?_
  rw [be_i _ (by decide), be_i _ (by decide), uI_nI (by omega), List.append_assoc] at k4
  exact hq I4 k4 (fun y h1 h2 => by rw [f4 y h1 h2, f3 y h1 h2, f2 y h2, f1 y h2])
theorem c_64 (he : pn_at sh R e p) (hr : rw_at sh R p b n) (hA : rw_B I p b n A) {m : Nat} (hm : A.length + (pad4 m - m) ≤ n) (hm2 : m < 2 ^ 20) (hq : ∀ I', rw_B I' p b n (A ++ List.replicate (pad4 m - m) 0) → (∀ x, x ≠ p → x ≠ b → I' x = I x) → Q none (sh, I', L, R)) : am_call (d + 2) 64 [.ref e, .int (nI m)] (sh, I, L, R) Q := by
  obtain ⟨e1, e2, e3⟩ := he
  have r1 := hr.1
  have hp := pad4_ge m
  refine am_enter (ls := [some _, some _]) (cs := am_c64) rfl rfl (Nat.le_of_ble_eq_true rfl) rfl ?_
  refine wp_aload (k := 0) rfl rfl ?_
  refine w_gr (k := 1) (s := 0) rfl rfl (by first | assumption | rfl) (by first | assumption | rfl) ?_
  refine wp_iload (k := 2) rfl rfl ?_
  refine w_Si (k := 3) [_] rfl rfl rfl (Nat.le_of_ble_eq_true rfl) (Or.inl ⟨rfl, rfl⟩) ?_
  refine (c_58 (by omega) ?_)
  refine ⟨_, rfl, ?_⟩
  refine wp_iload (k := 4) rfl rfl ?_
  refine w_subN (k := 5) rfl (by omega) ?_
  refine w_Vv (k := 6) [_] rfl rfl rfl (Nat.le_of_ble_eq_true rfl) (by first | assumption | rfl) (Or.inl ⟨rfl, rfl⟩) ?_
  refine (c_88 hr hA hm (fun I1 k1 f1 => ⟨rfl, ?_⟩))
  refine w_rv (k := 7) rfl rfl rfl rfl ?_
  exact hq I1 k1 f1
theorem c_65 (he : pn_at sh R e p) (hr : rw_at sh R p b n) (hA : rw_B I p b n A) (h20 : 20 ≤ A.length) {kd : Int32} {v : Int64} {m : Nat} (hm8 : m ≤ 8) (hm : A.length + 4 + pad4 m ≤ n) (hq : ∀ I', rw_B I' p b n (at_ A (uI kd) (be m (uN v))) → (∀ x, x ≠ p → x ≠ b → I' x = I x) → Q none (sh, I', L, R)) : am_call (d + 3) 65 [.ref e, .int kd, .long v, .int (nI m)] (sh, I, L, R) Q := by
  obtain ⟨e1, e2, e3⟩ := id he
  have r1 := hr.1
  have hp := pad4_ge m
  refine am_enter (ls := [some _, some _, some _, none, some _]) (cs := am_c65) rfl rfl (Nat.le_of_ble_eq_true rfl) rfl ?_
  refine wp_aload (k := 0) rfl rfl ?_
  refine wp_iload (k := 1) rfl rfl ?_
  refine wp_iload (k := 2) rfl rfl ?_
  refine w_Vv (k := 3) [_, _] rfl rfl rfl (Nat.le_of_ble_eq_true rfl) (by first | assumption | rfl) (Or.inl ⟨rfl, rfl⟩) ?_
  refine (c_63 he hr hA h20 hm (fun I1 k1 f1 => ⟨rfl, ?_⟩))
  refine wp_aload (k := 4) rfl rfl ?_
  refine w_gr (k := 5) (s := 0) rfl rfl (by first | assumption | rfl) (by first | assumption | rfl) ?_
  refine wp_lload (k := 6) rfl rfl ?_
  refine wp_iload (k := 7) rfl rfl ?_
  refine w_Vv (k := 8) [_, _] rfl rfl rfl (Nat.le_of_ble_eq_true rfl) (by first | assumption | rfl) (Or.inl ⟨rfl, rfl⟩) ?_
  refine (c_87 hr k1 (by rw [hd_len (by omega)]; omega) hm8 (fun I2 k2 f2 => ⟨rfl, ?_⟩))
  refine wp_aload (k := 9) rfl rfl ?_
  refine wp_iload (k := 10) rfl rfl ?_
  refine w_Vv (k := 11) [_] rfl rfl rfl (Nat.le_of_ble_eq_true rfl) (by first | assumption | rfl) (Or.inl ⟨rfl, rfl⟩) ?_
  refine (c_64 he hr k2 (by rw [List.length_append, hd_len (by omega), be_len]; omega) (by omega) (fun I3 k3 f3 => ⟨rfl, ?_⟩))
  refine w_rv (k := 12) rfl rfl rfl rfl ?_
  refine hq I3 ?_ (fun y h1 h2 => by rw [f3 y h1 h2, f2 y h1 h2, f1 y h1 h2])
  unfold at_
  rw [be_len, ← List.append_assoc]
  exact k3
theorem c_66 (he : pn_at sh R e p) (hr : rw_at sh R p b n) (hA : rw_B I p b n A) (h20 : 20 ≤ A.length) {kd : Int32} {l1 l2 : List Nat} (h1 : l1.length ≤ 8) (h2 : l2.length ≤ 8) (hb1 : ∀ c ∈ l1, 0 < c ∧ c < 256) (hb2 : ∀ c ∈ l2, 0 < c ∧ c < 256) (hm : A.length + 4 + pad4 (l1.length + l2.length) ≤ n) (hq : ∀ I', rw_B I' p b n (at_ A (uI kd) (l1 ++ l2)) → (∀ x, x ≠ p → x ≠ b → I' x = I x) → Q none (sh, I', L, R)) : am_call (d + 4) 66 [.ref e, .int kd, .long (lN (vb 0 l1)), .long (lN (vb 0 l2))] (sh, I, L, R) Q := by
  obtain ⟨e1, e2, e3⟩ := id he
  have r1 := hr.1
  have hp := pad4_ge (l1.length + l2.length)
  have v1 := vb_lt l1 (fun c hc => (hb1 c hc).2)
  have v2 := vb_lt l2 (fun c hc => (hb2 c hc).2)
  have b1 : be l1.length (uN (lN (vb 0 l1))) = l1 := by
    rw [uN_lN (Nat.lt_of_lt_of_le v1 (Nat.le_trans (Nat.pow_le_pow_right (by decide) h1) (by decide))), be_vb l1 (fun c hc => (hb1 c hc).2)]
  have b2 : be l2.length (uN (lN (vb 0 l2))) = l2 := by
    rw [uN_lN (Nat.lt_of_lt_of_le v2 (Nat.le_trans (Nat.pow_le_pow_right (by decide) h2) (by decide))), be_vb l2 (fun c hc => (hb2 c hc).2)]
  refine am_enter (ls := [some _, some _, some _, none, some _, none, none]) (cs := am_c66) rfl rfl (Nat.le_of_ble_eq_true rfl) rfl ?_
  refine wp_lload (k := 0) rfl rfl ?_
  refine w_Si (k := 1) [_] rfl rfl rfl (Nat.le_of_ble_eq_true rfl) (Or.inl ⟨rfl, rfl⟩) ?_
  refine (c_125 h1 hb1 ?_)
  refine ⟨_, rfl, ?_⟩
  refine wp_lload (k := 2) rfl rfl ?_
  refine w_Si (k := 3) [_] rfl rfl rfl (Nat.le_of_ble_eq_true rfl) (Or.inl ⟨rfl, rfl⟩) ?_
  refine (c_125 h2 hb2 ?_)
  refine ⟨_, rfl, ?_⟩
  refine w_addN (k := 4) rfl ?_
  refine wp_istore (k := 5) rfl rfl ?_
  refine wp_aload (k := 6) rfl rfl ?_
  refine wp_iload (k := 7) rfl rfl ?_
  refine wp_iload (k := 8) rfl rfl ?_
  refine w_Vv (k := 9) [_, _] rfl rfl rfl (Nat.le_of_ble_eq_true rfl) (by first | assumption | rfl) (Or.inl ⟨rfl, rfl⟩) ?_
  refine (c_63 he hr hA h20 hm (fun I1 k1 f1 => ⟨rfl, ?_⟩))
  refine wp_aload (k := 10) rfl rfl ?_
  refine w_gr (k := 11) (s := 0) rfl rfl (by first | assumption | rfl) (by first | assumption | rfl) ?_
  refine wp_lload (k := 12) rfl rfl ?_
  refine wp_lload (k := 13) rfl rfl ?_
  refine w_Si (k := 14) [_] rfl rfl rfl (Nat.le_of_ble_eq_true rfl) (Or.inl ⟨rfl, rfl⟩) ?_
  refine (c_125 h1 hb1 ?_)
  refine ⟨_, rfl, ?_⟩
  refine w_Vv (k := 15) [_, _] rfl rfl rfl (Nat.le_of_ble_eq_true rfl) (by first | assumption | rfl) (Or.inl ⟨rfl, rfl⟩) ?_
  refine (c_87 hr k1 (by rw [hd_len (by omega)]; omega) h1 (fun I2 k2 f2 => ⟨rfl, ?_⟩))
  rw [b1] at k2
  refine wp_aload (k := 16) rfl rfl ?_
  refine w_gr (k := 17) (s := 0) rfl rfl (by first | assumption | rfl) (by first | assumption | rfl) ?_
  refine wp_lload (k := 18) rfl rfl ?_
  refine wp_lload (k := 19) rfl rfl ?_
  refine w_Si (k := 20) [_] rfl rfl rfl (Nat.le_of_ble_eq_true rfl) (Or.inl ⟨rfl, rfl⟩) ?_
  refine (c_125 h2 hb2 ?_)
  refine ⟨_, rfl, ?_⟩
  refine w_Vv (k := 21) [_, _] rfl rfl rfl (Nat.le_of_ble_eq_true rfl) (by first | assumption | rfl) (Or.inl ⟨rfl, rfl⟩) ?_
  refine (c_87 hr k2 (by rw [List.length_append, hd_len (by omega)]; omega) h2 (fun I3 k3 f3 => ⟨rfl, ?_⟩))
  rw [b2, List.append_assoc] at k3
  refine wp_aload (k := 22) rfl rfl ?_
  refine wp_iload (k := 23) rfl rfl ?_
  refine w_Vv (k := 24) [_] rfl rfl rfl (Nat.le_of_ble_eq_true rfl) (by first | assumption | rfl) (Or.inl ⟨rfl, rfl⟩) ?_
  refine (c_64 he hr k3 (by rw [List.length_append, hd_len (by omega), List.length_append]; omega) (by omega) (fun I4 k4 f4 => ⟨rfl, ?_⟩))
  refine w_rv (k := 25) rfl rfl rfl rfl ?_
  refine hq I4 ?_ (fun y h1 h2 => by rw [f4 y h1 h2, f3 y h1 h2, f2 y h1 h2, f1 y h1 h2])
  unfold at_
  rw [List.length_append, ← List.append_assoc (hd_ _ _ _)]
  exact k4
/-- the bytes of an address -/
def adr (ip port : Int32) : List Nat := be 2 1 ++ be 2 (uI (port ^^^ nI 8466)) ++ be 4 (uI (ip ^^^ nI 554869826))
theorem adr_len (ip port : Int32) : (adr ip port).length = 8 := by simp [adr, be_len]
theorem c_67 (he : pn_at sh R e p) (hr : rw_at sh R p b n) (hA : rw_B I p b n A) (h20 : 20 ≤ A.length) {kd ip port : Int32} (hm : A.length + 12 ≤ n) (hq : ∀ I', rw_B I' p b n (at_ A (uI kd) (adr ip port)) → (∀ x, x ≠ p → x ≠ b → I' x = I x) → Q none (sh, I', L, R)) : am_call (d + 3) 67 [.ref e, .int kd, .int ip, .int port] (sh, I, L, R) Q := by
  obtain ⟨e1, e2, e3⟩ := id he
  have r1 := hr.1
  have u1 : uN (lN 1) = 1 := rfl
  refine am_enter (ls := [some _, some _, some _, some _]) (cs := am_c67) rfl rfl (Nat.le_of_ble_eq_true rfl) rfl ?_
  refine wp_aload (k := 0) rfl rfl ?_
  refine wp_iload (k := 1) rfl rfl ?_
  refine w_ic (k := 2) (x := nI 8) rfl (oi_nI 8) ?_
  refine w_Vv (k := 3) [_, _] rfl rfl rfl (Nat.le_of_ble_eq_true rfl) (by first | assumption | rfl) (Or.inl ⟨rfl, rfl⟩) ?_
  refine (c_63 he hr hA h20 (m := 8) hm (fun I1 k1 f1 => ⟨rfl, ?_⟩))
  refine wp_aload (k := 4) rfl rfl ?_
  refine w_gr (k := 5) (s := 0) rfl rfl (by first | assumption | rfl) (by first | assumption | rfl) ?_
  refine w_lc (k := 6) (x := lN 1) rfl (ol_lN 1) ?_
  refine w_ic (k := 7) (x := nI 2) rfl (oi_nI 2) ?_
  refine w_Vv (k := 8) [_, _] rfl rfl rfl (Nat.le_of_ble_eq_true rfl) (by first | assumption | rfl) (Or.inl ⟨rfl, rfl⟩) ?_
  refine (c_87 hr k1 (by rw [hd_len (by omega)]; omega) (by decide) (fun I2 k2 f2 => ⟨rfl, ?_⟩))
  refine wp_aload (k := 9) rfl rfl ?_
  refine w_gr (k := 10) (s := 0) rfl rfl (by first | assumption | rfl) (by first | assumption | rfl) ?_
  refine wp_iload (k := 11) rfl rfl ?_
  refine w_ic (k := 12) (x := nI 8466) rfl (oi_nI 8466) ?_
  refine wp_ixor (k := 13) rfl ?_
  refine wp_i2l (k := 14) rfl ?_
  refine w_ic (k := 15) (x := nI 2) rfl (oi_nI 2) ?_
  refine w_Vv (k := 16) [_, _] rfl rfl rfl (Nat.le_of_ble_eq_true rfl) (by first | assumption | rfl) (Or.inl ⟨rfl, rfl⟩) ?_
  refine (c_87 hr k2 (by rw [List.length_append, hd_len (by omega), be_len]; omega) (by decide) (fun I3 k3 f3 => ⟨rfl, ?_⟩))
  refine wp_aload (k := 17) rfl rfl ?_
  refine w_gr (k := 18) (s := 0) rfl rfl (by first | assumption | rfl) (by first | assumption | rfl) ?_
  refine wp_iload (k := 19) rfl rfl ?_
  refine w_ic (k := 20) (x := nI 554869826) rfl (oi_nI 554869826) ?_
  refine wp_ixor (k := 21) rfl ?_
  refine wp_i2l (k := 22) rfl ?_
  refine w_ic (k := 23) (x := nI 4) rfl (oi_nI 4) ?_
  refine w_Vv (k := 24) [_, _] rfl rfl rfl (Nat.le_of_ble_eq_true rfl) (by first | assumption | rfl) (Or.inl ⟨rfl, rfl⟩) ?_
  refine (c_87 hr k3 (by simp only [List.length_append, hd_len (show 4 ≤ A.length by omega), be_len]; omega) (by decide) (fun I4 k4 f4 => ⟨rfl, ?_⟩))
  refine w_rv (k := 25) rfl rfl rfl rfl ?_
  rw [u1, be_i _ (by decide), be_i _ (by decide), List.append_assoc, List.append_assoc, ← List.append_assoc (be 2 1)] at k4
  refine hq I4 ?_ (fun y h1 h2 => by rw [f4 y h1 h2, f3 y h1 h2, f2 y h1 h2, f1 y h1 h2])
  unfold at_
  rw [adr_len, show pad4 8 - 8 = 0 from rfl, List.replicate_zero, List.append_nil]
  exact k4
/-- numbers of two bytes each -/
def twos (l : List Nat) : List Nat := l.flatMap (be 2)
theorem twos_len : ∀ l : List Nat, (twos l).length = 2 * l.length
  | [] => rfl
  | a :: l => by
    have := twos_len l
    simp only [twos, List.flatMap_cons, List.length_append, be_len, List.length_cons] at this ⊢
    omega
theorem twos_app (l m : List Nat) : twos (l ++ m) = twos l ++ twos m := by simp [twos]
theorem c_68 (he : pn_at sh R e p) (hr : rw_at sh R p b n) (hA : rw_B I p b n A) (h20 : 20 ≤ A.length) {a m : Nat} {K : List Nat} (ha : sh[a]? = some (50, m)) (hap : a ≠ p ∧ a ≠ b) (hK : K.length ≤ m ∧ m < 2 ^ 20) (hv : ∀ i, i < K.length → I a i = nI (K.getD i 0)) (hk : ∀ c ∈ K, c < 65536) (hm : A.length + 4 + pad4 (2 * K.length) ≤ n) (hq : ∀ I', rw_B I' p b n (at_ A 10 (twos K)) → (∀ x, x ≠ p → x ≠ b → I' x = I x) → Q none (sh, I', L, R)) : am_call (d + 3) 68 [.ref e, .ref a, .int (nI K.length)] (sh, I, L, R) Q := by
  obtain ⟨e1, e2, e3⟩ := id he
  have r1 := hr.1
  have hp := pad4_ge (2 * K.length)
  have hn : n < 1000 := hr.2.2.2.2
  refine am_enter (ls := [some _, some _, some _, none]) (cs := am_c68) rfl rfl (Nat.le_of_ble_eq_true rfl) rfl ?_
  refine wp_aload (k := 0) rfl rfl ?_
  refine w_ic (k := 1) (x := nI 10) rfl (oi_nI 10) ?_
  refine w_ic (k := 2) (x := nI 2) rfl (oi_nI 2) ?_
  refine wp_iload (k := 3) rfl rfl ?_
  refine w_mulN (k := 4) rfl ?_
  refine w_Vv (k := 5) [_, _] rfl rfl rfl (Nat.le_of_ble_eq_true rfl) (by first | assumption | rfl) (Or.inl ⟨rfl, rfl⟩) ?_
  refine (c_63 he hr hA h20 hm (fun I1 k1 f1 => ⟨rfl, ?_⟩))
  have loop : ∀ (r i : Nat) (I2 : Nat → Nat → Int32), i + r = K.length → rw_B I2 p b n (hd_ A 10 (2 * K.length) ++ twos (K.take i)) → (∀ x, x ≠ p → x ≠ b → I2 x = I x) → am_V 68 am_c68 (d + 2) sh Q 8 [some (.ref e), some (.ref a), some (.int (nI K.length)), some (.int (nI i))] [] (sh, I2, L, R) := by
    intro r
    induction r with
    | zero =>
      intro i I2 hi k2 f2
      rw [List.take_of_length_le (by omega)] at k2
      refine wp_iload (k := 8) rfl rfl ?_
      refine wp_iload (k := 9) rfl rfl ?_
      refine w_n_ge (k := 10) (t' := 25) rfl rfl (by omega) (fun q => ?_) (fun q => absurd q (by omega))
      refine wp_aload (k := 25) rfl rfl ?_
      refine w_ic (k := 26) (x := nI 2) rfl (oi_nI 2) ?_
      refine wp_iload (k := 27) rfl rfl ?_
      refine w_mulN (k := 28) rfl ?_
      refine w_Vv (k := 29) [_] rfl rfl rfl (Nat.le_of_ble_eq_true rfl) (by first | assumption | rfl) (Or.inl ⟨rfl, rfl⟩) ?_
      refine (c_64 he hr k2 (by rw [List.length_append, hd_len (by omega), twos_len]; omega) (by omega) (fun I3 k3 f3 => ⟨rfl, ?_⟩))
      refine w_rv (k := 30) rfl rfl rfl rfl ?_
      refine hq I3 ?_ (fun y h1 h2 => by rw [f3 y h1 h2, f2 y h1 h2])
      unfold at_
      rw [twos_len, ← List.append_assoc]
      exact k3
    | succ r ih =>
      intro i I2 hi k2 f2
      have hx : I2 a i = nI (K.getD i 0) := by rw [f2 a hap.1 hap.2]; exact hv i (by omega)
      have hc : K.getD i 0 < 65536 := by
        rw [List.getD_eq_getElem?_getD, List.getElem?_eq_getElem (by omega)]
        exact hk _ (List.getElem_mem _)
      have hlt : (K.take i).length = i := by simp; omega
      refine wp_iload (k := 8) rfl rfl ?_
      refine wp_iload (k := 9) rfl rfl ?_
      refine w_n_ge (k := 10) (t' := 25) rfl rfl (by omega) (fun q => absurd q (by omega)) (fun q => ?_)
      refine wp_iload (k := 11) rfl rfl ?_
      refine wp_aload (k := 12) rfl rfl ?_
      refine w_alen (k := 13) rfl (by first | assumption | rfl) (by decide) ?_
      refine w_n_ge (k := 14) (t' := 25) rfl rfl (by omega) (fun q => absurd q (by omega)) (fun q => ?_)
      refine wp_aload (k := 15) rfl rfl ?_
      refine w_gr (k := 16) (s := 0) rfl rfl (by first | assumption | rfl) (by first | assumption | rfl) ?_
      refine wp_aload (k := 17) rfl rfl ?_
      refine wp_iload (k := 18) rfl rfl ?_
      refine w_iald (k := 19) rfl rfl (by first | assumption | rfl) (by omega) hx ?_
      refine wp_i2l (k := 20) rfl ?_
      refine w_ic (k := 21) (x := nI 2) rfl (oi_nI 2) ?_
      refine w_Vv (k := 22) [_, _] rfl rfl rfl (Nat.le_of_ble_eq_true rfl) (by first | assumption | rfl) (Or.inl ⟨rfl, rfl⟩) ?_
      refine (c_87 hr k2 (by rw [List.length_append, hd_len (by omega), twos_len, hlt]; omega) (by decide) (fun I3 k3 f3 => ⟨rfl, ?_⟩))
      refine w_incN (k := 23) (m := 1) rfl (oi_nI 1) rfl ?_
      refine w_goto (k := 24) (t' := 8) rfl rfl ?_
      refine ih (i + 1) I3 (by omega) ?_ (fun y h1 h2 => by rw [f3 y h1 h2, f2 y h1 h2])
      rw [be_i _ (by decide), uI_nI (by omega), List.append_assoc] at k3
      have e5 : twos (K.take (i + 1)) = twos (K.take i) ++ be 2 (K.getD i 0) := by
        rw [List.take_add_one, twos_app, List.getD_eq_getElem?_getD, List.getElem?_eq_getElem (by omega)]
        simp [twos]
      rw [e5]
      exact k3
  refine w_ic (k := 6) (x := nI 0) rfl (oi_nI 0) ?_
  refine wp_istore (k := 7) rfl rfl ?_
  refine loop K.length 0 I1 (by omega) ?_ f1
  rw [List.take_zero]
  simpa [twos, show uI (nI 10) = 10 from rfl] using k1
theorem c_69 (he : pn_at sh R e p) (hr : rw_at sh R p b n) (hA : rw_B I p b n A) (h20 : 20 ≤ A.length) {p2 b2 n2 : Nat} {D : List Nat} (hr2 : rw_at sh R p2 b2 n2) (hD : rw_B I p2 b2 n2 D) (hne : p2 ≠ p ∧ p2 ≠ b ∧ b2 ≠ p ∧ b2 ≠ b) (hm : A.length + 4 + pad4 D.length ≤ n) (hq : ∀ I', rw_B I' p b n (at_ A 19 D) → (∀ x, x ≠ p → x ≠ b → I' x = I x) → Q none (sh, I', L, R)) : am_call (d + 3) 69 [.ref e, .ref p2] (sh, I, L, R) Q := by
  obtain ⟨e1, e2, e3⟩ := id he
  have s1 := hr2.1
  have r1 := hr.1
  have hp := pad4_ge D.length
  have hn : n < 1000 := hr.2.2.2.2
  refine am_enter (ls := [some _, some _]) (cs := am_c69) rfl rfl (Nat.le_of_ble_eq_true rfl) rfl ?_
  refine wp_aload (k := 0) rfl rfl ?_
  refine w_ic (k := 1) (x := nI 19) rfl (oi_nI 19) ?_
  refine wp_aload (k := 2) rfl rfl ?_
  refine w_Vi (k := 3) [] rfl rfl rfl (Nat.le_of_ble_eq_true rfl) (by first | assumption | rfl) (Or.inl ⟨rfl, rfl⟩) ?_
  refine (c_82 hr2 hD ?_)
  refine ⟨_, rfl, ?_⟩
  refine w_Vv (k := 4) [_, _] rfl rfl rfl (Nat.le_of_ble_eq_true rfl) (by first | assumption | rfl) (Or.inl ⟨rfl, rfl⟩) ?_
  refine (c_63 he hr hA h20 hm (fun I1 k1 f1 => ⟨rfl, ?_⟩))
  have hD1 := rw_keep hD (f1 p2 hne.1 hne.2.1) (f1 b2 hne.2.2.1 hne.2.2.2)
  refine wp_aload (k := 5) rfl rfl ?_
  refine w_gr (k := 6) (s := 0) rfl rfl (by first | assumption | rfl) (by first | assumption | rfl) ?_
  refine wp_aload (k := 7) rfl rfl ?_
  refine w_ic (k := 8) (x := nI 0) rfl (oi_nI 0) ?_
  refine wp_aload (k := 9) rfl rfl ?_
  refine w_Vi (k := 10) [] rfl rfl rfl (Nat.le_of_ble_eq_true rfl) (by first | assumption | rfl) (Or.inl ⟨rfl, rfl⟩) ?_
  refine (c_82 hr2 hD1 ?_)
  refine ⟨_, rfl, ?_⟩
  refine w_Vv (k := 11) [_, _, _] rfl rfl rfl (Nat.le_of_ble_eq_true rfl) (by first | assumption | rfl) (Or.inl ⟨rfl, rfl⟩) ?_
  refine (c_89 hr k1 hr2 hD1 (s := 0) (by omega) (by rw [hd_len (by omega)]; omega) (fun I2 k2 f2 => ⟨rfl, ?_⟩))
  rw [List.drop_zero, List.take_length] at k2
  have hD2 := rw_keep hD1 (f2 p2 hne.1 hne.2.1) (f2 b2 hne.2.2.1 hne.2.2.2)
  refine wp_aload (k := 12) rfl rfl ?_
  refine wp_aload (k := 13) rfl rfl ?_
  refine w_Vi (k := 14) [] rfl rfl rfl (Nat.le_of_ble_eq_true rfl) (by first | assumption | rfl) (Or.inl ⟨rfl, rfl⟩) ?_
  refine (c_82 hr2 hD2 ?_)
  refine ⟨_, rfl, ?_⟩
  refine w_Vv (k := 15) [_] rfl rfl rfl (Nat.le_of_ble_eq_true rfl) (by first | assumption | rfl) (Or.inl ⟨rfl, rfl⟩) ?_
  refine (c_64 he hr k2 (by rw [List.length_append, hd_len (by omega)]; omega) (by omega) (fun I3 k3 f3 => ⟨rfl, ?_⟩))
  refine w_rv (k := 16) rfl rfl rfl rfl ?_
  refine hq I3 ?_ (fun y h1 h2 => by rw [f3 y h1 h2, f2 y h1 h2, f1 y h1 h2])
  unfold at_
  rw [← List.append_assoc]
  exact k3
end PEN
