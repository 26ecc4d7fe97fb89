/-! ===== CRC-32 by bits and by nibbles; the reference's sign and finger ===== -/
def mm_ (b : Bool) : Int32 := if b then -306674912 else 0
def bsx (c : Int32) : Int32 := sr c 1 ^^^ mm_ (bt c 0)
theorem bt_sr (x : Int32) {n : Nat} (hn : n < 32) (i : Nat) : bt (sr x n) i = bt x (n + i) := b_ushr n hn x i
theorem sr_xor (x y : Int32) {n : Nat} (hn : n < 32) : sr (x ^^^ y) n = sr x n ^^^ sr y n := by
  apply b_ext
  intro i _
  rw [b_xor, bt_sr _ hn, bt_sr _ hn, bt_sr _ hn, b_xor]
theorem sr_sr (x : Int32) {a b : Nat} (h : a + b < 32) : sr (sr x a) b = sr x (a + b) := by
  apply b_ext
  intro i _
  rw [bt_sr _ (by omega), bt_sr _ (by omega), bt_sr _ h, Nat.add_assoc]
theorem bt_mm (b : Bool) : ∀ i, i < 4 → bt (mm_ b) i = false := by cases b <;> decide
theorem kN_bits : ∀ n, n < 16 → kN n = sr (mm_ (n.testBit 0)) 3 ^^^ sr (mm_ (n.testBit 1)) 2 ^^^ sr (mm_ (n.testBit 2)) 1 ^^^ mm_ (n.testBit 3) := by decide +kernel
theorem bsx4 (c : Int32) : bsx (bsx (bsx (bsx c))) = nib c := by
  have h2 : bsx (bsx c) = sr c 2 ^^^ sr (mm_ (bt c 0)) 1 ^^^ mm_ (bt c 1) := by
    have e : bt (bsx c) 0 = bt c 1 := by
      unfold bsx
      rw [b_xor, bt_sr _ (by decide), bt_mm _ 0 (by decide), Bool.xor_false]
    show sr (bsx c) 1 ^^^ mm_ (bt (bsx c) 0) = _
    rw [e]
    unfold bsx
    rw [sr_xor _ _ (by decide), sr_sr _ (by decide)]
  have h3 : bsx (bsx (bsx c)) = sr c 3 ^^^ sr (mm_ (bt c 0)) 2 ^^^ sr (mm_ (bt c 1)) 1 ^^^ mm_ (bt c 2) := by
    rw [h2]
    have e : bt (sr c 2 ^^^ sr (mm_ (bt c 0)) 1 ^^^ mm_ (bt c 1)) 0 = bt c 2 := by
      rw [b_xor, b_xor, bt_sr _ (by decide), bt_sr _ (by decide), bt_mm _ _ (by decide), bt_mm _ 0 (by decide), Bool.xor_false, Bool.xor_false]
    unfold bsx
    rw [e, sr_xor _ _ (by decide), sr_xor _ _ (by decide), sr_sr _ (by decide), sr_sr _ (by decide)]
  have h4 : bsx (bsx (bsx (bsx c))) = sr c 4 ^^^ sr (mm_ (bt c 0)) 3 ^^^ sr (mm_ (bt c 1)) 2 ^^^ sr (mm_ (bt c 2)) 1 ^^^ mm_ (bt c 3) := by
    rw [h3]
    have e : bt (sr c 3 ^^^ sr (mm_ (bt c 0)) 2 ^^^ sr (mm_ (bt c 1)) 1 ^^^ mm_ (bt c 2)) 0 = bt c 3 := by
      rw [b_xor, b_xor, b_xor, bt_sr _ (by decide), bt_sr _ (by decide), bt_sr _ (by decide), bt_mm _ _ (by decide), bt_mm _ _ (by decide), bt_mm _ 0 (by decide), Bool.xor_false, Bool.xor_false, Bool.xor_false]
    unfold bsx
    rw [e, sr_xor _ _ (by decide), sr_xor _ _ (by decide), sr_xor _ _ (by decide), sr_sr _ (by decide), sr_sr _ (by decide), sr_sr _ (by decide)]
  rw [h4]
  unfold nib
  have hb : ∀ i, i < 4 → (uI c % 16).testBit i = bt c i := by
    intro i hi
    rw [show (16 : Nat) = 2 ^ 4 from rfl, Nat.testBit_mod_two_pow, bt_uI]
    simp [hi]
  rw [kN_bits _ (Nat.mod_lt _ (by decide)), hb 0 (by decide), hb 1 (by decide), hb 2 (by decide), hb 3 (by decide)]
  simp only [Int32.xor_assoc]
def bsn : Nat → Int32 → Int32
  | 0, c => c
  | n + 1, c => bsn n (bsx c)
theorem bsn8 (c : Int32) : bsn 8 c = nib (nib c) := by
  show bsx (bsx (bsx (bsx (bsx (bsx (bsx (bsx c))))))) = _
  rw [bsx4, bsx4]
theorem and1 (c : Int32) : (c &&& nI 1 = nI 1) ↔ bt c 0 = true := by
  have e : c &&& nI 1 = nI (uI c % 2) := pk_and c 1 rfl
  rw [e, bt_uI, Nat.testBit_zero, nI_eq (by omega) (by decide)]
  simp
theorem wr_same {A xs ys : List Nat} {s : Nat} (h : s ≤ A.length) (hl : xs.length = ys.length) : wr (wr A s xs) s ys = wr A s ys := by
  apply gd_ext
  · rw [wr_len (by rw [wr_len h]; omega), wr_len h, wr_len h]; omega
  · intro i hi
    rw [wr_getD (by rw [wr_len h]; omega), wr_getD h, wr_getD h]
    by_cases h1 : i < s
    · rw [if_pos h1, if_pos h1, if_pos h1]
    · rw [if_neg h1, if_neg h1, if_neg h1]
      by_cases h2 : i < s + ys.length
      · rw [if_pos h2, if_pos h2]
      · rw [if_neg h2, if_neg h2, if_neg (by omega)]
section MPR
variable {d N : Nat} {I : Nat → Nat → Int32} {L : Nat → Nat → Int64} {w : Option Nat} {Q : am_Q}
theorem c_178 {A : List Nat} {a n m : Nat} (ha : (am_SH N)[a]? = some (50, m)) (hm : m < 1000) (hA : av I a A) (hn : n ≤ A.length ∧ A.length ≤ m) (hq : Q (some (.int (fp (A.take n)))) (am_SH N, I, L, am_RR w)) : am_call (d + 1) 178 [.ref a, .int (nI n)] (am_SH N, I, L, am_RR w) Q := by
  have inn : ∀ (r j i : Nat) (c : Int32), j + r = 8 → i < n → (∀ o, am_V 178 am_c178 d (am_SH N) Q 35 [some (.ref a), some (.int (nI n)), some (.int (bsn r c)), some (.int (nI i)), o] [] (am_SH N, I, L, am_RR w)) → am_V 178 am_c178 d (am_SH N) Q 15 [some (.ref a), some (.int (nI n)), some (.int c), some (.int (nI i)), some (.int (nI j))] [] (am_SH N, I, L, am_RR w) := by
    intro r
    induction r with
    | zero =>
      intro j i c hj hi hc
      refine wp_iload (k := 15) rfl rfl ?_
      refine w_ic (k := 16) (x := nI 8) rfl (oi_nI 8) ?_
      refine w_n_ge (k := 17) (t' := 35) rfl rfl (by omega) (fun q => ?_) (fun q => absurd q (by omega))
      exact hc _
    | succ r ih =>
      intro j i c hj hi hc
      have e1 : bsn r (sr c 1 ^^^ mm_ (bt c 0)) = bsn (r + 1) c := rfl
      refine wp_iload (k := 15) rfl rfl ?_
      refine w_ic (k := 16) (x := nI 8) rfl (oi_nI 8) ?_
      refine w_n_ge (k := 17) (t' := 35) rfl rfl (by omega) (fun q => absurd q (by omega)) (fun q => ?_)
      refine wp_iload (k := 18) rfl rfl ?_
      refine w_ic (k := 19) (x := nI 1) rfl (oi_nI 1) ?_
      refine wp_iand (k := 20) rfl ?_
      refine w_ic (k := 21) (x := nI 1) rfl (oi_nI 1) ?_
      refine w_c_ne (k := 22) (t' := 29) rfl rfl (fun k => ?_) (fun k => ?_)
      · have kb : bt c 0 = false := by
          cases h : bt c 0 with
          | false => rfl
          | true => exact absurd ((and1 c).mpr h) k
        have e2 : sr c 1 = sr c 1 ^^^ mm_ (bt c 0) := by rw [kb]; show _ = sr c 1 ^^^ 0; rw [Int32.xor_zero]
        refine wp_iload (k := 29) rfl rfl ?_
        refine w_ic (k := 30) (x := nI 1) rfl (oi_nI 1) ?_
        refine wp_iushr (k := 31) rfl ?_
        refine w_eqi (y := (sr c 1)) rfl ?_
        refine wp_istore (k := 32) rfl rfl ?_
        refine w_incN (k := 33) (m := 1) rfl (oi_nI 1) rfl ?_
        refine w_goto (k := 34) (t' := 15) rfl rfl ?_
        rw [e2]
        exact ih (j + 1) i _ (by omega) hi hc
      · have kb := (and1 c).mp k
        have e2 : sr c 1 ^^^ (-306674912) = sr c 1 ^^^ mm_ (bt c 0) := by rw [kb]; rfl
        refine wp_iload (k := 23) rfl rfl ?_
        refine w_ic (k := 24) (x := nI 1) rfl (oi_nI 1) ?_
        refine wp_iushr (k := 25) rfl ?_
        refine w_ic (k := 26) (x := (-306674912)) rfl (by decide) ?_
        refine wp_ixor (k := 27) rfl ?_
        refine w_goto (k := 28) (t' := 32) rfl rfl ?_
        refine w_eqi (y := (sr c 1 ^^^ (-306674912))) rfl ?_
        refine wp_istore (k := 32) rfl rfl ?_
        refine w_incN (k := 33) (m := 1) rfl (oi_nI 1) rfl ?_
        refine w_goto (k := 34) (t' := 15) rfl rfl ?_
        rw [e2]
        exact ih (j + 1) i _ (by omega) hi hc
  have loop : ∀ (r i : Nat) (o : Option Value), i + r = n → am_V 178 am_c178 d (am_SH N) Q 4 [some (.ref a), some (.int (nI n)), some (.int (crcL (-1) (A.take i))), some (.int (nI i)), o] [] (am_SH N, I, L, am_RR w) := by
    intro r
    induction r with
    | zero =>
      intro i o hi
      obtain rfl : i = n := by omega
      refine wp_iload (k := 4) rfl rfl ?_
      refine wp_iload (k := 5) rfl rfl ?_
      refine w_n_ge (k := 6) (t' := 37) rfl rfl (by omega) (fun q => ?_) (fun q => absurd q (by omega))
      refine wp_iload (k := 37) rfl rfl ?_
      refine w_ic (k := 38) (x := (-1)) rfl (by decide) ?_
      refine wp_ixor (k := 39) rfl ?_
      refine w_ic (k := 40) (x := nI 1398035790) rfl (oi_nI 1398035790) ?_
      refine wp_ixor (k := 41) rfl ?_
      refine w_ri (k := 42) rfl rfl rfl rfl ?_
      exact hq
    | succ r ih =>
      intro i o hi
      refine wp_iload (k := 4) rfl rfl ?_
      refine wp_iload (k := 5) rfl rfl ?_
      refine w_n_ge (k := 6) (t' := 37) rfl rfl (by omega) (fun q => absurd q (by omega)) (fun q => ?_)
      refine wp_iload (k := 7) rfl rfl ?_
      refine wp_aload (k := 8) rfl rfl ?_
      refine wp_iload (k := 9) rfl rfl ?_
      refine w_iald (k := 10) rfl rfl (by first | assumption | rfl) (by omega) (hA.1 i (by omega)) ?_
      refine wp_ixor (k := 11) rfl ?_
      refine wp_istore (k := 12) rfl rfl ?_
      refine w_ic (k := 13) (x := nI 0) rfl (oi_nI 0) ?_
      refine wp_istore (k := 14) rfl rfl ?_
      refine inn 8 0 i _ (by omega) (by omega) (fun o => ?_)
      rw [bsn8]
      refine w_incN (k := 35) (m := 1) rfl (oi_nI 1) rfl ?_
      refine w_goto (k := 36) (t' := 4) rfl rfl ?_
      have e : nib (nib (crcL (-1) (A.take i) ^^^ nI (A.getD i 0))) = crcL (-1) (A.take (i + 1)) := by
        rw [← tk_app (by omega)]
        unfold crcL
        rw [List.foldl_append]
        rfl
      rw [e]
      exact ih (i + 1) _ (by omega)
  refine am_enter (ls := [some _, some _, none, none, none]) (cs := am_c178) rfl rfl (Nat.le_of_ble_eq_true rfl) rfl ?_
  refine w_ic (k := 0) (x := (-1)) rfl (by decide) ?_
  refine wp_istore (k := 1) rfl rfl ?_
  refine w_ic (k := 2) (x := nI 0) rfl (oi_nI 0) ?_
  refine wp_istore (k := 3) rfl rfl ?_
  exact loop n 0 none (by omega)
theorem hd_take {A : List Nat} {kd m : Nat} (h : 4 ≤ A.length) : (hd_ A kd m ++ List.replicate (pad4 m) 0).take A.length = wr A 2 (be 2 (A.length + 4 + pad4 m - 20)) := by
  have hw : (wr A 2 (be 2 (A.length + 4 + pad4 m - 20))).length = A.length := wr_in (by rw [be_len]; omega)
  unfold hd_
  rw [List.append_assoc, List.take_append_of_le_length (by omega), List.take_of_length_le (by omega)]
theorem c_194 {A rl : List Nat} (hA : mT I A) (hk : mk I) (hr : mr I rl) (hrl : wd rl) {u p : Int64} (hq : ∀ I' L', mT I' ((sp_sign A rl u p).getD A) → mk I' → fx [103, 104, 105, 108, 109, 110, 111, 112, 114] [0, 6, 15, 23] I I' → fl [7] L L' → Q (some (.int (rs (sp_sign A rl u p)))) (am_SH N, I', L', am_RR w)) : am_call (d + 6) 194 [.ref 100, .long u, .long p] (am_SH N, I, L, am_RR w) Q := by
  have no : ∀ ls I1, mT I1 A → mk I1 → fx [103, 104, 105, 108, 109, 110, 111, 112, 114] [0, 6, 15, 23] I I1 → (isW u && isW p && tk A (nI 28) 32 400) = false → am_V 194 am_c194 (d + 5) (am_SH N) Q 16 ls [] (am_SH N, I1, L, am_RR w) := by
    intro ls I1 h1 m1 f1 h
    unfold sp_sign at hq
    rw [if_neg (by rw [h]; decide)] at hq
    refine w_ic (k := 16) (x := (-1)) rfl (by decide) ?_
    refine w_ri (k := 17) rfl rfl rfl rfl ?_
    exact hq I1 L h1 m1 f1 fl_rf
  refine am_enter (ls := [some _, some _, none, some _, none, none]) (cs := am_c194) rfl rfl (Nat.le_of_ble_eq_true rfl) rfl ?_
  refine wp_aload (k := 0) rfl rfl ?_
  refine w_ic (k := 1) (x := nI 0) rfl (oi_nI 0) ?_
  refine w_pi (k := 2) (s := 0) rfl rfl (by first | assumption | rfl) ?_
  refine wp_aload (k := 3) rfl rfl ?_
  refine wp_lload (k := 4) rfl rfl ?_
  refine w_Vi (k := 5) [_] rfl rfl rfl (Nat.le_of_ble_eq_true rfl) (by first | assumption | rfl) (Or.inl ⟨rfl, rfl⟩) ?_
  refine (c_193 (fun I1 l1 e1 e2 => ⟨_, rfl, ?_⟩))
  have f1 : fx [103, 104, 105, 108, 109, 110, 111, 112, 114] [0, 6, 15, 23] I I1 := fx_t (fx_s (s := 0) (v := nI 0) (by decide)) ⟨fun x h hx => e1 x h (fun q => hx (by rw [q]; decide)), fun s hs => e2 s (fun q => hs (by rw [q]; decide))⟩
  have g1 : fx [114] [0, 23] I I1 := fx_t (fx_s (s := 0) (v := nI 0) (by decide)) ⟨fun x h hx => e1 x h (fun q => hx (by rw [q]; decide)), fun s hs => e2 s (fun q => hs (by rw [q]; decide))⟩
  have A1 := mT_k hA g1 (by decide) (by decide)
  have k1 := mk_k hk (g1.1 101 (by decide) (by decide)) (g1.1 102 (by decide) (by decide))
  refine w_b_eq (k := 6) (t' := 16) rfl rfl (fun c1 => ?_) (fun c1 => ?_)
  · exact no _ I1 A1 k1 f1 (by rw [c1]; rfl)
  · refine wp_aload (k := 7) rfl rfl ?_
    refine wp_lload (k := 8) rfl rfl ?_
    refine w_Vi (k := 9) [_] rfl rfl rfl (Nat.le_of_ble_eq_true rfl) (by first | assumption | rfl) (Or.inl ⟨rfl, rfl⟩) ?_
    refine (c_193 (fun I2 l2 e3 e4 => ⟨_, rfl, ?_⟩))
    have g2 : fx [114] [0, 23] I I2 := fx_t g1 ⟨fun x h hx => e3 x h (fun q => hx (by rw [q]; decide)), fun s hs => e4 s (fun q => hs (by rw [q]; decide))⟩
    have f2 : fx [103, 104, 105, 108, 109, 110, 111, 112, 114] [0, 6, 15, 23] I I2 := fx_mo g2 (by decide) (by decide)
    have A2 := mT_k hA g2 (by decide) (by decide)
    have k2 := mk_k hk (g2.1 101 (by decide) (by decide)) (g2.1 102 (by decide) (by decide))
    refine w_b_eq (k := 10) (t' := 16) rfl rfl (fun c2 => ?_) (fun c2 => ?_)
    · exact no _ I2 A2 k2 f2 (by rw [c1, c2]; rfl)
    · refine wp_aload (k := 11) rfl rfl ?_
      refine w_ic (k := 12) (x := nI 28) rfl (oi_nI 28) ?_
      refine w_ic (k := 13) (x := nI 32) rfl (oi_nI 32) ?_
      refine w_Vi (k := 14) [_, _] rfl rfl rfl (Nat.le_of_ble_eq_true rfl) (by first | assumption | rfl) (Or.inl ⟨rfl, rfl⟩) ?_
      refine (c_186 A2 (m := 32) (by decide) (fun hf => ⟨_, rfl, ?_⟩) (fun ht I3 h3 f3 => ⟨_, rfl, ?_⟩))
      · refine w_b_ne (k := 15) (t' := 18) rfl rfl (fun q => absurd (q.symm.trans rfl) (by decide)) (fun q => ?_)
        exact no _ I2 A2 k2 f2 (by rw [hf]; simp)
      · unfold sp_sign at hq
        rw [if_pos (by rw [c1, c2, ht]; rfl)] at hq
        simp only [Option.getD_some, rs_s] at hq
        obtain ⟨t1, t2⟩ := tk_room ht
        have t2 : A.length + 4 + 32 ≤ 400 := t2
        obtain ⟨i1, i2, i3⟩ := h3
        rw [hz_len t1, show pad4 32 = 32 from rfl] at i1
        have k3 := mk_k k2 (f3.1 101 (by decide) (by decide)) (f3.1 102 (by decide) (by decide))
        have r3 : mr I3 rl := ⟨by rw [f3.2 28 (by decide), g2.2 28 (by decide)]; exact hr.1, av_keep hr.2 (by rw [f3.1 117 (by decide) (by decide), g2.1 117 (by decide) (by decide)])⟩
        refine w_b_ne (k := 15) (t' := 18) rfl rfl (fun q => ?_) (fun q => absurd (q.symm.trans rfl) (by decide))
        refine wp_aload (k := 18) rfl rfl ?_
        refine wp_lload (k := 19) rfl rfl ?_
        refine wp_lload (k := 20) rfl rfl ?_
        refine w_Vv (k := 21) [_, _] rfl rfl rfl (Nat.le_of_ble_eq_true rfl) (by first | assumption | rfl) (Or.inl ⟨rfl, rfl⟩) ?_
        refine (c_176 k3 r3 hrl (fun I4 L4 h4 k4 f4 g4 => ⟨rfl, ?_⟩))
        have s4 : I4 100 15 = nI (A.length + 4 + 32) := by rw [f4.2 15 (by decide)]; exact i1
        have a4 := av_keep i2 (f4.1 112 (by decide) (by decide))
        refine wp_aload (k := 22) rfl rfl ?_
        refine wp_aload (k := 23) rfl rfl ?_
        refine w_gr (k := 24) (s := 14) rfl rfl (by first | assumption | rfl) (by first | assumption | rfl) ?_
        refine wp_aload (k := 25) rfl rfl ?_
        refine w_gi (k := 26) (s := 15) rfl rfl (by first | assumption | rfl) (by first | assumption | rfl) ?_
        refine w_ic (k := 27) (x := nI 36) rfl (oi_nI 36) ?_
        refine w_subN (k := 28) rfl (by omega) ?_
        rw [show A.length + 4 + 32 - 36 = A.length by omega]
        refine w_Vv (k := 29) [_, _] rfl rfl rfl (Nat.le_of_ble_eq_true rfl) (by first | assumption | rfl) (Or.inl ⟨rfl, rfl⟩) ?_
        refine (c_177 k4 h4 (sha_len _) (a := 112) (m := 400) rfl (by decide) (Or.inl rfl) a4 ⟨t1, by rw [hz_len t1]; omega, by rw [hz_len t1]; exact t2⟩ (fun I5 L5 h5 k5 f5 g5 => ⟨rfl, ?_⟩))
        have e5 : mcy (ky (nz 8 (uN u)) rl (nz 8 (uN p))) ((hd_ A (uI (nI 28)) 32 ++ List.replicate (pad4 32) 0).take A.length) = mcy (ky (nz 8 (uN u)) rl (nz 8 (uN p))) A := by
          rw [hd_take (by omega)]
          unfold mcy
          rw [wr_in (by rw [be_len]; omega), wr_same (by omega) (by rw [be_len, be_len])]
        rw [e5] at h5
        have s5 : I5 100 15 = nI (A.length + 4 + 32) := by rw [f5.2 15 (by decide)]; exact s4
        have a5 := av_keep a4 (f5.1 112 (by decide) (by decide))
        have hX : A.length + 4 ≤ (hd_ A (uI (nI 28)) 32 ++ List.replicate (pad4 32) 0).length := by rw [hz_len t1]; omega
        generalize hD : mcy (ky (nz 8 (uN u)) rl (nz 8 (uN p))) A = D at *
        have hDl : D.length = 32 := by rw [← hD]; exact mcy_len _ _
        have hl : (at_ A 28 D).length = A.length + 4 + 32 := by rw [at_len (by omega), hDl]; rfl
        have loop : ∀ (r i : Nat) (I6 : Nat → Nat → Int32), i + r = 32 → av I6 112 (wr (hd_ A (uI (nI 28)) 32 ++ List.replicate (pad4 32) 0) (A.length + 4) (D.take i)) → (∀ x, x ≠ 112 → I6 x = I5 x) → am_V 194 am_c194 (d + 5) (am_SH N) Q 32 [some (.ref 100), some (.long u), none, some (.long p), none, some (.int (nI i))] [] (am_SH N, I6, L5, am_RR w) := by
          intro r
          induction r with
          | zero =>
            intro i I6 hi a6 f6
            rw [List.take_of_length_le (by omega), at_fill (by omega) hDl] at a6
            have s6 : I6 100 15 = nI (A.length + 4 + 32) := by rw [f6 100 (by decide)]; exact s5
            rw [hl] at hq
            refine wp_iload (k := 32) rfl rfl ?_
            refine w_ic (k := 33) (x := nI 32) rfl (oi_nI 32) ?_
            refine w_n_ge (k := 34) (t' := 50) rfl rfl (by omega) (fun q => ?_) (fun q => absurd q (by omega))
            refine wp_aload (k := 50) rfl rfl ?_
            refine w_gi (k := 51) (s := 15) rfl rfl (by first | assumption | rfl) (by first | assumption | rfl) ?_
            refine w_ri (k := 52) rfl rfl rfl rfl ?_
            refine hq I6 L5 ⟨by rw [hl]; exact s6, a6, by rw [hl]; exact t2⟩ ?_ ?_ (fl_t g4 g5)
            · exact mk_k k5 (f6 101 (by decide)) (f6 102 (by decide))
            · exact fx_t f2 (fx_t (fx_mo f3 (by decide) (by decide)) (fx_t (fx_mo f4 (by decide) (by decide)) (fx_t (fx_mo f5 (by decide) (by decide)) (fx_a (a := 112) f6 (by decide) (by decide)))))
          | succ r ih =>
            intro i I6 hi a6 f6
            have s6 : I6 100 15 = nI (A.length + 4 + 32) := by rw [f6 100 (by decide)]; exact s5
            have v6 : I6 109 i = nI (D.getD i 0) := by rw [f6 109 (by decide)]; exact h5.1 i (by omega)
            refine wp_iload (k := 32) rfl rfl ?_
            refine w_ic (k := 33) (x := nI 32) rfl (oi_nI 32) ?_
            refine w_n_ge (k := 34) (t' := 50) rfl rfl (by omega) (fun q => absurd q (by omega)) (fun q => ?_)
            refine wp_aload (k := 35) rfl rfl ?_
            refine w_gr (k := 36) (s := 14) rfl rfl (by first | assumption | rfl) (by first | assumption | rfl) ?_
            refine wp_aload (k := 37) rfl rfl ?_
            refine w_gi (k := 38) (s := 15) rfl rfl (by first | assumption | rfl) (by first | assumption | rfl) ?_
            refine w_ic (k := 39) (x := nI 32) rfl (oi_nI 32) ?_
            refine w_subN (k := 40) rfl (by omega) ?_
            refine wp_iload (k := 41) rfl rfl ?_
            refine w_addN (k := 42) rfl ?_
            rw [show A.length + 4 + 32 - 32 + i = A.length + 4 + i by omega]
            refine wp_aload (k := 43) rfl rfl ?_
            refine w_gr (k := 44) (s := 11) rfl rfl (by first | assumption | rfl) (by first | assumption | rfl) ?_
            refine wp_iload (k := 45) rfl rfl ?_
            refine w_iald (k := 46) rfl rfl (by first | assumption | rfl) (by omega) v6 ?_
            refine w_iast (k := 47) rfl rfl (by omega) (by first | assumption | rfl) (by omega) ?_
            refine w_incN (k := 48) (m := 1) rfl (oi_nI 1) rfl ?_
            refine w_goto (k := 49) (t' := 32) rfl rfl ?_
            exact ih (i + 1) _ (by omega) (av_step a6 (by omega) hX h5.2) (fun x hx => by rw [am_uR hx, f6 x hx])
        refine w_ic (k := 30) (x := nI 0) rfl (oi_nI 0) ?_
        refine wp_istore (k := 31) rfl rfl ?_
        exact loop 32 0 I5 (by omega) (by rw [List.take_zero, wr_nil]; exact a5) (fun _ _ => rfl)
theorem c_195 {A : List Nat} (hA : mT I A) (hq : ∀ I', mT I' ((sp_fing A).getD A) → fx [112, 114] [0, 15, 23] I I' → Q (some (.int (rs (sp_fing A)))) (am_SH N, I', L, am_RR w)) : am_call (d + 3) 195 [.ref 100] (am_SH N, I, L, am_RR w) Q := by
  have gA := mT_0 (v := nI 0) hA
  unfold sp_fing at hq
  refine am_enter (ls := [some _]) (cs := am_c195) rfl rfl (Nat.le_of_ble_eq_true rfl) rfl ?_
  refine wp_aload (k := 0) rfl rfl ?_
  refine w_ic (k := 1) (x := nI 0) rfl (oi_nI 0) ?_
  refine w_pi (k := 2) (s := 0) rfl rfl (by first | assumption | rfl) ?_
  refine wp_aload (k := 3) rfl rfl ?_
  refine w_ic (k := 4) (x := nI 32808) rfl (oi_nI 32808) ?_
  refine w_ic (k := 5) (x := nI 4) rfl (oi_nI 4) ?_
  refine w_Vi (k := 6) [_, _] rfl rfl rfl (Nat.le_of_ble_eq_true rfl) (by first | assumption | rfl) (Or.inl ⟨rfl, rfl⟩) ?_
  refine (c_186 gA (m := 4) (by decide) (fun hf => ⟨_, rfl, ?_⟩) (fun ht I1 h1 f1 => ⟨_, rfl, ?_⟩))
  · rw [if_neg (by rw [hf]; decide)] at hq
    refine w_b_ne (k := 7) (t' := 10) rfl rfl (fun q => absurd (q.symm.trans rfl) (by decide)) (fun q => ?_)
    refine w_ic (k := 8) (x := (-1)) rfl (by decide) ?_
    refine w_ri (k := 9) rfl rfl rfl rfl ?_
    exact hq _ gA (f_0 (by decide))
  · rw [if_pos ht] at hq
    simp only [Option.getD_some, rs_s] at hq
    obtain ⟨t1, t2⟩ := tk_room ht
    have t2 : A.length + 4 + 4 ≤ 400 := t2
    obtain ⟨i1, i2, i3⟩ := h1
    rw [hz_len t1, show pad4 4 = 4 from rfl] at i1
    have hX : A.length + 4 ≤ (hd_ A (uI (nI 32808)) 4 ++ List.replicate (pad4 4) 0).length := by rw [hz_len t1]; omega
    refine w_b_ne (k := 7) (t' := 10) rfl rfl (fun q => ?_) (fun q => absurd (q.symm.trans rfl) (by decide))
    refine wp_aload (k := 10) rfl rfl ?_
    refine w_gr (k := 11) (s := 14) rfl rfl (by first | assumption | rfl) (by first | assumption | rfl) ?_
    refine wp_aload (k := 12) rfl rfl ?_
    refine w_gi (k := 13) (s := 15) rfl rfl (by first | assumption | rfl) (by first | assumption | rfl) ?_
    refine w_ic (k := 14) (x := nI 4) rfl (oi_nI 4) ?_
    refine w_subN (k := 15) rfl (by omega) ?_
    rw [show A.length + 4 + 4 - 4 = A.length + 4 by omega]
    refine wp_aload (k := 16) rfl rfl ?_
    refine w_gr (k := 17) (s := 14) rfl rfl (by first | assumption | rfl) (by first | assumption | rfl) ?_
    refine wp_aload (k := 18) rfl rfl ?_
    refine w_gi (k := 19) (s := 15) rfl rfl (by first | assumption | rfl) (by first | assumption | rfl) ?_
    refine w_ic (k := 20) (x := nI 8) rfl (oi_nI 8) ?_
    refine w_subN (k := 21) rfl (by omega) ?_
    rw [show A.length + 4 + 4 - 8 = A.length by omega]
    refine w_Si (k := 22) [_, _] rfl rfl rfl (Nat.le_of_ble_eq_true rfl) (Or.inl ⟨rfl, rfl⟩) ?_
    refine (c_178 (m := 400) rfl (by decide) i2 ⟨by rw [hz_len t1]; omega, by rw [hz_len t1]; exact t2⟩ ?_)
    refine ⟨_, rfl, ?_⟩
    refine w_Sv (k := 23) [_, _, _] rfl rfl rfl (Nat.le_of_ble_eq_true rfl) (Or.inl ⟨rfl, rfl⟩) ?_
    refine (c_182 rfl (by decide) (by decide) i2 hX (by omega) (fun I2 k2 f2 => ⟨rfl, ?_⟩))
    rw [hd_take (by omega), show pad4 4 = 4 from rfl] at k2
    have k2 : av I2 112 (wr (hd_ A (uI (nI 32808)) 4 ++ List.replicate (pad4 4) 0) (A.length + 4) (fgr A)) := k2
    rw [at_fill (by omega) (show (fgr A).length = 4 from be_len _ _)] at k2
    have s2 : I2 100 15 = nI (A.length + 4 + 4) := by rw [f2 100 (by decide)]; exact i1
    have hl : (at_ A 32808 (fgr A)).length = A.length + 4 + 4 := by rw [at_len (by omega)]; unfold fgr; rw [be_len]; rfl
    rw [hl] at hq
    refine wp_aload (k := 24) rfl rfl ?_
    refine w_gi (k := 25) (s := 15) rfl rfl (by first | assumption | rfl) (by first | assumption | rfl) ?_
    refine w_ri (k := 26) rfl rfl rfl rfl ?_
    exact hq I2 ⟨by rw [hl]; exact s2, k2, by rw [hl]; exact t2⟩ (fx_t (fx_t (f_0 (v := nI 0) (by decide)) (fx_mo f1 (by decide) (by decide))) (fx_a (a := 112) f2 (by decide) (by decide)))
end MPR
