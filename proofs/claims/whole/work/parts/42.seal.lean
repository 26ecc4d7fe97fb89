/-! ===== keys, INTEGRITY, FINGERPRINT: the class ===== -/
def ky (nm rl pw : List Nat) : List Nat := sha (nm ++ ([58] ++ (rl ++ ([58] ++ pw))))
def kx (K : List Nat) (m : Nat) : List Nat := (K ++ List.replicate (64 - K.length) 0).map (fun c => c ^^^ m)
def hm (K M : List Nat) : List Nat := sha (kx K 92 ++ sha (kx K 54 ++ M))
/-- the INTEGRITY that belongs behind A -/
def mcy (K A : List Nat) : List Nat := hm K (wr A 2 (be 2 (A.length + 16)))
theorem kx_len {K : List Nat} (m : Nat) (h : K.length ≤ 64) : (kx K m).length = 64 := by simp [kx]; omega
theorem mcy_len (K A : List Nat) : (mcy K A).length = 32 := sha_len _
theorem mcy_lt (K A : List Nat) : ∀ c ∈ mcy K A, c < 256 := sha_lt _
def nib (x : Int32) : Int32 := sr x 4 ^^^ kN (uI x % 16)
def crcL (c : Int32) (A : List Nat) : Int32 := A.foldl (fun c b => nib (nib (c ^^^ nI b))) c
def fp (A : List Nat) : Int32 := (crcL (-1) A ^^^ (-1)) ^^^ nI 1398035790
def fgr (A : List Nat) : List Nat := be 4 (uI (fp (wr A 2 (be 2 (A.length + 4 + 4 - 20)))))
def sp_sign (A : List Nat) (rl : List Nat) (u p : Int64) : Option (List Nat) := if isW u && isW p && tk A (nI 28) 32 400 then some (at_ A 28 (mcy (ky (nz 8 (uN u)) rl (nz 8 (uN p))) A)) else none
def sp_fing (A : List Nat) : Option (List Nat) := if tk A (nI 32808) 4 400 then some (at_ A 32808 (fgr A)) else none
/-- a word's bytes -/
def wd (l : List Nat) : Prop := l.length ≤ 8 ∧ ∀ c ∈ l, 0 < c ∧ c < 256
theorem wd_nz (v : Int64) : wd (nz 8 (uN v)) := ⟨nz_len _ _, fun _ h => nz_mem h⟩
theorem wd_be {l : List Nat} (h : wd l) : be l.length (uN (lN (vb 0 l))) = l := by
  have v1 := vb_lt l (fun c hc => (h.2 c hc).2)
  rw [uN_lN (Nat.lt_of_lt_of_le v1 (Nat.le_trans (Nat.pow_le_pow_right (by decide) h.1) (by decide))), be_vb l (fun c hc => (h.2 c hc).2)]
section SEAL
variable {d N : Nat} {I : Nat → Nat → Int32} {L : Nat → Nat → Int64} {w : Option Nat} {Q : am_Q}
theorem rwK (N : Nat) (w : Option Nat) : rw_at (am_SH N) (am_RR w) 13 14 32 := ⟨rfl, rfl, rfl, by decide, by decide⟩
theorem rwM (N : Nat) (w : Option Nat) : rw_at (am_SH N) (am_RR w) 15 16 32 := ⟨rfl, rfl, rfl, by decide, by decide⟩
/-- the seal's rows -/
def sl (I : Nat → Nat → Int32) : Prop := (∃ X, rw_B I 11 12 572 X) ∧ (∃ X, rw_B I 13 14 32 X) ∧ ∃ X, rw_B I 15 16 32 X
theorem c_92 {nm rl pw : List Nat} (h1 : wd nm) (h2 : wd rl) (h3 : wd pw) (hst : stc I) (hs : sl I) (hq : ∀ I', sl I' → rw_B I' 13 14 32 (ky nm rl pw) → fc [9, 10, 11, 12, 13, 14] I I' → Q none (am_SH N, I', L, am_RR w)) : am_call (d + 4) 92 [.ref 7, .long (lN (vb 0 nm)), .long (lN (vb 0 rl)), .long (lN (vb 0 pw))] (am_SH N, I, L, am_RR w) Q := by
  obtain ⟨⟨X, hX⟩, ⟨Y, hY⟩, ⟨Z, hZ⟩⟩ := hs
  have u58 : be 1 (uN (lN 58)) = [58] := by decide
  have l1 := h1.1
  have l2 := h2.1
  have l3 := h3.1
  refine am_enter (ls := [some _, some _, none, some _, none, some _, none]) (cs := am_c92) rfl rfl (Nat.le_of_ble_eq_true rfl) rfl ?_
  refine wp_aload (k := 0) rfl rfl ?_
  refine w_gr (k := 1) (s := 1) rfl rfl (by first | assumption | rfl) (by first | assumption | rfl) ?_
  refine w_ic (k := 2) (x := nI 0) rfl (oi_nI 0) ?_
  refine w_Vv (k := 3) [_] rfl rfl rfl (Nat.le_of_ble_eq_true rfl) (by first | assumption | rfl) (Or.inl ⟨rfl, rfl⟩) ?_
  refine (c_86 (rwX N w) hX (Nat.zero_le _) (fun I1 k1 f1 => ⟨rfl, ?_⟩))
  rw [List.take_zero] at k1
  refine wp_aload (k := 4) rfl rfl ?_
  refine w_gr (k := 5) (s := 1) rfl rfl (by first | assumption | rfl) (by first | assumption | rfl) ?_
  refine wp_lload (k := 6) rfl rfl ?_
  refine wp_lload (k := 7) rfl rfl ?_
  refine w_Si (k := 8) [_] rfl rfl rfl (Nat.le_of_ble_eq_true rfl) (Or.inl ⟨rfl, rfl⟩) ?_
  refine (c_125 h1.1 h1.2 ?_)
  refine ⟨_, rfl, ?_⟩
  refine w_Vv (k := 9) [_, _] rfl rfl rfl (Nat.le_of_ble_eq_true rfl) (by first | assumption | rfl) (Or.inl ⟨rfl, rfl⟩) ?_
  refine (c_87 (rwX N w) k1 (by simp; omega) h1.1 (fun I2 k2 f2 => ⟨rfl, ?_⟩))
  rw [wd_be h1, List.nil_append] at k2
  refine wp_aload (k := 10) rfl rfl ?_
  refine w_gr (k := 11) (s := 1) rfl rfl (by first | assumption | rfl) (by first | assumption | rfl) ?_
  refine w_lc (k := 12) (x := lN 58) rfl (ol_lN 58) ?_
  refine w_ic (k := 13) (x := nI 1) rfl (oi_nI 1) ?_
  refine w_Vv (k := 14) [_, _] rfl rfl rfl (Nat.le_of_ble_eq_true rfl) (by first | assumption | rfl) (Or.inl ⟨rfl, rfl⟩) ?_
  refine (c_87 (rwX N w) k2 (by omega) (by decide) (fun I3 k3 f3 => ⟨rfl, ?_⟩))
  rw [u58] at k3
  refine wp_aload (k := 15) rfl rfl ?_
  refine w_gr (k := 16) (s := 1) rfl rfl (by first | assumption | rfl) (by first | assumption | rfl) ?_
  refine wp_lload (k := 17) rfl rfl ?_
  refine wp_lload (k := 18) rfl rfl ?_
  refine w_Si (k := 19) [_] rfl rfl rfl (Nat.le_of_ble_eq_true rfl) (Or.inl ⟨rfl, rfl⟩) ?_
  refine (c_125 h2.1 h2.2 ?_)
  refine ⟨_, rfl, ?_⟩
  refine w_Vv (k := 20) [_, _] rfl rfl rfl (Nat.le_of_ble_eq_true rfl) (by first | assumption | rfl) (Or.inl ⟨rfl, rfl⟩) ?_
  refine (c_87 (rwX N w) k3 (by simp; omega) h2.1 (fun I4 k4 f4 => ⟨rfl, ?_⟩))
  rw [wd_be h2] at k4
  refine wp_aload (k := 21) rfl rfl ?_
  refine w_gr (k := 22) (s := 1) rfl rfl (by first | assumption | rfl) (by first | assumption | rfl) ?_
  refine w_lc (k := 23) (x := lN 58) rfl (ol_lN 58) ?_
  refine w_ic (k := 24) (x := nI 1) rfl (oi_nI 1) ?_
  refine w_Vv (k := 25) [_, _] rfl rfl rfl (Nat.le_of_ble_eq_true rfl) (by first | assumption | rfl) (Or.inl ⟨rfl, rfl⟩) ?_
  refine (c_87 (rwX N w) k4 (by simp; omega) (by decide) (fun I5 k5 f5 => ⟨rfl, ?_⟩))
  rw [u58] at k5
  refine wp_aload (k := 26) rfl rfl ?_
  refine w_gr (k := 27) (s := 1) rfl rfl (by first | assumption | rfl) (by first | assumption | rfl) ?_
  refine wp_lload (k := 28) rfl rfl ?_
  refine wp_lload (k := 29) rfl rfl ?_
  refine w_Si (k := 30) [_] rfl rfl rfl (Nat.le_of_ble_eq_true rfl) (Or.inl ⟨rfl, rfl⟩) ?_
  refine (c_125 h3.1 h3.2 ?_)
  refine ⟨_, rfl, ?_⟩
  refine w_Vv (k := 31) [_, _] rfl rfl rfl (Nat.le_of_ble_eq_true rfl) (by first | assumption | rfl) (Or.inl ⟨rfl, rfl⟩) ?_
  refine (c_87 (rwX N w) k5 (by simp; omega) h3.1 (fun I6 k6 f6 => ⟨rfl, ?_⟩))
  rw [wd_be h3] at k6
  have e : ∀ x, x ≠ 11 → x ≠ 12 → I6 x = I x := fun x a b => by rw [f6 x a b, f5 x a b, f4 x a b, f3 x a b, f2 x a b, f1 x a]
  simp only [List.append_assoc] at k6
  refine wp_aload (k := 32) rfl rfl ?_
  refine w_gr (k := 33) (s := 0) rfl rfl (by first | assumption | rfl) (by first | assumption | rfl) ?_
  refine wp_aload (k := 34) rfl rfl ?_
  refine w_gr (k := 35) (s := 1) rfl rfl (by first | assumption | rfl) (by first | assumption | rfl) ?_
  refine wp_aload (k := 36) rfl rfl ?_
  refine w_gr (k := 37) (s := 2) rfl rfl (by first | assumption | rfl) (by first | assumption | rfl) ?_
  refine w_Vv (k := 38) [_, _] rfl rfl rfl (Nat.le_of_ble_eq_true rfl) (by first | assumption | rfl) (Or.inl ⟨rfl, rfl⟩) ?_
  refine (c_120 (stc_k hst (e 0 (by decide) (by decide)) (e 1 (by decide) (by decide)) (e 2 (by decide) (by decide))) k6 (by simp; omega) (rwK N w) (rw_keep hY (e 13 (by decide) (by decide)) (e 14 (by decide) (by decide))) (by decide) (by decide) (fun I7 k7 x7 f7 => ⟨rfl, ?_⟩))
  refine w_rv (k := 39) rfl rfl rfl rfl ?_
  refine hq I7 ⟨x7, ⟨_, k7⟩, ⟨Z, rw_keep hZ ?_ ?_⟩⟩ k7 (fc_t (fc_2 (a := 11) (b := 12) e (by decide) (by decide)) f7)
  · rw [f7 15 (by decide), e 15 (by decide) (by decide)]
  · rw [f7 16 (by decide), e 16 (by decide) (by decide)]
theorem u8x {x : Nat} (h : x < 256) : (nI x).toBitVec.toNat % 256 = x := by
  show uI (nI x) % 256 = x
  rw [uI_nI (by omega)]
  omega
theorem gd_map {A : List Nat} {m i : Nat} (h : i < A.length) : (A.map (fun c => c ^^^ m)).getD i 0 = A.getD i 0 ^^^ m := by
  rw [List.getD_eq_getElem?_getD, List.getElem?_map, List.getD_eq_getElem?_getD, List.getElem?_eq_getElem h]
  rfl
theorem c_94 {K : List Nat} {m : Nat} (hm : m < 256) (hK : rw_B I 13 14 32 K) (hX : ∃ X, rw_B I 11 12 572 X) (hq : ∀ I', rw_B I' 11 12 572 (kx K m) → fc [11, 12] I I' → Q none (am_SH N, I', L, am_RR w)) : am_call (d + 2) 94 [.ref 7, .int (nI m)] (am_SH N, I, L, am_RR w) Q := by
  obtain ⟨X, hX⟩ := hX
  have hl := hK.1
  refine am_enter (ls := [some _, some _, none]) (cs := am_c94) rfl rfl (Nat.le_of_ble_eq_true rfl) rfl ?_
  refine wp_aload (k := 0) rfl rfl ?_
  refine w_gr (k := 1) (s := 1) rfl rfl (by first | assumption | rfl) (by first | assumption | rfl) ?_
  refine w_ic (k := 2) (x := nI 0) rfl (oi_nI 0) ?_
  refine w_Vv (k := 3) [_] rfl rfl rfl (Nat.le_of_ble_eq_true rfl) (by first | assumption | rfl) (Or.inl ⟨rfl, rfl⟩) ?_
  refine (c_86 (rwX N w) hX (Nat.zero_le _) (fun I1 k1 f1 => ⟨rfl, ?_⟩))
  rw [List.take_zero] at k1
  have K1 := rw_keep hK (f1 13 (by decide)) (f1 14 (by decide))
  refine wp_aload (k := 4) rfl rfl ?_
  refine w_gr (k := 5) (s := 1) rfl rfl (by first | assumption | rfl) (by first | assumption | rfl) ?_
  refine wp_aload (k := 6) rfl rfl ?_
  refine w_gr (k := 7) (s := 2) rfl rfl (by first | assumption | rfl) (by first | assumption | rfl) ?_
  refine w_ic (k := 8) (x := nI 0) rfl (oi_nI 0) ?_
  refine wp_aload (k := 9) rfl rfl ?_
  refine w_gr (k := 10) (s := 2) rfl rfl (by first | assumption | rfl) (by first | assumption | rfl) ?_
  refine w_Vi (k := 11) [] rfl rfl rfl (Nat.le_of_ble_eq_true rfl) (by first | assumption | rfl) (Or.inl ⟨rfl, rfl⟩) ?_
  refine (c_82 (rwK N w) K1 ?_)
  refine ⟨_, rfl, ?_⟩
  refine w_Vv (k := 12) [_, _, _] rfl rfl rfl (Nat.le_of_ble_eq_true rfl) (by first | assumption | rfl) (Or.inl ⟨rfl, rfl⟩) ?_
  refine (c_89 (rwX N w) k1 (rwK N w) K1 (s := 0) (by omega) (by simp; omega) (fun I2 k2 f2 => ⟨rfl, ?_⟩))
  rw [List.drop_zero, List.take_length, List.nil_append] at k2
  have K2 := rw_keep K1 (f2 13 (by decide) (by decide)) (f2 14 (by decide) (by decide))
  refine wp_aload (k := 13) rfl rfl ?_
  refine w_gr (k := 14) (s := 1) rfl rfl (by first | assumption | rfl) (by first | assumption | rfl) ?_
  refine w_ic (k := 15) (x := nI 64) rfl (oi_nI 64) ?_
  refine wp_aload (k := 16) rfl rfl ?_
  refine w_gr (k := 17) (s := 2) rfl rfl (by first | assumption | rfl) (by first | assumption | rfl) ?_
  refine w_Vi (k := 18) [] rfl rfl rfl (Nat.le_of_ble_eq_true rfl) (by first | assumption | rfl) (Or.inl ⟨rfl, rfl⟩) ?_
  refine (c_82 (rwK N w) K2 ?_)
  refine ⟨_, rfl, ?_⟩
  refine w_subN (k := 19) rfl (by omega) ?_
  refine w_Vv (k := 20) [_] rfl rfl rfl (Nat.le_of_ble_eq_true rfl) (by first | assumption | rfl) (Or.inl ⟨rfl, rfl⟩) ?_
  refine (c_88 (rwX N w) k2 (by omega) (fun I3 k3 f3 => ⟨rfl, ?_⟩))
  have hlen : (K ++ List.replicate (64 - K.length) 0).length = 64 := by simp; omega
  have loop : ∀ (r i : Nat) (I4 : Nat → Nat → Int32), i + r = 64 → rw_B I4 11 12 572 ((kx K m).take i ++ (K ++ List.replicate (64 - K.length) 0).drop i) → fc [11, 12] I I4 → am_V 94 am_c94 (d + 1) (am_SH N) Q 23 [some (.ref 7), some (.int (nI m)), some (.int (nI i))] [] (am_SH N, I4, L, am_RR w) := by
    intro r
    induction r with
    | zero =>
      intro i I4 hi k4 f4
      obtain rfl : i = 64 := by omega
      rw [List.take_of_length_le (by rw [kx_len m (by omega)]; omega), List.drop_of_length_le (by omega), List.append_nil] at k4
      refine wp_iload (k := 23) rfl rfl ?_
      refine w_ic (k := 24) (x := nI 64) rfl (oi_nI 64) ?_
      refine w_n_ge (k := 25) (t' := 38) rfl rfl (by omega) (fun q => ?_) (fun q => absurd q (by omega))
      refine w_rv (k := 38) rfl rfl rfl rfl ?_
      exact hq I4 k4 f4
    | succ r ih =>
      intro i I4 hi k4 f4
      have hkl : ((kx K m).take i).length = i := by rw [List.length_take, kx_len m (by omega)]; omega
      have hl4 : ((kx K m).take i ++ (K ++ List.replicate (64 - K.length) 0).drop i).length = 64 := by rw [List.length_append, hkl, List.length_drop, hlen]; omega
      have hg : ((kx K m).take i ++ (K ++ List.replicate (64 - K.length) 0).drop i).getD i 0 = (K ++ List.replicate (64 - K.length) 0).getD i 0 := by
        rw [gd_app2 (by omega), hkl, Nat.sub_self, List.getD_eq_getElem?_getD, List.getElem?_drop, List.getD_eq_getElem?_getD, Nat.add_zero]
      have hc : (K ++ List.replicate (64 - K.length) 0).getD i 0 < 256 := by
        rw [← hg]; exact gd_lt k4.2.2.2 i
      have hx := xor_lt hc hm
      refine wp_iload (k := 23) rfl rfl ?_
      refine w_ic (k := 24) (x := nI 64) rfl (oi_nI 64) ?_
      refine w_n_ge (k := 25) (t' := 38) rfl rfl (by omega) (fun q => absurd q (by omega)) (fun q => ?_)
      refine wp_aload (k := 26) rfl rfl ?_
      refine w_gr (k := 27) (s := 1) rfl rfl (by first | assumption | rfl) (by first | assumption | rfl) ?_
      refine wp_iload (k := 28) rfl rfl ?_
      refine wp_aload (k := 29) rfl rfl ?_
      refine w_gr (k := 30) (s := 1) rfl rfl (by first | assumption | rfl) (by first | assumption | rfl) ?_
      refine wp_iload (k := 31) rfl rfl ?_
      refine w_Vi (k := 32) [_] rfl rfl rfl (Nat.le_of_ble_eq_true rfl) (by first | assumption | rfl) (Or.inl ⟨rfl, rfl⟩) ?_
      refine (c_84 (rwX N w) k4 ?_)
      refine ⟨_, rfl, ?_⟩
      rw [byA_n (by omega) (by omega), hg]
      refine wp_iload (k := 33) rfl rfl ?_
      refine wp_ixor (k := 34) rfl ?_
      rw [fb_xorI]
      refine w_Vv (k := 35) [_, _] rfl rfl rfl (Nat.le_of_ble_eq_true rfl) (by first | assumption | rfl) (Or.inl ⟨rfl, rfl⟩) ?_
      refine (c_85 (rwX N w) k4 (by omega) (fun I5 k5 f5 => ⟨rfl, ?_⟩))
      refine w_incN (k := 36) (m := 1) rfl (oi_nI 1) rfl ?_
      refine w_goto (k := 37) (t' := 23) rfl rfl ?_
      rw [u8x hx] at k5
      refine ih (i + 1) I5 (by omega) ?_ (fc_t f4 (fc_1 (a := 12) f5 (by decide)))
      have e5 : ((kx K m).take i ++ (K ++ List.replicate (64 - K.length) 0).drop i).set i ((K ++ List.replicate (64 - K.length) 0).getD i 0 ^^^ m) = (kx K m).take (i + 1) ++ (K ++ List.replicate (64 - K.length) 0).drop (i + 1) := by
        rw [List.set_append_right _ _ (by omega), hkl, Nat.sub_self, ← tk_app (by rw [kx_len m (by omega)]; omega), List.append_assoc]
        congr 1
        rw [List.drop_eq_getElem_cons (by omega), List.set_cons_zero]
        unfold kx
        rw [gd_map (by omega)]
        rfl
      rw [← e5]
      exact k5
  refine w_ic (k := 21) (x := nI 0) rfl (oi_nI 0) ?_
  refine wp_istore (k := 22) rfl rfl ?_
  refine loop 64 0 I3 (by omega) (by simpa using k3) (fun x hx => ?_)
  simp only [List.mem_cons, List.not_mem_nil, or_false, not_or] at hx
  rw [f3 x hx.1 hx.2, f2 x hx.1 hx.2, f1 x hx.1]
theorem c_93 {K A : List Nat} {p b n m : Nat} (hr : rw_at (am_SH N) (am_RR w) p b n) (hA : rw_B I p b n A) (hne : p ∉ [9, 10, 11, 12, 15, 16] ∧ b ∉ [9, 10, 11, 12, 15, 16]) (hm : 20 ≤ m ∧ m ≤ A.length ∧ m ≤ 436) (hst : stc I) (hs : sl I) (hK : rw_B I 13 14 32 K) (hq : ∀ I', sl I' → rw_B I' 13 14 32 K → rw_B I' 15 16 32 (mcy K (A.take m)) → fc [9, 10, 11, 12, 15, 16] I I' → Q none (am_SH N, I', L, am_RR w)) : am_call (d + 3) 93 [.ref 7, .ref p, .int (nI m)] (am_SH N, I, L, am_RR w) Q := by
  obtain ⟨hX, -, ⟨Z, hZ⟩⟩ := hs
  obtain ⟨m1, m2, m3⟩ := hm
  have hl := hK.1
  have hne' := hne
  simp only [List.mem_cons, List.not_mem_nil, or_false, not_or] at hne'
  refine am_enter (ls := [some _, some _, some _, none]) (cs := am_c93) rfl rfl (Nat.le_of_ble_eq_true rfl) rfl ?_
  refine wp_iload (k := 0) rfl rfl ?_
  refine w_ic (k := 1) (x := nI 4) rfl (oi_nI 4) ?_
  refine w_addN (k := 2) rfl ?_
  refine w_ic (k := 3) (x := nI 32) rfl (oi_nI 32) ?_
  refine w_addN (k := 4) rfl ?_
  refine w_ic (k := 5) (x := nI 20) rfl (oi_nI 20) ?_
  refine w_subN (k := 6) rfl (by omega) ?_
  refine wp_istore (k := 7) rfl rfl ?_
  refine wp_aload (k := 8) rfl rfl ?_
  refine w_ic (k := 9) (x := nI 54) rfl (oi_nI 54) ?_
  refine w_Vv (k := 10) [_] rfl rfl rfl (Nat.le_of_ble_eq_true rfl) (by first | assumption | rfl) (Or.inl ⟨rfl, rfl⟩) ?_
  refine (c_94 (by decide) hK hX (fun I1 k1 f1 => ⟨rfl, ?_⟩))
  have A1 : rw_B I1 p b n A := rw_keep hA (f1 p (by simp; omega)) (f1 b (by simp; omega))
  have kl : ∀ z, (kx K z).length = 64 := fun z => kx_len z (by omega)
  refine wp_aload (k := 11) rfl rfl ?_
  refine w_gr (k := 12) (s := 1) rfl rfl (by first | assumption | rfl) (by first | assumption | rfl) ?_
  refine wp_aload (k := 13) rfl rfl ?_
  refine w_ic (k := 14) (x := nI 0) rfl (oi_nI 0) ?_
  refine wp_iload (k := 15) rfl rfl ?_
  refine w_Vv (k := 16) [_, _, _] rfl rfl rfl (Nat.le_of_ble_eq_true rfl) (by first | assumption | rfl) (Or.inl ⟨rfl, rfl⟩) ?_
  refine (c_89 (rwX N w) k1 hr A1 (s := 0) (by omega) (by rw [kl]; omega) (fun I2 k2 f2 => ⟨rfl, ?_⟩))
  rw [List.drop_zero] at k2
  have tl : (A.take m).length = m := by simp; omega
  refine wp_aload (k := 17) rfl rfl ?_
  refine w_gr (k := 18) (s := 1) rfl rfl (by first | assumption | rfl) (by first | assumption | rfl) ?_
  refine w_ic (k := 19) (x := nI 66) rfl (oi_nI 66) ?_
  refine wp_iload (k := 20) rfl rfl ?_
  refine w_ic (k := 21) (x := nI 8) rfl (oi_nI 8) ?_
  refine wp_ishr (k := 22) rfl ?_
  rw [i_shr (by omega) (by decide)]
  refine w_Vv (k := 23) [_, _] rfl rfl rfl (Nat.le_of_ble_eq_true rfl) (by first | assumption | rfl) (Or.inl ⟨rfl, rfl⟩) ?_
  refine (c_85 (rwX N w) k2 (j := 66) (by rw [List.length_append, kl, tl]; omega) (fun I3 k3 f3 => ⟨rfl, ?_⟩))
  refine wp_aload (k := 24) rfl rfl ?_
  refine w_gr (k := 25) (s := 1) rfl rfl (by first | assumption | rfl) (by first | assumption | rfl) ?_
  refine w_ic (k := 26) (x := nI 67) rfl (oi_nI 67) ?_
  refine wp_iload (k := 27) rfl rfl ?_
  refine w_Vv (k := 28) [_, _] rfl rfl rfl (Nat.le_of_ble_eq_true rfl) (by first | assumption | rfl) (Or.inl ⟨rfl, rfl⟩) ?_
  refine (c_85 (rwX N w) k3 (j := 67) (by rw [List.length_set, List.length_append, kl, tl]; omega) (fun I4 k4 f4 => ⟨rfl, ?_⟩))
  have u1 : (nI ((m + 4 + 32 - 20) / 2 ^ 8)).toBitVec.toNat % 256 = (m + 16) / 256 % 256 := by
    show uI (nI _) % 256 = _
    rw [uI_nI (by omega)]
    omega
  have u2 : (nI (m + 4 + 32 - 20)).toBitVec.toNat % 256 = (m + 16) % 256 := by
    show uI (nI _) % 256 = _
    rw [uI_nI (by omega)]
    omega
  have e4 : ((kx K 54 ++ A.take m).set 66 ((m + 16) / 256 % 256)).set 67 ((m + 16) % 256) = kx K 54 ++ wr (A.take m) 2 (be 2 ((A.take m).length + 16)) := by
    rw [List.set_append_right _ _ (by rw [kl]; omega), List.set_append_right _ _ (by rw [kl]; omega), kl, set_wr2 (by omega), tl, ← be2]
  rw [u1, u2, e4] at k4
  have wl : (wr (A.take m) 2 (be 2 ((A.take m).length + 16))).length = m := by rw [wr_in (by rw [be_len]; omega), tl]
  have e : ∀ x, x ≠ 11 → x ≠ 12 → I4 x = I x := fun x a b => by rw [f4 x b, f3 x b, f2 x a b, f1 x (by simp; omega)]
  refine wp_aload (k := 29) rfl rfl ?_
  refine w_gr (k := 30) (s := 0) rfl rfl (by first | assumption | rfl) (by first | assumption | rfl) ?_
  refine wp_aload (k := 31) rfl rfl ?_
  refine w_gr (k := 32) (s := 1) rfl rfl (by first | assumption | rfl) (by first | assumption | rfl) ?_
  refine wp_aload (k := 33) rfl rfl ?_
  refine w_gr (k := 34) (s := 3) rfl rfl (by first | assumption | rfl) (by first | assumption | rfl) ?_
  refine w_Vv (k := 35) [_, _] rfl rfl rfl (Nat.le_of_ble_eq_true rfl) (by first | assumption | rfl) (Or.inl ⟨rfl, rfl⟩) ?_
  refine (c_120 (stc_k hst (e 0 (by decide) (by decide)) (e 1 (by decide) (by decide)) (e 2 (by decide) (by decide))) k4 (by rw [List.length_append, kl, wl]; omega) (rwM N w) (rw_keep hZ (e 15 (by decide) (by decide)) (e 16 (by decide) (by decide))) (by decide) (by decide) (fun I5 k5 x5 f5 => ⟨rfl, ?_⟩))
  have e5 : ∀ x, x ∉ [9, 10, 11, 12, 15, 16] → I5 x = I x := fun x hx => by rw [f5 x hx, e x (fun q => hx (by rw [q]; decide)) (fun q => hx (by rw [q]; decide))]
  have K5 : rw_B I5 13 14 32 K := rw_keep hK (e5 13 (by decide)) (e5 14 (by decide))
  refine wp_aload (k := 36) rfl rfl ?_
  refine w_ic (k := 37) (x := nI 92) rfl (oi_nI 92) ?_
  refine w_Vv (k := 38) [_] rfl rfl rfl (Nat.le_of_ble_eq_true rfl) (by first | assumption | rfl) (Or.inl ⟨rfl, rfl⟩) ?_
  refine (c_94 (by decide) K5 x5 (fun I6 k6 f6 => ⟨rfl, ?_⟩))
  have M6 := rw_keep k5 (f6 15 (by decide)) (f6 16 (by decide))
  refine wp_aload (k := 39) rfl rfl ?_
  refine w_gr (k := 40) (s := 1) rfl rfl (by first | assumption | rfl) (by first | assumption | rfl) ?_
  refine wp_aload (k := 41) rfl rfl ?_
  refine w_gr (k := 42) (s := 3) rfl rfl (by first | assumption | rfl) (by first | assumption | rfl) ?_
  refine w_ic (k := 43) (x := nI 0) rfl (oi_nI 0) ?_
  refine w_ic (k := 44) (x := nI 32) rfl (oi_nI 32) ?_
  refine w_Vv (k := 45) [_, _, _] rfl rfl rfl (Nat.le_of_ble_eq_true rfl) (by first | assumption | rfl) (Or.inl ⟨rfl, rfl⟩) ?_
  refine (c_89 (rwX N w) k6 (rwM N w) M6 (s := 0) (w := 32) (by rw [sha_len]; decide) (by rw [kl]; decide) (fun I7 k7 f7 => ⟨rfl, ?_⟩))
  rw [List.drop_zero, List.take_of_length_le (by rw [sha_len]; decide)] at k7
  have e7 : ∀ x, x ∉ [9, 10, 11, 12, 15, 16] → I7 x = I x := fun x hx => by
    have hx' := hx
    simp only [List.mem_cons, List.not_mem_nil, or_false, not_or] at hx'
    rw [f7 x (by omega) (by omega), f6 x (by simp; omega), e5 x hx]
  have M7 := rw_keep M6 (f7 15 (by decide) (by decide)) (f7 16 (by decide) (by decide))
  refine wp_aload (k := 46) rfl rfl ?_
  refine w_gr (k := 47) (s := 0) rfl rfl (by first | assumption | rfl) (by first | assumption | rfl) ?_
  refine wp_aload (k := 48) rfl rfl ?_
  refine w_gr (k := 49) (s := 1) rfl rfl (by first | assumption | rfl) (by first | assumption | rfl) ?_
  refine wp_aload (k := 50) rfl rfl ?_
  refine w_gr (k := 51) (s := 3) rfl rfl (by first | assumption | rfl) (by first | assumption | rfl) ?_
  refine w_Vv (k := 52) [_, _] rfl rfl rfl (Nat.le_of_ble_eq_true rfl) (by first | assumption | rfl) (Or.inl ⟨rfl, rfl⟩) ?_
  refine (c_120 (stc_k hst (e7 0 (by decide)) (e7 1 (by decide)) (e7 2 (by decide))) k7 (by rw [List.length_append, kl, sha_len]; decide) (rwM N w) M7 (by decide) (by decide) (fun I8 k8 x8 f8 => ⟨rfl, ?_⟩))
  refine w_rv (k := 53) rfl rfl rfl rfl ?_
  have e8 : fc [9, 10, 11, 12, 15, 16] I I8 := fc_t (fun x hx => e7 x hx) f8
  have K8 : rw_B I8 13 14 32 K := rw_keep hK (e8 13 (by decide)) (e8 14 (by decide))
  exact hq I8 ⟨x8, ⟨K, K8⟩, ⟨_, k8⟩⟩ K8 k8 e8
theorem c_96 {M A : List Nat} {p b n : Nat} (hr : rw_at (am_SH N) (am_RR w) p b n) (hA : rw_B I p b n A) (hM : rw_B I 15 16 32 M) (hl : M.length = 32) (hn : A.length + 32 ≤ n) (hq : ∀ I', rw_B I' p b n (A ++ M) → (∀ x, x ≠ p → x ≠ b → I' x = I x) → Q none (am_SH N, I', L, am_RR w)) : am_call (d + 2) 96 [.ref 7, .ref p] (am_SH N, I, L, am_RR w) Q := by
  have r1 := hr.1
  refine am_enter (ls := [some _, some _]) (cs := am_c96) rfl rfl (Nat.le_of_ble_eq_true rfl) rfl ?_
  refine wp_aload (k := 0) rfl rfl ?_
  refine wp_aload (k := 1) rfl rfl ?_
  refine w_gr (k := 2) (s := 3) rfl rfl (by first | assumption | rfl) (by first | assumption | rfl) ?_
  refine w_ic (k := 3) (x := nI 0) rfl (oi_nI 0) ?_
  refine w_ic (k := 4) (x := nI 32) rfl (oi_nI 32) ?_
  refine w_Vv (k := 5) [_, _, _] rfl rfl rfl (Nat.le_of_ble_eq_true rfl) (by first | assumption | rfl) (Or.inl ⟨rfl, rfl⟩) ?_
  refine (c_89 hr hA (rwM N w) hM (s := 0) (w := 32) (by omega) hn (fun I1 k1 f1 => ⟨rfl, ?_⟩))
  refine w_rv (k := 6) rfl rfl rfl rfl ?_
  rw [List.drop_zero, List.take_of_length_le (by omega)] at k1
  exact hq I1 k1 f1
theorem c_70 {K A : List Nat} {p b n e : Nat} (he : pn_at (am_SH N) (am_RR w) e p) (hr : rw_at (am_SH N) (am_RR w) p b n) (hA : rw_B I p b n A) (hne : p ∉ [9, 10, 11, 12, 15, 16] ∧ b ∉ [9, 10, 11, 12, 15, 16]) (h20 : 20 ≤ A.length) (hn : A.length + 36 ≤ n ∧ n ≤ 436) (hst : stc I) (hs : sl I) (hK : rw_B I 13 14 32 K) (hq : ∀ I', sl I' → rw_B I' p b n (at_ A 28 (mcy K A)) → fc [9, 10, 11, 12, 15, 16, p, b] I I' → Q none (am_SH N, I', L, am_RR w)) : am_call (d + 4) 70 [.ref e] (am_SH N, I, L, am_RR w) Q := by
  obtain ⟨e1, e2, e3⟩ := id he
  have r1 := hr.1
  have hne' := hne
  simp only [List.mem_cons, List.not_mem_nil, or_false, not_or] at hne'
  refine am_enter (ls := [some _]) (cs := am_c70) rfl rfl (Nat.le_of_ble_eq_true rfl) rfl ?_
  refine wp_aload (k := 0) rfl rfl ?_
  refine w_gr (k := 1) (s := 1) rfl rfl (by first | assumption | rfl) (by first | assumption | rfl) ?_
  refine wp_aload (k := 2) rfl rfl ?_
  refine w_gr (k := 3) (s := 0) rfl rfl (by first | assumption | rfl) (by first | assumption | rfl) ?_
  refine wp_aload (k := 4) rfl rfl ?_
  refine w_gr (k := 5) (s := 0) rfl rfl (by first | assumption | rfl) (by first | assumption | rfl) ?_
  refine w_Vi (k := 6) [] rfl rfl rfl (Nat.le_of_ble_eq_true rfl) (by first | assumption | rfl) (Or.inl ⟨rfl, rfl⟩) ?_
  refine (c_82 hr hA ?_)
  refine ⟨_, rfl, ?_⟩
  refine w_Vv (k := 7) [_, _] rfl rfl rfl (Nat.le_of_ble_eq_true rfl) (by first | assumption | rfl) (Or.inl ⟨rfl, rfl⟩) ?_
  refine (c_93 hr hA hne ⟨h20, Nat.le_refl _, by omega⟩ hst hs hK (fun I1 s1 k1 m1 f1 => ⟨rfl, ?_⟩))
  rw [List.take_length] at m1
  have A1 := rw_keep hA (f1 p hne.1) (f1 b hne.2)
  refine wp_aload (k := 8) rfl rfl ?_
  refine w_ic (k := 9) (x := nI 28) rfl (oi_nI 28) ?_
  refine w_ic (k := 10) (x := nI 32) rfl (oi_nI 32) ?_
  refine w_Vv (k := 11) [_, _] rfl rfl rfl (Nat.le_of_ble_eq_true rfl) (by first | assumption | rfl) (Or.inl ⟨rfl, rfl⟩) ?_
  refine (c_63 he hr A1 h20 (m := 32) hn.1 (fun I2 k2 f2 => ⟨rfl, ?_⟩))
  by_cases hp13 : p = 13 ∨ p = 14 ∨ b = 13 ∨ b = 14
  · exfalso
    rcases hp13 with h | h | h | h
    · subst h
      have := hr.2.2.1
      have : b = 14 := by injection this with z; exact z.symm
      subst this
      have := hr.2.1
      have hn32 : n = 32 := by injection this with z; injection z with _ z; exact z.symm
      omega
    · subst h
      have := hr.1
      exact absurd this (by intro q; injection q with z; injection z with z; exact absurd z (by decide))
    · subst h
      have := hr.2.1
      exact absurd this (by intro q; injection q with z; injection z with z; exact absurd z (by decide))
    · subst h
      have := hr.2.1
      have hn32 : n = 32 := by injection this with z; injection z with _ z; exact z.symm
      omega
  · have M2 := rw_keep m1 (f2 15 (by omega) (by omega)) (f2 16 (by omega) (by omega))
    refine wp_aload (k := 12) rfl rfl ?_
    refine w_gr (k := 13) (s := 1) rfl rfl (by first | assumption | rfl) (by first | assumption | rfl) ?_
    refine wp_aload (k := 14) rfl rfl ?_
    refine w_gr (k := 15) (s := 0) rfl rfl (by first | assumption | rfl) (by first | assumption | rfl) ?_
    refine w_Vv (k := 16) [_] rfl rfl rfl (Nat.le_of_ble_eq_true rfl) (by first | assumption | rfl) (Or.inl ⟨rfl, rfl⟩) ?_
    refine (c_96 hr k2 M2 (mcy_len K A) (by rw [hd_len (by omega)]; omega) (fun I3 k3 f3 => ⟨rfl, ?_⟩))
    refine w_rv (k := 17) rfl rfl rfl rfl ?_
    have g : ∀ x, x ≠ p → x ≠ b → I3 x = I1 x := fun x a b => by rw [f3 x a b, f2 x a b]
    refine hq I3 ⟨?_, ?_, ?_⟩ ?_ (fun x hx => ?_)
    · obtain ⟨X, hX⟩ := s1.1
      exact ⟨X, rw_keep hX (g 11 (by omega) (by omega)) (g 12 (by omega) (by omega))⟩
    · obtain ⟨X, hX⟩ := s1.2.1
      exact ⟨X, rw_keep hX (g 13 (by omega) (by omega)) (g 14 (by omega) (by omega))⟩
    · obtain ⟨X, hX⟩ := s1.2.2
      exact ⟨X, rw_keep hX (g 15 (by omega) (by omega)) (g 16 (by omega) (by omega))⟩
    · unfold at_
      rw [mcy_len, show pad4 32 - 32 = 0 from rfl, List.replicate_zero, List.append_nil]
      exact k3
    · simp only [List.mem_cons, List.not_mem_nil, or_false, not_or] at hx
      rw [g x (by omega) (by omega), f1 x (by simp; omega)]
theorem c_59 {A : List Nat} {p b n m : Nat} (hr : rw_at (am_SH N) (am_RR w) p b n) (hA : rw_B I p b n A) (hm : m ≤ A.length) (hst : stc I) (hq : Q (some (.int (fp (A.take m)))) (am_SH N, I, L, am_RR w)) : am_call (d + 2) 59 [.ref p, .int (nI m)] (am_SH N, I, L, am_RR w) Q := by
  have r1 := hr.1
  have hn := hr.2.2.2.2
  have hl := hA.1
  have a15 : ∀ x : Int32, x &&& nI 15 = nI (uI x % 16) := fun x => pk_and x 4 rfl
  have loop : ∀ (r i : Nat), i + r = m → am_V 59 am_c59 (d + 1) (am_SH N) Q 4 [some (.ref p), some (.int (nI m)), some (.int (crcL (-1) (A.take i))), some (.int (nI i))] [] (am_SH N, I, L, am_RR w) := by
    intro r
    induction r with
    | zero =>
      intro i hi
      obtain rfl : i = m := by omega
      refine wp_iload (k := 4) rfl rfl ?_
      refine wp_iload (k := 5) rfl rfl ?_
      refine w_n_ge (k := 6) (t' := 37) rfl rfl (by omega) (fun q => ?_) (fun q => absurd q (by omega))
      refine wp_iload (k := 37) rfl rfl ?_
      refine w_ic (k := 38) (x := (-1)) rfl (by decide) ?_
      refine wp_ixor (k := 39) rfl ?_
      refine w_ic (k := 40) (x := nI 1398035790) rfl (oi_nI 1398035790) ?_
      refine wp_ixor (k := 41) rfl ?_
      refine w_ri (k := 42) rfl rfl rfl rfl ?_
      exact hq
    | succ r ih =>
      intro i hi
      have hg := gd_lt hA.2.2.2 i
      have hnib : ∀ x : Int32, I 2 (uI x % 16) = kN (uI x % 16) := fun x => hst.2.2 _ (Nat.mod_lt _ (by decide))
      refine wp_iload (k := 4) rfl rfl ?_
      refine wp_iload (k := 5) rfl rfl ?_
      refine w_n_ge (k := 6) (t' := 37) rfl rfl (by omega) (fun q => absurd q (by omega)) (fun q => ?_)
      refine wp_iload (k := 7) rfl rfl ?_
      refine wp_aload (k := 8) rfl rfl ?_
      refine wp_iload (k := 9) rfl rfl ?_
      refine w_Vi (k := 10) [_] rfl rfl rfl (Nat.le_of_ble_eq_true rfl) (by first | assumption | rfl) (Or.inl ⟨rfl, rfl⟩) ?_
      refine (c_84 hr hA ?_)
      refine ⟨_, rfl, ?_⟩
      refine w_ic (k := 11) (x := nI 255) rfl (oi_nI 255) ?_
      refine wp_iand (k := 12) rfl ?_
      rw [byA_n (by omega) (by omega), i_b0, uI_nI (by omega), Nat.mod_eq_of_lt hg]
      refine wp_ixor (k := 13) rfl ?_
      refine wp_istore (k := 14) (ls2 := [some _, some _, some _, some _]) rfl rfl ?_
      refine wp_iload (k := 15) rfl rfl ?_
      refine w_ic (k := 16) (x := nI 4) rfl (oi_nI 4) ?_
      refine wp_iushr (k := 17) rfl ?_
      refine wp_gets (k := 18) rfl ?_
      refine wp_iload (k := 19) rfl rfl ?_
      refine w_ic (k := 20) (x := nI 15) rfl (oi_nI 15) ?_
      refine wp_iand (k := 21) rfl ?_
      rw [a15]
      refine w_iald (k := 22) rfl rfl (by first | assumption | rfl) (by have := Nat.mod_lt (uI (crcL (-1) (List.take i A) ^^^ nI (A.getD i 0))) (show 0 < 16 by decide); omega) (hnib _) ?_
      refine wp_ixor (k := 23) rfl ?_
      refine w_eqi (y := (nib (crcL (-1) (A.take i) ^^^ nI (A.getD i 0)))) rfl ?_
      refine wp_istore (k := 24) (ls2 := [some _, some _, some _, some _]) rfl rfl ?_
      refine wp_iload (k := 25) rfl rfl ?_
      refine w_ic (k := 26) (x := nI 4) rfl (oi_nI 4) ?_
      refine wp_iushr (k := 27) rfl ?_
      refine wp_gets (k := 28) rfl ?_
      refine wp_iload (k := 29) rfl rfl ?_
      refine w_ic (k := 30) (x := nI 15) rfl (oi_nI 15) ?_
      refine wp_iand (k := 31) rfl ?_
      rw [a15]
      refine w_iald (k := 32) rfl rfl (by first | assumption | rfl) (by have := Nat.mod_lt (uI (nib (crcL (-1) (List.take i A) ^^^ nI (A.getD i 0)))) (show 0 < 16 by decide); omega) (hnib _) ?_
      refine wp_ixor (k := 33) rfl ?_
      refine w_eqi (y := (nib (nib (crcL (-1) (A.take i) ^^^ nI (A.getD i 0))))) rfl ?_
      refine wp_istore (k := 34) (ls2 := [some _, some _, some _, some _]) rfl rfl ?_
      refine w_incN (k := 35) (m := 1) rfl (oi_nI 1) rfl ?_
      refine w_ls (ls2 := [some _, some _, some _, some _]) rfl ?_
      refine w_goto (k := 36) (t' := 4) rfl rfl ?_
      have e : nib (nib (crcL (-1) (A.take i) ^^^ nI (A.getD i 0))) = crcL (-1) (A.take (i + 1)) := by
        rw [← tk_app (by omega)]
        unfold crcL
        rw [List.foldl_append]
        rfl
      rw [e]
      exact ih (i + 1) (by omega)
  refine am_enter (ls := [some _, some _, none, none]) (cs := am_c59) rfl rfl (Nat.le_of_ble_eq_true rfl) rfl ?_
  refine w_ic (k := 0) (x := (-1)) rfl (by decide) ?_
  refine wp_istore (k := 1) rfl rfl ?_
  refine w_ic (k := 2) (x := nI 0) rfl (oi_nI 0) ?_
  refine wp_istore (k := 3) rfl rfl ?_
  exact loop m 0 (by omega)
theorem c_71 {A : List Nat} {p b n e : Nat} (he : pn_at (am_SH N) (am_RR w) e p) (hr : rw_at (am_SH N) (am_RR w) p b n) (hA : rw_B I p b n A) (h012 : p ∉ [0, 1, 2] ∧ b ∉ [0, 1, 2]) (h20 : 20 ≤ A.length) (hn : A.length + 8 ≤ n) (hst : stc I) (hq : ∀ I', rw_B I' p b n (at_ A 32808 (fgr A)) → (∀ x, x ≠ p → x ≠ b → I' x = I x) → Q none (am_SH N, I', L, am_RR w)) : am_call (d + 3) 71 [.ref e] (am_SH N, I, L, am_RR w) Q := by
  obtain ⟨e1, e2, e3⟩ := id he
  have r1 := hr.1
  simp only [List.mem_cons, List.not_mem_nil, or_false, not_or] at h012
  refine am_enter (ls := [some _, none]) (cs := am_c71) rfl rfl (Nat.le_of_ble_eq_true rfl) rfl ?_
  refine wp_aload (k := 0) rfl rfl ?_
  refine w_gr (k := 1) (s := 0) rfl rfl (by first | assumption | rfl) (by first | assumption | rfl) ?_
  refine w_Vi (k := 2) [] rfl rfl rfl (Nat.le_of_ble_eq_true rfl) (by first | assumption | rfl) (Or.inl ⟨rfl, rfl⟩) ?_
  refine (c_82 hr hA ?_)
  refine ⟨_, rfl, ?_⟩
  refine wp_istore (k := 3) rfl rfl ?_
  refine wp_aload (k := 4) rfl rfl ?_
  refine w_ic (k := 5) (x := nI 32808) rfl (oi_nI 32808) ?_
  refine w_ic (k := 6) (x := nI 4) rfl (oi_nI 4) ?_
  refine w_Vv (k := 7) [_, _] rfl rfl rfl (Nat.le_of_ble_eq_true rfl) (by first | assumption | rfl) (Or.inl ⟨rfl, rfl⟩) ?_
  refine (c_63 he hr hA h20 (m := 4) hn (fun I1 k1 f1 => ⟨rfl, ?_⟩))
  have st1 : stc I1 := stc_k hst (f1 0 (by omega) (by omega)) (f1 1 (by omega) (by omega)) (f1 2 (by omega) (by omega))
  refine wp_aload (k := 8) rfl rfl ?_
  refine w_gr (k := 9) (s := 0) rfl rfl (by first | assumption | rfl) (by first | assumption | rfl) ?_
  refine wp_aload (k := 10) rfl rfl ?_
  refine w_gr (k := 11) (s := 0) rfl rfl (by first | assumption | rfl) (by first | assumption | rfl) ?_
  refine wp_iload (k := 12) rfl rfl ?_
  refine w_Si (k := 13) [_, _] rfl rfl rfl (Nat.le_of_ble_eq_true rfl) (Or.inl ⟨rfl, rfl⟩) ?_
  refine (c_59 hr k1 (m := A.length) (by rw [hd_len (by omega)]; omega) st1 ?_)
  refine ⟨_, rfl, ?_⟩
  refine wp_i2l (k := 14) rfl ?_
  refine w_ic (k := 15) (x := nI 4) rfl (oi_nI 4) ?_
  refine w_Vv (k := 16) [_, _] rfl rfl rfl (Nat.le_of_ble_eq_true rfl) (by first | assumption | rfl) (Or.inl ⟨rfl, rfl⟩) ?_
  refine (c_87 hr k1 (by rw [hd_len (by omega)]; omega) (by decide) (fun I2 k2 f2 => ⟨rfl, ?_⟩))
  refine w_rv (k := 17) rfl rfl rfl rfl ?_
  refine hq I2 ?_ (fun x a b => by rw [f2 x a b, f1 x a b])
  have hw : (wr A 2 (be 2 (A.length + 4 + pad4 4 - 20))).length = A.length := wr_in (by rw [be_len]; omega)
  have e4 : (hd_ A (uI (nI 32808)) 4).take A.length = wr A 2 (be 2 (A.length + 4 + 4 - 20)) := by
    unfold hd_
    rw [List.take_append_of_le_length (by omega), List.take_of_length_le (by omega)]
    rfl
  rw [be_i _ (by decide), e4] at k2
  unfold at_ fgr
  rw [be_len, show pad4 4 - 4 = 0 from rfl, List.replicate_zero, List.append_nil]
  exact k2
theorem c_146 {A rl : List Nat} (hA : cT I A) (hst : stc I) (hs : sl I) (hrl : wd rl) (hr : L 18 3 = lN (vb 0 rl)) {u p : Int64} (hq : ∀ I', cT I' ((sp_sign A rl u p).getD A) → sl I' → fc [5, 6, 9, 10, 11, 12, 13, 14, 15, 16] I I' → Q (some (.int (rs (sp_sign A rl u p)))) (am_SH N, I', L, am_RR w)) : am_call (d + 6) 146 [.ref 4, .long u, .long p] (am_SH N, I, L, am_RR w) Q := by
  have no : ∀ ls, (isW u && isW p && tk A (nI 28) 32 400) = false → am_V 146 am_c146 (d + 5) (am_SH N) Q 12 ls [] (am_SH N, I, L, am_RR w) := by
    intro ls h
    unfold sp_sign at hq
    rw [if_neg (by rw [h]; decide)] at hq
    refine w_ic (k := 12) (x := (-1)) rfl (by decide) ?_
    refine w_ri (k := 13) rfl rfl rfl rfl ?_
    exact hq I hA hs fc_rf
  refine am_enter (ls := [some _, some _, none, some _, none]) (cs := am_c146) rfl rfl (Nat.le_of_ble_eq_true rfl) rfl ?_
  refine wp_lload (k := 0) rfl rfl ?_
  refine w_Si (k := 1) [_] rfl rfl rfl (Nat.le_of_ble_eq_true rfl) (Or.inl ⟨rfl, rfl⟩) ?_
  refine (c_126 ?_)
  refine ⟨_, rfl, ?_⟩
  refine w_b_eq (k := 2) (t' := 12) rfl rfl (fun k1 => ?_) (fun k1 => ?_)
  · exact no _ (by rw [k1]; rfl)
  · refine wp_lload (k := 3) rfl rfl ?_
    refine w_Si (k := 4) [_] rfl rfl rfl (Nat.le_of_ble_eq_true rfl) (Or.inl ⟨rfl, rfl⟩) ?_
    refine (c_126 ?_)
    refine ⟨_, rfl, ?_⟩
    refine w_b_eq (k := 5) (t' := 12) rfl rfl (fun k2 => ?_) (fun k2 => ?_)
    · exact no _ (by rw [k1, k2]; rfl)
    · refine wp_aload (k := 6) rfl rfl ?_
      refine w_gr (k := 7) (s := 2) rfl rfl (by first | assumption | rfl) (by first | assumption | rfl) ?_
      refine w_ic (k := 8) (x := nI 28) rfl (oi_nI 28) ?_
      refine w_ic (k := 9) (x := nI 32) rfl (oi_nI 32) ?_
      refine w_Vi (k := 10) [_, _] rfl rfl rfl (Nat.le_of_ble_eq_true rfl) (by first | assumption | rfl) (Or.inl ⟨rfl, rfl⟩) ?_
      refine (c_61 (pnT N w) (rwT N w) hA (by decide) ?_)
      refine ⟨_, rfl, ?_⟩
      refine w_b_ne (k := 11) (t' := 14) rfl rfl (fun k3 => ?_) (fun k3 => ?_)
      · unfold sp_sign at hq
        rw [if_pos (by rw [k1, k2, k3]; rfl)] at hq
        obtain ⟨t1, t2⟩ := tk_room k3
        have t2 : A.length + 4 + 32 ≤ 400 := t2
        refine wp_aload (k := 14) rfl rfl ?_
        refine w_gr (k := 15) (s := 1) rfl rfl (by first | assumption | rfl) (by first | assumption | rfl) ?_
        refine wp_lload (k := 16) rfl rfl ?_
        refine w_Sl (k := 17) [_] rfl rfl rfl (Nat.le_of_ble_eq_true rfl) (Or.inl ⟨rfl, rfl⟩) ?_
        refine (c_124 ?_)
        refine ⟨_, rfl, ?_⟩
        refine wp_aload (k := 18) rfl rfl ?_
        refine w_gr (k := 19) (s := 3) rfl rfl (by first | assumption | rfl) (by first | assumption | rfl) ?_
        refine w_Vl (k := 20) [] rfl rfl rfl (Nat.le_of_ble_eq_true rfl) (by first | assumption | rfl) (Or.inl ⟨rfl, rfl⟩) ?_
        refine am_enter (ls := [some _]) (cs := am_c132) rfl rfl (Nat.le_of_ble_eq_true rfl) rfl ?_
        refine wp_aload (k := 0) rfl rfl ?_
        refine w_gl (k := 1) (s := 3) rfl rfl (by first | assumption | rfl) (by first | assumption | rfl) ?_
        refine w_rl (k := 2) rfl rfl rfl rfl ?_
        refine ⟨_, rfl, ?_⟩
        refine wp_lload (k := 21) rfl rfl ?_
        refine w_Sl (k := 22) [_] rfl rfl rfl (Nat.le_of_ble_eq_true rfl) (Or.inl ⟨rfl, rfl⟩) ?_
        refine (c_124 ?_)
        refine ⟨_, rfl, ?_⟩
        refine w_Vv (k := 23) [_, _, _] rfl rfl rfl (Nat.le_of_ble_eq_true rfl) (by first | assumption | rfl) (Or.inl ⟨rfl, rfl⟩) ?_
        refine (c_92 (wd_nz u) hrl (wd_nz p) hst hs (fun I1 s1 k1 f1 => ⟨rfl, ?_⟩))
        have A1 := cT_k hA f1 (by decide) (by decide)
        have st1 := stc_k hst (f1 0 (by decide)) (f1 1 (by decide)) (f1 2 (by decide))
        refine wp_aload (k := 24) rfl rfl ?_
        refine w_gr (k := 25) (s := 2) rfl rfl (by first | assumption | rfl) (by first | assumption | rfl) ?_
        refine w_Vv (k := 26) [] rfl rfl rfl (Nat.le_of_ble_eq_true rfl) (by first | assumption | rfl) (Or.inl ⟨rfl, rfl⟩) ?_
        refine (c_70 (pnT N w) (rwT N w) A1 (by decide) t1 ⟨t2, by decide⟩ st1 s1 k1 (fun I2 s2 k2 f2 => ⟨rfl, ?_⟩))
        refine wp_aload (k := 27) rfl rfl ?_
        refine w_gr (k := 28) (s := 0) rfl rfl (by first | assumption | rfl) (by first | assumption | rfl) ?_
        refine w_Vi (k := 29) [] rfl rfl rfl (Nat.le_of_ble_eq_true rfl) (by first | assumption | rfl) (Or.inl ⟨rfl, rfl⟩) ?_
        refine (c_82 (rwT N w) k2 ?_)
        refine ⟨_, rfl, ?_⟩
        refine w_ri (k := 30) rfl rfl rfl rfl ?_
        exact hq I2 k2 s2 (fc_t (fc_mo f1 (by decide)) (fc_mo f2 (by decide)))
      · exact no _ (by rw [k3]; simp)
theorem c_147 {A : List Nat} (hA : cT I A) (hst : stc I) (hq : ∀ I', cT I' ((sp_fing A).getD A) → fc [5, 6] I I' → Q (some (.int (rs (sp_fing A)))) (am_SH N, I', L, am_RR w)) : am_call (d + 4) 147 [.ref 4] (am_SH N, I, L, am_RR w) Q := by
  unfold sp_fing at hq
  refine am_enter (ls := [some _]) (cs := am_c147) rfl rfl (Nat.le_of_ble_eq_true rfl) rfl ?_
  refine wp_aload (k := 0) rfl rfl ?_
  refine w_gr (k := 1) (s := 2) rfl rfl (by first | assumption | rfl) (by first | assumption | rfl) ?_
  refine w_ic (k := 2) (x := nI 32808) rfl (oi_nI 32808) ?_
  refine w_ic (k := 3) (x := nI 4) rfl (oi_nI 4) ?_
  refine w_Vi (k := 4) [_, _] rfl rfl rfl (Nat.le_of_ble_eq_true rfl) (by first | assumption | rfl) (Or.inl ⟨rfl, rfl⟩) ?_
  refine (c_61 (pnT N w) (rwT N w) hA (by decide) ?_)
  refine ⟨_, rfl, ?_⟩
  refine w_b_ne (k := 5) (t' := 8) rfl rfl (fun k3 => ?_) (fun k3 => ?_)
  · rw [if_pos k3] at hq
    obtain ⟨t1, t2⟩ := tk_room k3
    refine wp_aload (k := 8) rfl rfl ?_
    refine w_gr (k := 9) (s := 2) rfl rfl (by first | assumption | rfl) (by first | assumption | rfl) ?_
    refine w_Vv (k := 10) [] rfl rfl rfl (Nat.le_of_ble_eq_true rfl) (by first | assumption | rfl) (Or.inl ⟨rfl, rfl⟩) ?_
    refine (c_71 (pnT N w) (rwT N w) hA (by decide) t1 t2 hst (fun I1 k1 f1 => ⟨rfl, ?_⟩))
    refine wp_aload (k := 11) rfl rfl ?_
    refine w_gr (k := 12) (s := 0) rfl rfl (by first | assumption | rfl) (by first | assumption | rfl) ?_
    refine w_Vi (k := 13) [] rfl rfl rfl (Nat.le_of_ble_eq_true rfl) (by first | assumption | rfl) (Or.inl ⟨rfl, rfl⟩) ?_
    refine (c_82 (rwT N w) k1 ?_)
    refine ⟨_, rfl, ?_⟩
    refine w_ri (k := 14) rfl rfl rfl rfl ?_
    exact hq I1 k1 (fc_2 f1 (by decide) (by decide))
  · rw [if_neg (by rw [k3]; decide)] at hq
    refine w_ic (k := 6) (x := (-1)) rfl (by decide) ?_
    refine w_ri (k := 7) rfl rfl rfl rfl ?_
    exact hq I hA fc_rf
end SEAL
