/-! ===== SHA-256: the digest of the class ===== -/
def zc (n : Nat) : Nat := (55 + 64 - n % 64) % 64
def pd (P : List Nat) : List Nat := P ++ ([128] ++ (List.replicate (zc P.length) 0 ++ be 8 (8 * P.length)))
def mw (P : List Nat) (j i : Nat) : Int32 := nI (nb P (64 * j + 4 * i) 4)
def hh (P : List Nat) : Nat → Nat → Int32
  | 0 => kF
  | j + 1 => comp (hh P j) (mw P j)
def sha (P : List Nat) : List Nat := (List.range 8).flatMap (fun i => be 4 (uI (hh (pd P) ((pd P).length / 64) i)))
theorem pd_len (P : List Nat) : (pd P).length = P.length + 9 + zc P.length := by simp [pd, be_len]; omega
theorem pd_64 (P : List Nat) : (pd P).length % 64 = 0 := by rw [pd_len]; unfold zc; omega
theorem flat4_len (f : Nat → Nat) : ∀ n, ((List.range n).flatMap (fun i => be 4 (f i))).length = 4 * n
  | 0 => rfl
  | n + 1 => by rw [List.range_succ, List.flatMap_append, List.length_append, flat4_len f n]; simp [be_len]; omega
theorem sha_len (P : List Nat) : (sha P).length = 32 := flat4_len _ 8
theorem flat4_lt (f : Nat → Nat) (n : Nat) : ∀ c ∈ (List.range n).flatMap (fun i => be 4 (f i)), c < 256 := by
  intro c hc
  obtain ⟨i, -, h⟩ := List.mem_flatMap.mp hc
  exact be_lt _ _ _ h
theorem sha_lt (P : List Nat) : ∀ c ∈ sha P, c < 256 := flat4_lt _ 8
theorem sub_wrap {a b : Nat} (h : b ≤ 2 ^ 32) : nI a - nI b = nI (a + 2 ^ 32 - b) := by
  have e : nI a = nI (a + 2 ^ 32) := by rw [← nI_uI (nI (a + 2 ^ 32)), uI_mod, Nat.add_mod_right, ← uI_mod, nI_uI]
  rw [e, pk_sub (by omega)]
theorem i_and63 (m : Nat) : nI m &&& nI 63 = nI (m % 64) := fa_mask m 6
section SHD
variable {d N : Nat} {I : Nat → Nat → Int32} {L : Nat → Nat → Int64} {w : Option Nat} {Q : am_Q} {T B2 : List Nat} {p2 b2 : Nat}
theorem rwX (N : Nat) (w : Option Nat) : rw_at (am_SH N) (am_RR w) 11 12 572 := ⟨rfl, rfl, rfl, by decide, by decide⟩
theorem c_120 (hst : stc I) (hT : rw_B I 11 12 572 T) (hlen : T.length + 72 ≤ 572) (h2 : rw_at (am_SH N) (am_RR w) p2 b2 32) (hB : rw_B I p2 b2 32 B2) (hp2 : p2 ∉ [0, 1, 2, 9, 10, 11, 12]) (hb2 : b2 ∉ [0, 1, 2, 9, 10, 11, 12]) (hq : ∀ I', rw_B I' p2 b2 32 (sha T) → (∃ X, rw_B I' 11 12 572 X) → fc [9, 10, 11, 12, p2, b2] I I' → Q none (am_SH N, I', L, am_RR w)) : am_call (d + 2) 120 [.ref 8, .ref 11, .ref p2] (am_SH N, I, L, am_RR w) Q := by
  have hz : zc T.length < 64 := Nat.mod_lt _ (by decide)
  have u128 : be 1 (uN (lN 128)) = [128] := by decide
  simp only [List.mem_cons, List.not_mem_nil, or_false, not_or] at hp2 hb2
  have q2 := h2.1
  refine am_enter (ls := [some _, some _, some _, none, none, none, none]) (cs := am_c120) rfl rfl (Nat.le_of_ble_eq_true rfl) rfl ?_
  refine w_lc (k := 0) (x := lN 8) rfl (ol_lN 8) ?_
  refine wp_aload (k := 1) rfl rfl ?_
  refine w_Vi (k := 2) [] rfl rfl rfl (Nat.le_of_ble_eq_true rfl) (by first | assumption | rfl) (Or.inl ⟨rfl, rfl⟩) ?_
  refine (c_82 (rwX N w) hT ?_)
  refine ⟨_, rfl, ?_⟩
  refine wp_i2l (k := 3) rfl ?_
  rw [nI_l (by omega)]
  refine w_lmulN (k := 4) rfl ?_
  refine wp_lstore (k := 5) rfl rfl ?_
  refine wp_aload (k := 6) rfl rfl ?_
  refine w_lc (k := 7) (x := lN 128) rfl (ol_lN 128) ?_
  refine w_ic (k := 8) (x := nI 1) rfl (oi_nI 1) ?_
  refine w_Vv (k := 9) [_, _] rfl rfl rfl (Nat.le_of_ble_eq_true rfl) (by first | assumption | rfl) (Or.inl ⟨rfl, rfl⟩) ?_
  refine (c_87 (rwX N w) hT (by omega) (by decide) (fun I1 k1 f1 => ⟨rfl, ?_⟩))
  rw [u128] at k1
  have l1 : (T ++ [128]).length = T.length + 1 := by simp
  refine wp_aload (k := 10) rfl rfl ?_
  refine w_ic (k := 11) (x := nI 56) rfl (oi_nI 56) ?_
  refine wp_aload (k := 12) rfl rfl ?_
  refine w_Vi (k := 13) [] rfl rfl rfl (Nat.le_of_ble_eq_true rfl) (by first | assumption | rfl) (Or.inl ⟨rfl, rfl⟩) ?_
  refine (c_82 (rwX N w) k1 ?_)
  refine ⟨_, rfl, ?_⟩
  refine wp_isub (k := 14) rfl ?_
  refine w_ic (k := 15) (x := nI 63) rfl (oi_nI 63) ?_
  refine wp_iand (k := 16) rfl ?_
  rw [l1, sub_wrap (by omega), i_and63, show (56 + 2 ^ 32 - (T.length + 1)) % 64 = zc T.length by unfold zc; omega]
  refine w_Vv (k := 17) [_] rfl rfl rfl (Nat.le_of_ble_eq_true rfl) (by first | assumption | rfl) (Or.inl ⟨rfl, rfl⟩) ?_
  refine (c_88 (rwX N w) k1 (by rw [l1]; omega) (fun I2 k2 f2 => ⟨rfl, ?_⟩))
  refine wp_aload (k := 18) rfl rfl ?_
  refine wp_lload (k := 19) rfl rfl ?_
  refine w_ic (k := 20) (x := nI 8) rfl (oi_nI 8) ?_
  refine w_Vv (k := 21) [_, _] rfl rfl rfl (Nat.le_of_ble_eq_true rfl) (by first | assumption | rfl) (Or.inl ⟨rfl, rfl⟩) ?_
  refine (c_87 (rwX N w) k2 (by rw [List.length_append, l1, List.length_replicate]; omega) (by decide) (fun I3 k3 f3 => ⟨rfl, ?_⟩))
  rw [uN_lN (by omega), List.append_assoc, List.append_assoc] at k3
  have k3 : rw_B I3 11 12 572 (pd T) := k3
  have f3 : ∀ x, x ≠ 11 → x ≠ 12 → I3 x = I x := fun x a b => by rw [f3 x a b, f2 x a b, f1 x a b]
  have hpl := pd_len T
  have hp64 := pd_64 T
  have hst3 : stc I3 := stc_k hst (f3 0 (by decide) (by decide)) (f3 1 (by decide) (by decide)) (f3 2 (by decide) (by decide))
  refine wp_gets (k := 22) rfl ?_
  refine w_ic (k := 23) (x := nI 0) rfl (oi_nI 0) ?_
  refine wp_aload (k := 24) rfl rfl ?_
  refine w_gr (k := 25) (s := 0) rfl rfl (by first | assumption | rfl) (by first | assumption | rfl) ?_
  refine w_ic (k := 26) (x := nI 0) rfl (oi_nI 0) ?_
  refine w_ic (k := 27) (x := nI 8) rfl (oi_nI 8) ?_
  refine wp_copyi (k := 28) (n0 := 8) (n1 := 8) rfl (Nat.le_of_ble_eq_true rfl) (by decide) (by decide) rfl rfl (by decide) (by decide) (by decide) (by decide) (by decide) ?_
  have e0 : (nI 0).toNatClampNeg = 0 := by decide
  have e8 : (nI 8).toNatClampNeg = 8 := by decide
  rw [e0, e8]
  show am_V 120 am_c120 (d + 1) (am_SH N) Q 29 _ _ (am_SH N, va_up I3 9 (va_cpy (I3 0) (I3 9) 0 0 8), L, am_RR w)
  generalize hI4 : va_up I3 9 (va_cpy (I3 0) (I3 9) 0 0 8) = I4
  have f4 : ∀ x, x ≠ 9 → I4 x = I3 x := fun x hx => by rw [← hI4]; unfold va_up; rw [if_neg hx]
  have s4 : ∀ i, i < 8 → I4 9 i = hh (pd T) 0 i := fun i hi => by
    rw [← hI4]
    unfold va_up
    rw [if_pos rfl, sb_cpy0 hi]
    exact hst3.1 i hi
  have k4 : rw_B I4 11 12 572 (pd T) := rw_keep k3 (f4 11 (by decide)) (f4 12 (by decide))
  have hst4 : stc I4 := stc_k hst3 (f4 0 (by decide)) (f4 1 (by decide)) (f4 2 (by decide))
  have g4 : ∀ x, x ≠ 9 → x ≠ 10 → x ≠ 11 → x ≠ 12 → I4 x = I x := fun x a b c d => by rw [f4 x a, f3 x c d]
  have loop : ∀ (r j : Nat) (I5 : Nat → Nat → Int32) (o : Option Value), j + r = (pd T).length / 64 → rw_B I5 11 12 572 (pd T) → stc I5 → (∀ i, i < 8 → I5 9 i = hh (pd T) j i) → (∀ x, x ≠ 9 → x ≠ 10 → x ≠ 11 → x ≠ 12 → I5 x = I x) → am_V 120 am_c120 (d + 1) (am_SH N) Q 31 [some (.ref 8), some (.ref 11), some (.ref p2), some (.long (lN (8 * T.length))), none, some (.int (nI (64 * j))), o] [] (am_SH N, I5, L, am_RR w) := by
    intro r
    induction r with
    | zero =>
      intro j I5 o hj k5 hst5 s5 g5
      have hBk : rw_B I5 p2 b2 32 B2 := rw_keep hB (g5 p2 (by omega) (by omega) (by omega) (by omega)) (g5 b2 (by omega) (by omega) (by omega) (by omega))
      refine wp_iload (k := 31) rfl rfl ?_
      refine wp_aload (k := 32) rfl rfl ?_
      refine w_Vi (k := 33) [] rfl rfl rfl (Nat.le_of_ble_eq_true rfl) (by first | assumption | rfl) (Or.inl ⟨rfl, rfl⟩) ?_
      refine (c_82 (rwX N w) k5 ?_)
      refine ⟨_, rfl, ?_⟩
      refine w_n_ge (k := 34) (t' := 61) rfl rfl (by omega) (fun q => ?_) (fun q => absurd q (by omega))
      refine wp_aload (k := 61) rfl rfl ?_
      refine w_ic (k := 62) (x := nI 0) rfl (oi_nI 0) ?_
      refine w_Vv (k := 63) [_] rfl rfl rfl (Nat.le_of_ble_eq_true rfl) (by first | assumption | rfl) (Or.inl ⟨rfl, rfl⟩) ?_
      refine (c_86 h2 hBk (Nat.zero_le _) (fun I6 k6 f6 => ⟨rfl, ?_⟩))
      rw [List.take_zero] at k6
      have out : ∀ (r i : Nat) (I7 : Nat → Nat → Int32), i + r = 8 → rw_B I7 p2 b2 32 ((List.range i).flatMap (fun i => be 4 (uI (hh (pd T) j i)))) → (∀ x, x ≠ p2 → x ≠ b2 → I7 x = I5 x) → am_V 120 am_c120 (d + 1) (am_SH N) Q 66 [some (.ref 8), some (.ref 11), some (.ref p2), some (.long (lN (8 * T.length))), none, some (.int (nI i)), o] [] (am_SH N, I7, L, am_RR w) := by
        intro r
        induction r with
        | zero =>
          intro i I7 hi k7 f7
          obtain rfl : i = 8 := by omega
          refine wp_iload (k := 66) rfl rfl ?_
          refine w_ic (k := 67) (x := nI 8) rfl (oi_nI 8) ?_
          refine w_n_ge (k := 68) (t' := 79) rfl rfl (by omega) (fun q => ?_) (fun q => absurd q (by omega))
          refine w_rv (k := 79) rfl rfl rfl rfl ?_
          refine hq I7 ?_ ⟨pd T, rw_keep k5 (f7 11 (by omega) (by omega)) (f7 12 (by omega) (by omega))⟩ (fun x hx => ?_)
          · unfold sha
            rw [← show j = (pd T).length / 64 by omega]
            exact k7
          · simp only [List.mem_cons, List.not_mem_nil, or_false, not_or] at hx
            rw [f7 x (by omega) (by omega), g5 x (by omega) (by omega) (by omega) (by omega)]
        | succ r ih =>
          intro i I7 hi k7 f7
          have hv : I7 9 i = hh (pd T) j i := by rw [f7 9 (by omega) (by omega)]; exact s5 i (by omega)
          refine wp_iload (k := 66) rfl rfl ?_
          refine w_ic (k := 67) (x := nI 8) rfl (oi_nI 8) ?_
          refine w_n_ge (k := 68) (t' := 79) rfl rfl (by omega) (fun q => absurd q (by omega)) (fun q => ?_)
          refine wp_aload (k := 69) rfl rfl ?_
          refine wp_aload (k := 70) rfl rfl ?_
          refine w_gr (k := 71) (s := 0) rfl rfl (by first | assumption | rfl) (by first | assumption | rfl) ?_
          refine wp_iload (k := 72) rfl rfl ?_
          refine w_iald (k := 73) rfl rfl (by first | assumption | rfl) (by omega) hv ?_
          refine wp_i2l (k := 74) rfl ?_
          refine w_ic (k := 75) (x := nI 4) rfl (oi_nI 4) ?_
          refine w_Vv (k := 76) [_, _] rfl rfl rfl (Nat.le_of_ble_eq_true rfl) (by first | assumption | rfl) (Or.inl ⟨rfl, rfl⟩) ?_
          refine (c_87 h2 k7 (by rw [flat4_len]; omega) (by decide) (fun I8 k8 f8 => ⟨rfl, ?_⟩))
          refine w_incN (k := 77) (m := 1) rfl (oi_nI 1) rfl ?_
          refine w_goto (k := 78) (t' := 66) rfl rfl ?_
          refine ih (i + 1) I8 (by omega) ?_ (fun x a b => by rw [f8 x a b, f7 x a b])
          rw [be_i _ (by decide)] at k8
          rw [List.range_succ, List.flatMap_append]
          simpa using k8
      refine w_ic (k := 64) (x := nI 0) rfl (oi_nI 0) ?_
      refine wp_istore (k := 65) rfl rfl ?_
      exact out 8 0 I6 (by omega) (by simpa using k6) (fun x a b => f6 x a)
    | succ r ih =>
      intro j I5 o hj k5 hst5 s5 g5
      have hlt : 64 * j + 64 ≤ (pd T).length := by omega
      have inn : ∀ (r i : Nat) (I6 : Nat → Nat → Int32), i + r = 16 → (∀ t, t < i → I6 10 t = mw (pd T) j t) → (∀ x, x ≠ 10 → I6 x = I5 x) → am_V 120 am_c120 (d + 1) (am_SH N) Q 37 [some (.ref 8), some (.ref 11), some (.ref p2), some (.long (lN (8 * T.length))), none, some (.int (nI (64 * j))), some (.int (nI i))] [] (am_SH N, I6, L, am_RR w) := by
        intro r
        induction r with
        | zero =>
          intro i I6 hi m6 f6
          obtain rfl : i = 16 := by omega
          refine wp_iload (k := 37) rfl rfl ?_
          refine w_ic (k := 38) (x := nI 16) rfl (oi_nI 16) ?_
          refine w_n_ge (k := 39) (t' := 55) rfl rfl (by omega) (fun q => ?_) (fun q => absurd q (by omega))
          refine wp_aload (k := 55) rfl rfl ?_
          refine w_Vv (k := 56) [] rfl rfl rfl (Nat.le_of_ble_eq_true rfl) (by first | assumption | rfl) (Or.inl ⟨rfl, rfl⟩) ?_
          refine (c_121 (M := mw (pd T) j) m6 (fun I7 w7 f7 => ⟨rfl, ?_⟩))
          refine wp_aload (k := 57) rfl rfl ?_
          refine w_Vv (k := 58) [] rfl rfl rfl (Nat.le_of_ble_eq_true rfl) (by first | assumption | rfl) (Or.inl ⟨rfl, rfl⟩) ?_
          refine (c_122 (s := hh (pd T) j) (stc_k hst5 (by rw [f7 0 (by decide), f6 0 (by decide)]) (by rw [f7 1 (by decide), f6 1 (by decide)]) (by rw [f7 2 (by decide), f6 2 (by decide)])) (fun i hi => by rw [f7 9 (by decide), f6 9 (by decide)]; exact s5 i hi) w7 (fun I8 s8 f8 => ⟨rfl, ?_⟩))
          refine w_incN (k := 59) (m := 64) rfl (oi_nI 64) rfl ?_
          refine w_goto (k := 60) (t' := 31) rfl rfl ?_
          have e : ∀ x, x ≠ 9 → x ≠ 10 → I8 x = I5 x := fun x a b => by rw [f8 x a, f7 x b, f6 x b]
          refine ih (j + 1) I8 _ (by omega) (rw_keep k5 (e 11 (by decide) (by decide)) (e 12 (by decide) (by decide))) (stc_k hst5 (e 0 (by decide) (by decide)) (e 1 (by decide) (by decide)) (e 2 (by decide) (by decide))) s8 (fun x a b c d => by rw [e x a b, g5 x a b c d])
        | succ r ih2 =>
          intro i I6 hi m6 f6
          have k6 : rw_B I6 11 12 572 (pd T) := rw_keep k5 (f6 11 (by decide)) (f6 12 (by decide))
          refine wp_iload (k := 37) rfl rfl ?_
          refine w_ic (k := 38) (x := nI 16) rfl (oi_nI 16) ?_
          refine w_n_ge (k := 39) (t' := 55) rfl rfl (by omega) (fun q => absurd q (by omega)) (fun q => ?_)
          refine wp_aload (k := 40) rfl rfl ?_
          refine w_gr (k := 41) (s := 1) rfl rfl (by first | assumption | rfl) (by first | assumption | rfl) ?_
          refine wp_iload (k := 42) rfl rfl ?_
          refine wp_aload (k := 43) rfl rfl ?_
          refine wp_iload (k := 44) rfl rfl ?_
          refine w_ic (k := 45) (x := nI 4) rfl (oi_nI 4) ?_
          refine wp_iload (k := 46) rfl rfl ?_
          refine w_mulN (k := 47) rfl ?_
          refine w_addN (k := 48) rfl ?_
          refine w_ic (k := 49) (x := nI 4) rfl (oi_nI 4) ?_
          refine w_Vl (k := 50) [_, _] rfl rfl rfl (Nat.le_of_ble_eq_true rfl) (by first | assumption | rfl) (Or.inl ⟨rfl, rfl⟩) ?_
          refine (c_90 (rwX N w) k6 (by omega) ?_)
          refine ⟨_, rfl, ?_⟩
          refine wp_l2i (k := 51) rfl ?_
          rw [lN_i]
          refine w_iast (k := 52) rfl rfl (by omega) (by first | assumption | rfl) (by omega) ?_
          refine w_incN (k := 53) (m := 1) rfl (oi_nI 1) rfl ?_
          refine w_goto (k := 54) (t' := 37) rfl rfl ?_
          refine ih2 (i + 1) _ (by omega) (fun t ht => ?_) (fun x hx => by rw [am_uR hx, f6 x hx])
          rw [am_u_app]
          by_cases e : t = i
          · rw [if_pos ⟨rfl, e⟩, e]
            rfl
          · rw [if_neg (fun q => e q.2)]
            exact m6 t (by omega)
      refine wp_iload (k := 31) rfl rfl ?_
      refine wp_aload (k := 32) rfl rfl ?_
      refine w_Vi (k := 33) [] rfl rfl rfl (Nat.le_of_ble_eq_true rfl) (by first | assumption | rfl) (Or.inl ⟨rfl, rfl⟩) ?_
      refine (c_82 (rwX N w) k5 ?_)
      refine ⟨_, rfl, ?_⟩
      refine w_n_ge (k := 34) (t' := 61) rfl rfl (by omega) (fun q => absurd q (by omega)) (fun q => ?_)
      refine w_ic (k := 35) (x := nI 0) rfl (oi_nI 0) ?_
      refine wp_istore (k := 36) rfl rfl ?_
      exact inn 16 0 I5 (by omega) (fun t ht => absurd ht (Nat.not_lt_zero t)) (fun _ _ => rfl)
  refine w_ic (k := 29) (x := nI 0) rfl (oi_nI 0) ?_
  refine wp_istore (k := 30) rfl rfl ?_
  exact loop _ 0 I4 none (Nat.zero_add _) k4 hst4 s4 g4
end SHD
