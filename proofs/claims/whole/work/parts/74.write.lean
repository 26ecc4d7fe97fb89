/-! ===== the answer's attributes: the class ===== -/
def told (H : List Nat) (m rel lft ip port : Int32) : List Nat := if m = nI 3 then at_ (at_ (at_ H 22 (adr (-1062731519) rel)) 13 (be 4 (uI lft))) 32 (adr ip port) else if m = nI 4 then at_ H 13 (be 4 (uI lft)) else if m = nI 1 then at_ H 32 (adr ip port) else H
def errb (H rl : List Nat) (fr : Int64) (X : List Nat) (e : Nat) : List Nat := if e = 401 ∨ e = 438 then at_ (at_ (at_ H 9 (be 4 (e / 100 * 256 + e % 100))) 20 rl) 21 (be 8 (uN fr)) else if e = 420 then at_ (at_ H 9 (be 4 (e / 100 * 256 + e % 100))) 10 (twos X) else at_ H 9 (be 4 (e / 100 * 256 + e % 100))
def errs : List Nat := [400, 401, 403, 420, 437, 438, 441, 442, 486, 508]
theorem err_n : ∀ e ∈ errs, ((nI e / nI 100) <<< (nI 8 &&& 31)) ||| (nI e - nI e / nI 100 * nI 100) = nI (e / 100 * 256 + e % 100) := by decide
theorem errs_lt : ∀ e ∈ errs, 1 ≤ e ∧ e < 600 := by decide
theorem acs_e (U : UR) (rl : List Nat) (fr : Int64) (B : List Nat) (m : Int32) : (acs U rl fr B m).1 = 0 ∨ (acs U rl fr B m).1 ∈ errs := by
  unfold acs
  (repeat' split) <;> first | exact Or.inl rfl | (refine Or.inr ?_; decide)
theorem acs_m {U : UR} {rl : List Nat} {fr : Int64} {B : List Nat} {m : Int32} (h : (acs U rl fr B m).1 = 0) : m = nI 1 ∨ m = nI 3 ∨ m = nI 4 ∨ m = nI 8 ∨ m = nI 9 := by
  unfold acs at h
  by_cases c : m = nI 3 ∨ m = nI 4 ∨ m = nI 8 ∨ m = nI 9
  · exact Or.inr c
  · rw [if_neg c] at h
    by_cases c1 : m = nI 1
    · exact Or.inl c1
    · rw [if_neg c1] at h
      exact absurd h (by decide)
theorem pfm_e (al : Nat → Option AL) (t : Int64) (n sg : Int32) (F : FR) (B : List Nat) (ip port m : Int32) : (pfm al t n sg F B ip port m).1 = 0 ∨ (pfm al t n sg F B ip port m).1 ∈ errs := by
  unfold pfm alc rfr ppr bch
  (repeat' split) <;> first | exact Or.inl rfl | (refine Or.inr ?_; dsimp only; decide)
theorem strg_lt (D : List AT) : ∀ c ∈ strg D, c < 65536 := by
  have h : ∀ (D : List AT) (A : List Nat), (∀ c ∈ A, c < 65536) → ∀ c ∈ D.foldl (fun A a => stp A a.1) A, c < 65536 := by
    intro D
    induction D with
    | nil => intro A hA; exact hA
    | cons a D ih =>
      intro A hA
      refine ih _ ?_
      show ∀ c ∈ stp A a.1, c < 65536
      unfold stp
      split
      · next hc =>
        rw [Bool.and_eq_true, Bool.and_eq_true] at hc
        have h1 := hc.1.1
        unfold isStr at h1
        rw [Bool.and_eq_true] at h1
        have := of_decide_eq_true h1.2
        intro c hc
        rcases List.mem_append.mp hc with q | q
        · exact hA c q
        · rw [List.mem_singleton.mp q]; omega
      · exact hA
  exact h D [] (fun c hc => by cases hc)
theorem pad4_4 : pad4 4 = 4 := rfl
theorem pad4_8 : pad4 8 = 8 := rfl
theorem told_len {H : List Nat} (h : H.length = 20) (m rel lft ip port : Int32) : 20 ≤ (told H m rel lft ip port).length ∧ (told H m rel lft ip port).length ≤ 60 := by
  unfold told
  by_cases m3 : m = nI 3
  · rw [if_pos m3]
    have a1 : (at_ H 22 (adr (-1062731519) rel)).length = 32 := by rw [at_len (by omega), adr_len, h, pad4_8]
    have a2 : (at_ (at_ H 22 (adr (-1062731519) rel)) 13 (be 4 (uI lft))).length = 40 := by rw [at_len (by omega), be_len, a1, pad4_4]
    rw [at_len (by omega), adr_len, a2, pad4_8]; omega
  · rw [if_neg m3]
    by_cases m4 : m = nI 4
    · rw [if_pos m4]; simp [at_len, h, be_len, pad4_4]
    · rw [if_neg m4]
      by_cases m1 : m = nI 1
      · rw [if_pos m1]; simp [at_len, h, adr_len, pad4_8]
      · rw [if_neg m1]; omega
theorem errb_len {H rl X : List Nat} (h : H.length = 20) (hr : rl.length ≤ 8) (hX : X.length ≤ 8) (fr : Int64) (e : Nat) : 20 ≤ (errb H rl fr X e).length ∧ (errb H rl fr X e).length ≤ 60 := by
  have p1 := pad4_ge rl.length
  have p2 := pad4_ge (twos X).length
  have p3 : pad4 rl.length ≤ 8 := by unfold pad4; omega
  have p4 : pad4 (twos X).length ≤ 16 := by rw [twos_len]; unfold pad4; omega
  unfold errb
  by_cases c1 : e = 401 ∨ e = 438
  · rw [if_pos c1]
    have a1 : (at_ H 9 (be 4 (e / 100 * 256 + e % 100))).length = 28 := by rw [at_len (by omega), be_len, h, pad4_4]
    have a2 : (at_ (at_ H 9 (be 4 (e / 100 * 256 + e % 100))) 20 rl).length = 32 + pad4 rl.length := by rw [at_len (by omega), a1]
    rw [at_len (by omega), be_len, a2, pad4_8]; omega
  · rw [if_neg c1]
    by_cases c2 : e = 420
    · rw [if_pos c2]; simp [at_len, h, be_len, pad4_4]; omega
    · rw [if_neg c2]; simp [at_len, h, be_len, pad4_4]
section WR
variable {d N : Nat} {I : Nat → Nat → Int32} {L : Nat → Nat → Int64} {w : Option Nat} {Q : am_Q} {A H : List Nat} {t : Int64} {ip port : Int32} {T : Nat → Int32} {rl X : List Nat}
theorem c_118 (hH : rw_B I 83 84 436 H) (h20 : H.length = 20) (hT : tl_c I T) (hrl : wd rl) {fr : Int64} (h3 : L 18 3 = lN (vb 0 rl)) (h4 : L 18 4 = fr) (hX : ∀ i, i < X.length → I 92 i = nI (X.getD i 0)) (hX8 : X.length ≤ 8) (hXb : ∀ c ∈ X, c < 65536) (h10 : I 91 10 = nI X.length) {e : Nat} (he : e ∈ errs) (hq : ∀ I', rw_B I' 83 84 436 (errb H rl fr X e) → tl_c I' (inc T 4) → fc [83, 84, 90] I I' → Q none (am_SH N, I', L, am_RR w)) : am_call (d + 4) 118 [.ref 91, .int (nI e)] (am_SH N, I, L, am_RR w) Q := by
  have hr8 := hrl.1
  have hel := errs_lt e he
  refine am_enter (ls := [some _, some _]) (cs := am_c118) rfl rfl (Nat.le_of_ble_eq_true rfl) rfl ?_
  refine wp_aload (k := 0) rfl rfl ?_
  refine w_gr (k := 1) (s := 4) rfl rfl (by first | assumption | rfl) (by first | assumption | rfl) ?_
  refine w_ic (k := 2) (x := nI 8) rfl (oi_nI 8) ?_
  refine w_Vv (k := 3) [_] rfl rfl rfl (Nat.le_of_ble_eq_true rfl) (by first | assumption | rfl) (Or.inl ⟨rfl, rfl⟩) ?_
  refine (c_78 (j := 4) (by decide) hT (fun I1 t1 f1 => ⟨rfl, ?_⟩))
  refine wp_aload (k := 4) rfl rfl ?_
  refine w_gr (k := 5) (s := 7) rfl rfl (by first | assumption | rfl) (by first | assumption | rfl) ?_
  refine w_ic (k := 6) (x := nI 9) rfl (oi_nI 9) ?_
  refine wp_iload (k := 7) rfl rfl ?_
  refine w_ic (k := 8) (x := nI 100) rfl (oi_nI 100) ?_
  refine wp_idiv (k := 9) rfl (by decide) ?_
  refine w_ic (k := 10) (x := nI 8) rfl (oi_nI 8) ?_
  refine wp_ishl (k := 11) rfl ?_
  refine wp_iload (k := 12) rfl rfl ?_
  refine w_ic (k := 13) (x := nI 100) rfl (oi_nI 100) ?_
  refine wp_irem (k := 14) rfl (by decide) ?_
  refine wp_ior (k := 15) rfl ?_
  rw [err_n e he]
  have H1 := rw_keep hH (f1 83 (by decide)) (f1 84 (by decide))
  refine wp_i2l (k := 16) rfl ?_
  refine w_ic (k := 17) (x := nI 4) rfl (oi_nI 4) ?_
  refine w_Vv (k := 18) [_, _, _] rfl rfl rfl (Nat.le_of_ble_eq_true rfl) (by first | assumption | rfl) (Or.inl ⟨rfl, rfl⟩) ?_
  refine (c_65 (pnS N w) (rwS N w) H1 (by omega) (by decide) (by rw [pad4_4]; omega) (fun I2 k2 f2 => ⟨rfl, ?_⟩))
  rw [be_i _ (by decide), uI_nI (by omega), uI_nI (by omega)] at k2
  have F2 : fc [83, 84, 90] I I2 := fc_t (fc_1 (a := 90) f1 (by decide)) (fc_2 (a := 83) (b := 84) f2 (by decide) (by decide))
  have T2 : tl_c I2 (inc T 4) := fun j hj => by rw [f2 90 (by decide) (by decide)]; exact t1 j hj
  have len2 : (at_ H 9 (be 4 (e / 100 * 256 + e % 100))).length = 28 := by simp [at_len, h20, be_len, pad4_4]
  generalize hG : at_ H 9 (be 4 (e / 100 * 256 + e % 100)) = G at *
  have hpad : pad4 rl.length ≤ 8 := by unfold pad4; omega
  have hend : e ≠ 401 → e ≠ 438 → am_V 118 am_c118 (d + 3) (am_SH N) Q 44 [some (.ref 91), some (.int (nI e))] [] (am_SH N, I2, L, am_RR w) := fun n1 n2 => by
    unfold errb at hq
    rw [if_neg (by omega), hG] at hq
    refine wp_iload (k := 44) rfl rfl ?_
    refine w_ic (k := 45) (x := nI 420) rfl (oi_nI 420) ?_
    refine w_n_ne (k := 46) (t' := 54) rfl rfl (by omega) (fun k1 => ?_) (fun k1 => ?_)
    · rw [if_neg k1] at hq
      refine w_rv (k := 54) rfl rfl rfl rfl ?_
      exact hq I2 k2 T2 F2
    · rw [if_pos k1] at hq
      have v10 : I2 91 10 = nI X.length := by rw [F2 91 (by decide)]; exact h10
      have hp16 : pad4 (2 * X.length) ≤ 16 := by unfold pad4; omega
      refine wp_aload (k := 47) rfl rfl ?_
      refine w_gr (k := 48) (s := 7) rfl rfl (by first | assumption | rfl) (by first | assumption | rfl) ?_
      refine wp_aload (k := 49) rfl rfl ?_
      refine w_gr (k := 50) (s := 8) rfl rfl (by first | assumption | rfl) (by first | assumption | rfl) ?_
      refine wp_aload (k := 51) rfl rfl ?_
      refine w_gi (k := 52) (s := 10) rfl rfl (by first | assumption | rfl) v10 ?_
      refine w_Vv (k := 53) [_, _] rfl rfl rfl (Nat.le_of_ble_eq_true rfl) (by first | assumption | rfl) (Or.inl ⟨rfl, rfl⟩) ?_
      refine (c_68 (pnS N w) (rwS N w) k2 (by omega) (a := 92) rfl (by decide) (m := 8) ⟨hX8, by decide⟩ (fun i hi => by rw [F2 92 (by decide)]; exact hX i hi) hXb (by omega) (fun I3 k3 f3 => ⟨rfl, ?_⟩))
      refine w_rv (k := 54) rfl rfl rfl rfl ?_
      exact hq I3 k3 (fun j hj => by rw [f3 90 (by decide) (by decide)]; exact T2 j hj) (fc_t F2 (fc_2 (a := 83) (b := 84) f3 (by decide) (by decide)))
  have hgo : e = 401 ∨ e = 438 → am_V 118 am_c118 (d + 3) (am_SH N) Q 25 [some (.ref 91), some (.int (nI e))] [] (am_SH N, I2, L, am_RR w) := fun n1 => by
    unfold errb at hq
    rw [if_pos n1, hG] at hq
    refine wp_aload (k := 25) rfl rfl ?_
    refine w_gr (k := 26) (s := 7) rfl rfl (by first | assumption | rfl) (by first | assumption | rfl) ?_
    refine w_ic (k := 27) (x := nI 20) rfl (oi_nI 20) ?_
    refine wp_aload (k := 28) rfl rfl ?_
    refine w_gr (k := 29) (s := 1) rfl rfl (by first | assumption | rfl) (by first | assumption | rfl) ?_
    refine w_Vl (k := 30) [] rfl rfl rfl (Nat.le_of_ble_eq_true rfl) (by first | assumption | rfl) (Or.inl ⟨rfl, rfl⟩) ?_
    refine (c_132 ?_)
    refine ⟨_, rfl, ?_⟩
    refine wp_aload (k := 31) rfl rfl ?_
    refine w_gr (k := 32) (s := 1) rfl rfl (by first | assumption | rfl) (by first | assumption | rfl) ?_
    refine w_Vl (k := 33) [] rfl rfl rfl (Nat.le_of_ble_eq_true rfl) (by first | assumption | rfl) (Or.inl ⟨rfl, rfl⟩) ?_
    refine (c_132 ?_)
    refine ⟨_, rfl, ?_⟩
    rw [h3]
    refine w_Si (k := 34) [_] rfl rfl rfl (Nat.le_of_ble_eq_true rfl) (Or.inl ⟨rfl, rfl⟩) ?_
    refine (c_125 hrl.1 hrl.2 ?_)
    refine ⟨_, rfl, ?_⟩
    refine w_Vv (k := 35) [_, _, _] rfl rfl rfl (Nat.le_of_ble_eq_true rfl) (by first | assumption | rfl) (Or.inl ⟨rfl, rfl⟩) ?_
    refine (c_65 (pnS N w) (rwS N w) k2 (by omega) (by omega) (by omega) (fun I3 k3 f3 => ⟨rfl, ?_⟩))
    rw [wd_be hrl, uI_nI (by decide)] at k3
    have len3 : (at_ G 20 rl).length ≤ 40 ∧ 20 ≤ (at_ G 20 rl).length := by rw [at_len (by omega)]; omega
    refine wp_aload (k := 36) rfl rfl ?_
    refine w_gr (k := 37) (s := 7) rfl rfl (by first | assumption | rfl) (by first | assumption | rfl) ?_
    refine w_ic (k := 38) (x := nI 21) rfl (oi_nI 21) ?_
    refine wp_aload (k := 39) rfl rfl ?_
    refine w_gr (k := 40) (s := 1) rfl rfl (by first | assumption | rfl) (by first | assumption | rfl) ?_
    refine w_Vl (k := 41) [] rfl rfl rfl (Nat.le_of_ble_eq_true rfl) (by first | assumption | rfl) (Or.inl ⟨rfl, rfl⟩) ?_
    refine (c_134 ?_)
    refine ⟨_, rfl, ?_⟩
    rw [h4]
    refine w_ic (k := 42) (x := nI 8) rfl (oi_nI 8) ?_
    refine w_Vv (k := 43) [_, _, _] rfl rfl rfl (Nat.le_of_ble_eq_true rfl) (by first | assumption | rfl) (Or.inl ⟨rfl, rfl⟩) ?_
    refine (c_65 (pnS N w) (rwS N w) k3 (by omega) (by decide) (by rw [pad4_8]; omega) (fun I4 k4 f4 => ⟨rfl, ?_⟩))
    rw [uI_nI (by decide)] at k4
    have F4 : fc [83, 84, 90] I I4 := fc_t F2 (fc_t (fc_2 (a := 83) (b := 84) f3 (by decide) (by decide)) (fc_2 (a := 83) (b := 84) f4 (by decide) (by decide)))
    refine wp_iload (k := 44) rfl rfl ?_
    refine w_ic (k := 45) (x := nI 420) rfl (oi_nI 420) ?_
    refine w_n_ne (k := 46) (t' := 54) rfl rfl (by omega) (fun zq => ?_) (fun zq => absurd zq (by omega))
    refine w_rv (k := 54) rfl rfl rfl rfl ?_
    exact hq I4 k4 (fun j hj => by rw [f4 90 (by decide) (by decide), f3 90 (by decide) (by decide)]; exact T2 j hj) F4
  refine wp_iload (k := 19) rfl rfl ?_
  refine w_ic (k := 20) (x := nI 401) rfl (oi_nI 401) ?_
  refine w_n_eq (k := 21) (t' := 25) rfl rfl (by omega) (fun k1 => ?_) (fun k1 => ?_)
  · exact hgo (Or.inl k1)
  · refine wp_iload (k := 22) rfl rfl ?_
    refine w_ic (k := 23) (x := nI 438) rfl (oi_nI 438) ?_
    refine w_n_ne (k := 24) (t' := 44) rfl rfl (by omega) (fun k2' => ?_) (fun k2' => ?_)
    · exact hend k1 k2'
    · exact hgo (Or.inr k2')
theorem c_117 (hH : rw_B I 83 84 436 H) (h20 : H.length = 20) (ht : L 24 1 = t) (h11 : I 91 11 = ip) (h12 : I 91 12 = port) {m rel lft : Int32} (hk : m = nI 3 ∨ m = nI 4 → ∃ k, k < 8 ∧ w = some (26 + 7 * k) ∧ (m = nI 3 → I (26 + 7 * k) 4 = rel) ∧ (L (26 + 7 * k) 5 - t).toInt32 = lft) (hq : ∀ I', rw_B I' 83 84 436 (told H m rel lft ip port) → fc [83, 84] I I' → Q none (am_SH N, I', L, am_RR w)) : am_call (d + 4) 117 [.ref 91, .int m] (am_SH N, I, L, am_RR w) Q := by
  unfold told at hq
  refine am_enter (ls := [some _, some _]) (cs := am_c117) rfl rfl (Nat.le_of_ble_eq_true rfl) rfl ?_
  by_cases m3 : m = nI 3
  · rw [if_pos m3] at hq
    obtain ⟨k, hk8, hw, e1, e2⟩ := hk (Or.inl m3)
    have e1' := e1 m3
    clear e1
    subst hw m3
    have q0 := (aq_of N (some (26 + 7 * k)) hk8).1
    generalize hqk : 26 + 7 * k = q at *
    refine wp_iload (k := 0) rfl rfl ?_
    refine w_ic (k := 1) (x := nI 3) rfl (oi_nI 3) ?_
    refine w_n_ne (k := 2) (t' := 14) rfl rfl (by omega) (fun zq => absurd zq (by omega)) (fun zq => ?_)
    refine wp_aload (k := 3) rfl rfl ?_
    refine w_gr (k := 4) (s := 13) rfl rfl (by first | assumption | rfl) (by first | assumption | rfl) ?_
    refine wp_ifnull (k := 5) rfl ?_
    refine wp_aload (k := 6) rfl rfl ?_
    refine w_gr (k := 7) (s := 7) rfl rfl (by first | assumption | rfl) (by first | assumption | rfl) ?_
    refine w_ic (k := 8) (x := nI 22) rfl (oi_nI 22) ?_
    refine w_ic (k := 9) (x := (-1062731519)) rfl (by decide) ?_
    refine wp_aload (k := 10) rfl rfl ?_
    refine w_gr (k := 11) (s := 13) rfl rfl (by first | assumption | rfl) (by first | assumption | rfl) ?_
    refine w_gi (k := 12) (s := 4) rfl rfl (by first | assumption | rfl) e1' ?_
    refine w_Vv (k := 13) [_, _, _] rfl rfl rfl (Nat.le_of_ble_eq_true rfl) (by first | assumption | rfl) (Or.inl ⟨rfl, rfl⟩) ?_
    refine (c_67 (pnS N _) (rwS N _) hH (by omega) (by omega) (fun I1 k1 f1 => ⟨rfl, ?_⟩))
    rw [uI_nI (by decide)] at k1
    have len1 : (at_ H 22 (adr (-1062731519) rel)).length = 32 := by simp [at_len, h20, adr_len, pad4_8]
    refine wp_iload (k := 14) rfl rfl ?_
    refine w_ic (k := 15) (x := nI 3) rfl (oi_nI 3) ?_
    refine w_n_eq (k := 16) (t' := 20) rfl rfl (by omega) (fun zq => ?_) (fun zq => absurd zq (by omega))
    refine wp_aload (k := 20) rfl rfl ?_
    refine w_gr (k := 21) (s := 13) rfl rfl (by first | assumption | rfl) (by first | assumption | rfl) ?_
    refine wp_ifnull (k := 22) rfl ?_
    refine wp_aload (k := 23) rfl rfl ?_
    refine w_gr (k := 24) (s := 7) rfl rfl (by first | assumption | rfl) (by first | assumption | rfl) ?_
    refine w_ic (k := 25) (x := nI 13) rfl (oi_nI 13) ?_
    refine wp_aload (k := 26) rfl rfl ?_
    refine w_gr (k := 27) (s := 13) rfl rfl (by first | assumption | rfl) (by first | assumption | rfl) ?_
    refine wp_aload (k := 28) rfl rfl ?_
    refine w_gr (k := 29) (s := 3) rfl rfl (by first | assumption | rfl) (by first | assumption | rfl) ?_
    refine w_Vl (k := 30) [] rfl rfl rfl (Nat.le_of_ble_eq_true rfl) (by first | assumption | rfl) (Or.inl ⟨rfl, rfl⟩) ?_
    refine am_enter (ls := [some _]) (cs := am_c22) rfl rfl (Nat.le_of_ble_eq_true rfl) rfl ?_
    refine wp_aload (k := 0) rfl rfl ?_
    refine w_gl (k := 1) (s := 1) rfl rfl (by first | assumption | rfl) (by first | assumption | rfl) ?_
    refine w_rl (k := 2) rfl rfl rfl rfl ?_
    refine ⟨_, rfl, ?_⟩
    refine w_Vi (k := 31) [_] rfl rfl rfl (Nat.le_of_ble_eq_true rfl) (by first | assumption | rfl) (Or.inl ⟨rfl, rfl⟩) ?_
    refine am_enter (ls := [some _, some _, none]) (cs := am_c5) rfl rfl (Nat.le_of_ble_eq_true rfl) rfl ?_
    refine wp_aload (k := 0) rfl rfl ?_
    refine w_gl (k := 1) (s := 5) rfl rfl (by first | assumption | rfl) (by first | assumption | rfl) ?_
    refine wp_lload (k := 2) rfl rfl ?_
    refine wp_lsub (k := 3) rfl ?_
    refine wp_l2i (k := 4) rfl ?_
    refine w_ri (k := 5) rfl rfl rfl rfl ?_
    refine ⟨_, rfl, ?_⟩
    refine wp_i2l (k := 32) rfl ?_
    refine w_ic (k := 33) (x := nI 4) rfl (oi_nI 4) ?_
    refine w_Vv (k := 34) [_, _, _] rfl rfl rfl (Nat.le_of_ble_eq_true rfl) (by first | assumption | rfl) (Or.inl ⟨rfl, rfl⟩) ?_
    refine (c_65 (pnS N _) (rwS N _) k1 (by omega) (by decide) (by rw [pad4_4]; omega) (fun I2 k2 f2 => ⟨rfl, ?_⟩))
    rw [e2, be_i _ (by decide), uI_nI (by decide)] at k2
    have len2 : (at_ (at_ H 22 (adr (-1062731519) rel)) 13 (be 4 (uI lft))).length = 40 := by simp [at_len, h20, adr_len, be_len, pad4_8, pad4_4]
    have F2 : fc [83, 84] I I2 := fc_t (fc_2 (a := 83) (b := 84) f1 (by decide) (by decide)) (fc_2 (a := 83) (b := 84) f2 (by decide) (by decide))
    have g11 : I2 91 11 = ip := by rw [F2 91 (by decide)]; exact h11
    have g12 : I2 91 12 = port := by rw [F2 91 (by decide)]; exact h12
    refine wp_iload (k := 35) rfl rfl ?_
    refine w_ic (k := 36) (x := nI 3) rfl (oi_nI 3) ?_
    refine w_n_eq (k := 37) (t' := 41) rfl rfl (by omega) (fun zq => ?_) (fun zq => absurd zq (by omega))
    refine wp_aload (k := 41) rfl rfl ?_
    refine w_gr (k := 42) (s := 7) rfl rfl (by first | assumption | rfl) (by first | assumption | rfl) ?_
    refine w_ic (k := 43) (x := nI 32) rfl (oi_nI 32) ?_
    refine wp_aload (k := 44) rfl rfl ?_
    refine w_gi (k := 45) (s := 11) rfl rfl (by first | assumption | rfl) g11 ?_
    refine wp_aload (k := 46) rfl rfl ?_
    refine w_gi (k := 47) (s := 12) rfl rfl (by first | assumption | rfl) g12 ?_
    refine w_Vv (k := 48) [_, _, _] rfl rfl rfl (Nat.le_of_ble_eq_true rfl) (by first | assumption | rfl) (Or.inl ⟨rfl, rfl⟩) ?_
    refine (c_67 (pnS N _) (rwS N _) k2 (by omega) (by omega) (fun I3 k3 f3 => ⟨rfl, ?_⟩))
    refine w_rv (k := 49) rfl rfl rfl rfl ?_
    rw [uI_nI (by decide)] at k3
    exact hq I3 k3 (fc_t F2 (fc_2 (a := 83) (b := 84) f3 (by decide) (by decide)))
  · rw [if_neg m3] at hq
    by_cases m4 : m = nI 4
    · rw [if_pos m4] at hq
      obtain ⟨k, hk8, hw, -, e2⟩ := hk (Or.inr m4)
      subst hw m4
      have q0 := (aq_of N (some (26 + 7 * k)) hk8).1
      generalize hqk : 26 + 7 * k = q at *
      refine wp_iload (k := 0) rfl rfl ?_
      refine w_ic (k := 1) (x := nI 3) rfl (oi_nI 3) ?_
      refine w_n_ne (k := 2) (t' := 14) rfl rfl (by omega) (fun zq => ?_) (fun zq => absurd zq (by omega))
      refine wp_iload (k := 14) rfl rfl ?_
      refine w_ic (k := 15) (x := nI 3) rfl (oi_nI 3) ?_
      refine w_n_eq (k := 16) (t' := 20) rfl rfl (by omega) (fun zq => absurd zq (by omega)) (fun zq => ?_)
      refine wp_iload (k := 17) rfl rfl ?_
      refine w_ic (k := 18) (x := nI 4) rfl (oi_nI 4) ?_
      refine w_n_ne (k := 19) (t' := 35) rfl rfl (by omega) (fun zq => absurd zq (by omega)) (fun zq => ?_)
      refine wp_aload (k := 20) rfl rfl ?_
      refine w_gr (k := 21) (s := 13) rfl rfl (by first | assumption | rfl) (by first | assumption | rfl) ?_
      refine wp_ifnull (k := 22) rfl ?_
      refine wp_aload (k := 23) rfl rfl ?_
      refine w_gr (k := 24) (s := 7) rfl rfl (by first | assumption | rfl) (by first | assumption | rfl) ?_
      refine w_ic (k := 25) (x := nI 13) rfl (oi_nI 13) ?_
      refine wp_aload (k := 26) rfl rfl ?_
      refine w_gr (k := 27) (s := 13) rfl rfl (by first | assumption | rfl) (by first | assumption | rfl) ?_
      refine wp_aload (k := 28) rfl rfl ?_
      refine w_gr (k := 29) (s := 3) rfl rfl (by first | assumption | rfl) (by first | assumption | rfl) ?_
      refine w_Vl (k := 30) [] rfl rfl rfl (Nat.le_of_ble_eq_true rfl) (by first | assumption | rfl) (Or.inl ⟨rfl, rfl⟩) ?_
      refine am_enter (ls := [some _]) (cs := am_c22) rfl rfl (Nat.le_of_ble_eq_true rfl) rfl ?_
      refine wp_aload (k := 0) rfl rfl ?_
      refine w_gl (k := 1) (s := 1) rfl rfl (by first | assumption | rfl) (by first | assumption | rfl) ?_
      refine w_rl (k := 2) rfl rfl rfl rfl ?_
      refine ⟨_, rfl, ?_⟩
      refine w_Vi (k := 31) [_] rfl rfl rfl (Nat.le_of_ble_eq_true rfl) (by first | assumption | rfl) (Or.inl ⟨rfl, rfl⟩) ?_
      refine am_enter (ls := [some _, some _, none]) (cs := am_c5) rfl rfl (Nat.le_of_ble_eq_true rfl) rfl ?_
      refine wp_aload (k := 0) rfl rfl ?_
      refine w_gl (k := 1) (s := 5) rfl rfl (by first | assumption | rfl) (by first | assumption | rfl) ?_
      refine wp_lload (k := 2) rfl rfl ?_
      refine wp_lsub (k := 3) rfl ?_
      refine wp_l2i (k := 4) rfl ?_
      refine w_ri (k := 5) rfl rfl rfl rfl ?_
      refine ⟨_, rfl, ?_⟩
      refine wp_i2l (k := 32) rfl ?_
      refine w_ic (k := 33) (x := nI 4) rfl (oi_nI 4) ?_
      refine w_Vv (k := 34) [_, _, _] rfl rfl rfl (Nat.le_of_ble_eq_true rfl) (by first | assumption | rfl) (Or.inl ⟨rfl, rfl⟩) ?_
      refine (c_65 (pnS N _) (rwS N _) hH (by omega) (by decide) (by rw [pad4_4]; omega) (fun I2 k2 f2 => ⟨rfl, ?_⟩))
      rw [e2, be_i _ (by decide), uI_nI (by decide)] at k2
      refine wp_iload (k := 35) rfl rfl ?_
      refine w_ic (k := 36) (x := nI 3) rfl (oi_nI 3) ?_
      refine w_n_eq (k := 37) (t' := 41) rfl rfl (by omega) (fun zq => absurd zq (by omega)) (fun zq => ?_)
      refine wp_iload (k := 38) rfl rfl ?_
      refine w_ic (k := 39) (x := nI 1) rfl (oi_nI 1) ?_
      refine w_n_ne (k := 40) (t' := 49) rfl rfl (by omega) (fun zq => ?_) (fun zq => absurd zq (by omega))
      refine w_rv (k := 49) rfl rfl rfl rfl ?_
      exact hq I2 k2 (fc_2 (a := 83) (b := 84) f2 (by decide) (by decide))
    · rw [if_neg m4] at hq
      refine wp_iload (k := 0) rfl rfl ?_
      refine w_ic (k := 1) (x := nI 3) rfl (oi_nI 3) ?_
      refine w_c_ne (k := 2) (t' := 14) rfl rfl (fun zq => ?_) (fun zq => absurd zq m3)
      refine wp_iload (k := 14) rfl rfl ?_
      refine w_ic (k := 15) (x := nI 3) rfl (oi_nI 3) ?_
      refine w_c_eq (k := 16) (t' := 20) rfl rfl (fun zq => absurd zq m3) (fun zq => ?_)
      refine wp_iload (k := 17) rfl rfl ?_
      refine w_ic (k := 18) (x := nI 4) rfl (oi_nI 4) ?_
      refine w_c_ne (k := 19) (t' := 35) rfl rfl (fun zq => ?_) (fun zq => absurd zq m4)
      refine wp_iload (k := 35) rfl rfl ?_
      refine w_ic (k := 36) (x := nI 3) rfl (oi_nI 3) ?_
      refine w_c_eq (k := 37) (t' := 41) rfl rfl (fun zq => absurd zq m3) (fun zq => ?_)
      refine wp_iload (k := 38) rfl rfl ?_
      refine w_ic (k := 39) (x := nI 1) rfl (oi_nI 1) ?_
      refine w_c_ne (k := 40) (t' := 49) rfl rfl (fun k1 => ?_) (fun k1 => ?_)
      · rw [if_neg k1] at hq
        refine w_rv (k := 49) rfl rfl rfl rfl ?_
        exact hq I hH fc_rf
      · rw [if_pos k1] at hq
        refine wp_aload (k := 41) rfl rfl ?_
        refine w_gr (k := 42) (s := 7) rfl rfl (by first | assumption | rfl) (by first | assumption | rfl) ?_
        refine w_ic (k := 43) (x := nI 32) rfl (oi_nI 32) ?_
        refine wp_aload (k := 44) rfl rfl ?_
        refine w_gi (k := 45) (s := 11) rfl rfl (by first | assumption | rfl) h11 ?_
        refine wp_aload (k := 46) rfl rfl ?_
        refine w_gi (k := 47) (s := 12) rfl rfl (by first | assumption | rfl) h12 ?_
        refine w_Vv (k := 48) [_, _, _] rfl rfl rfl (Nat.le_of_ble_eq_true rfl) (by first | assumption | rfl) (Or.inl ⟨rfl, rfl⟩) ?_
        refine (c_67 (pnS N _) (rwS N _) hH (by omega) (by omega) (fun I3 k3 f3 => ⟨rfl, ?_⟩))
        refine w_rv (k := 49) rfl rfl rfl rfl ?_
        rw [uI_nI (by decide)] at k3
        exact hq I3 k3 (fc_2 (a := 83) (b := 84) f3 (by decide) (by decide))
end WR
