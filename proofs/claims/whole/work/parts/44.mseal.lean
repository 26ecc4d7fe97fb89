/-! ===== the reference's keys and INTEGRITY ===== -/
theorem flat4_get (f : Nat → Nat) : ∀ n k, k < 4 * n → ((List.range n).flatMap (fun i => be 4 (f i))).getD k 0 = f (k / 4) / 256 ^ (3 - k % 4) % 256
  | 0, k, h => by omega
  | n + 1, k, h => by
    rw [List.range_succ, List.flatMap_append]
    rcases Nat.lt_or_ge k (4 * n) with q | q
    · rw [gd_app1 (by rw [flat4_len]; exact q)]
      exact flat4_get f n k q
    · rw [gd_app2 (by rw [flat4_len]; exact q), flat4_len]
      have e : k / 4 = n := by omega
      have e2 : k - 4 * n = k % 4 := by omega
      rw [e, e2]
      simp only [List.flatMap_cons, List.flatMap_nil, List.append_nil]
      rw [be_get 4 _ _ (by omega)]
section MSE
variable {d N : Nat} {I : Nat → Nat → Int32} {L : Nat → Nat → Int64} {w : Option Nat} {Q : am_Q}
theorem c_170 (hk : mk I) (hq : ∀ I' L', hs_ I' L' [] → fx [103] [6] I I' → fl [7] L L' → Q none (am_SH N, I', L', am_RR w)) : am_call (d + 1) 170 [.ref 100] (am_SH N, I, L, am_RR w) Q := by
  have loop : ∀ (r i : Nat) (I1 : Nat → Nat → Int32), i + r = 8 → (∀ j, j < i → I1 103 j = kF j) → (∀ x, x ≠ 103 → I1 x = I x) → am_V 170 am_c170 d (am_SH N) Q 2 [some (.ref 100), some (.int (nI i))] [] (am_SH N, I1, L, am_RR w) := by
    intro r
    induction r with
    | zero =>
      intro i I1 hi h1 f1
      obtain rfl : i = 8 := by omega
      refine wp_iload (k := 2) rfl rfl ?_
      refine w_ic (k := 3) (x := nI 8) rfl (oi_nI 8) ?_
      refine w_n_ge (k := 4) (t' := 15) rfl rfl (by omega) (fun q => ?_) (fun q => absurd q (by omega))
      refine wp_aload (k := 15) rfl rfl ?_
      refine w_ic (k := 16) (x := nI 0) rfl (oi_nI 0) ?_
      refine w_pi (k := 17) (s := 6) rfl rfl (by first | assumption | rfl) ?_
      refine wp_aload (k := 18) rfl rfl ?_
      refine w_lc (k := 19) (x := lN 0) rfl (ol_lN 0) ?_
      refine w_pl (k := 20) (s := 7) rfl rfl (by first | assumption | rfl) ?_
      refine w_rv (k := 21) rfl rfl rfl rfl ?_
      refine hq _ _ ⟨by rw [am_us]; rfl, by rw [am_us]; rfl, fun i hi => by rw [am_uR (by decide)]; exact h1 i hi, fun i hi => absurd hi (Nat.not_lt_zero i), fun c hc => (by cases hc), mk_k hk ?_ ?_⟩ (fx_t (fx_a f1 (by decide) (by decide)) (fx_s (by decide))) (fl_s (by decide))
      · rw [am_uR (by decide), f1 101 (by decide)]
      · rw [am_uR (by decide), f1 102 (by decide)]
    | succ r ih =>
      intro i I1 hi h1 f1
      have v1 : I1 102 i = kF i := by rw [f1 102 (by decide)]; exact hk.2 i (by omega)
      refine wp_iload (k := 2) rfl rfl ?_
      refine w_ic (k := 3) (x := nI 8) rfl (oi_nI 8) ?_
      refine w_n_ge (k := 4) (t' := 15) rfl rfl (by omega) (fun q => absurd q (by omega)) (fun q => ?_)
      refine wp_aload (k := 5) rfl rfl ?_
      refine w_gr (k := 6) (s := 3) rfl rfl (by first | assumption | rfl) (by first | assumption | rfl) ?_
      refine wp_iload (k := 7) rfl rfl ?_
      refine wp_aload (k := 8) rfl rfl ?_
      refine w_gr (k := 9) (s := 2) rfl rfl (by first | assumption | rfl) (by first | assumption | rfl) ?_
      refine wp_iload (k := 10) rfl rfl ?_
      refine w_iald (k := 11) rfl rfl (by first | assumption | rfl) (by omega) v1 ?_
      refine w_iast (k := 12) rfl rfl (by omega) (by first | assumption | rfl) (by omega) ?_
      refine w_incN (k := 13) (m := 1) rfl (oi_nI 1) rfl ?_
      refine w_goto (k := 14) (t' := 2) rfl rfl ?_
      refine ih (i + 1) _ (by omega) (fun j hj => ?_) (fun x hx => by rw [am_uR hx, f1 x hx])
      rw [am_u_app]
      by_cases e : j = i
      · rw [if_pos ⟨rfl, e⟩, e]
      · rw [if_neg (fun q => e q.2)]
        exact h1 j (by omega)
  refine am_enter (ls := [some _, none]) (cs := am_c170) rfl rfl (Nat.le_of_ble_eq_true rfl) rfl ?_
  refine w_ic (k := 0) (x := nI 0) rfl (oi_nI 0) ?_
  refine wp_istore (k := 1) rfl rfl ?_
  exact loop 8 0 I (by omega) (fun j hj => absurd hj (Nat.not_lt_zero j)) (fun _ _ => rfl)
theorem c_174 {P : List Nat} (h : hs_ I L P) (hl : P.length < 10000) (hq : ∀ I' L', av I' 109 (sha P) → mk I' → fx [103, 104, 105, 108, 109] [6] I I' → fl [7] L L' → Q none (am_SH N, I', L', am_RR w)) : am_call (d + 4) 174 [.ref 100] (am_SH N, I, L, am_RR w) Q := by
  have hz : zc P.length < 64 := Nat.mod_lt _ (by decide)
  have hb := h.2.1
  have u128 : uI (nI 128) % 256 = 128 := by decide
  -- the digest out of the state
  have out : ∀ (r i : Nat) (I1 : Nat → Nat → Int32) (L1 : Nat → Nat → Int64), i + r = 32 → (∀ j, j < 8 → I1 103 j = hh (pd P) ((pd P).length / 64) j) → av I1 109 ((sha P).take i) → mk I1 → fx [103, 104, 105, 108, 109] [6] I I1 → fl [7] L L1 → am_V 174 am_c174 (d + 3) (am_SH N) Q 32 [some (.ref 100), some (.long (lN (P.length * 8))), none, some (.int (nI i))] [] (am_SH N, I1, L1, am_RR w) := by
    intro r
    induction r with
    | zero =>
      intro i I1 L1 hi h1 h2 m1 f1 g1
      rw [List.take_of_length_le (by rw [sha_len]; omega)] at h2
      refine wp_iload (k := 32) rfl rfl ?_
      refine w_ic (k := 33) (x := nI 32) rfl (oi_nI 32) ?_
      refine w_n_ge (k := 34) (t' := 57) rfl rfl (by omega) (fun q => ?_) (fun q => absurd q (by omega))
      refine w_rv (k := 57) rfl rfl rfl rfl ?_
      exact hq I1 L1 h2 m1 f1 g1
    | succ r ih =>
      intro i I1 L1 hi h1 h2 m1 f1 g1
      have v1 := h1 (i / 4) (by omega)
      refine wp_iload (k := 32) rfl rfl ?_
      refine w_ic (k := 33) (x := nI 32) rfl (oi_nI 32) ?_
      refine w_n_ge (k := 34) (t' := 57) rfl rfl (by omega) (fun q => absurd q (by omega)) (fun q => ?_)
      refine wp_aload (k := 35) rfl rfl ?_
      refine w_gr (k := 36) (s := 11) rfl rfl (by first | assumption | rfl) (by first | assumption | rfl) ?_
      refine wp_iload (k := 37) rfl rfl ?_
      refine wp_aload (k := 38) rfl rfl ?_
      refine w_gr (k := 39) (s := 3) rfl rfl (by first | assumption | rfl) (by first | assumption | rfl) ?_
      refine wp_iload (k := 40) rfl rfl ?_
      refine w_ic (k := 41) (x := nI 4) rfl (oi_nI 4) ?_
      refine wp_idiv (k := 42) rfl (by decide) ?_
      rw [pk_div (by omega) (by decide) (by decide)]
      refine w_iald (k := 43) rfl rfl (by first | assumption | rfl) (by omega) v1 ?_
      refine w_ic (k := 44) (x := nI 24) rfl (oi_nI 24) ?_
      refine w_ic (k := 45) (x := nI 8) rfl (oi_nI 8) ?_
      refine wp_iload (k := 46) rfl rfl ?_
      refine w_ic (k := 47) (x := nI 4) rfl (oi_nI 4) ?_
      refine wp_irem (k := 48) rfl (by decide) ?_
      rw [pk_rem (by omega) (by decide) (by decide)]
      refine w_mulN (k := 49) rfl ?_
      refine w_subN (k := 50) rfl (by omega) ?_
      refine wp_ishr (k := 51) rfl ?_
      refine w_ic (k := 52) (x := nI 255) rfl (oi_nI 255) ?_
      refine wp_iand (k := 53) rfl ?_
      have e : (hh (pd P) ((pd P).length / 64) (i / 4) >>> (nI (24 - 8 * (i % 4)) &&& 31)) &&& nI 255 = nI ((sha P).getD i 0) := by
        rw [i_sb _ (by omega)]
        unfold sha
        rw [flat4_get _ 8 i (by omega), show 24 - 8 * (i % 4) = 8 * (3 - i % 4) by omega, p28]
      rw [e]
      refine w_iast (k := 54) rfl rfl (by omega) (by first | assumption | rfl) (by omega) ?_
      refine w_incN (k := 55) (m := 1) rfl (oi_nI 1) rfl ?_
      refine w_goto (k := 56) (t' := 32) rfl rfl ?_
      have hst := av_step (X := []) (s := 0) (bs := sha P) (k := i) (by rw [wr_e (A := []) (s := 0) rfl]; exact h2) (by rw [sha_len]; omega) (by decide) (sha_lt P)
      rw [wr_e (A := []) (s := 0) rfl, List.nil_append, Nat.zero_add] at hst
      exact ih (i + 1) _ L1 (by omega) (fun j hj => by rw [am_uR (by decide)]; exact h1 j hj) hst (mk_k m1 (am_uR (by decide)) (am_uR (by decide))) (fx_t f1 (fx_p (by decide) (by decide))) g1
  have bits : ∀ (r : Nat) (I1 : Nat → Nat → Int32) (L1 : Nat → Nat → Int64) (X : List Nat), r ≤ 8 → hs_ I1 L1 X → X.length + r < 20000 → X ++ be r (8 * P.length) = pd P → fx [103, 104, 105, 108, 109] [6] I I1 → fl [7] L L1 → am_V 174 am_c174 (d + 3) (am_SH N) Q 18 [some (.ref 100), some (.long (lN (P.length * 8))), none, some (.int (nI r - nI 1))] [] (am_SH N, I1, L1, am_RR w) := by
    intro r
    induction r with
    | zero =>
      intro I1 L1 X _ h1 hX e f1 g1
      rw [show be 0 (8 * P.length) = [] from rfl, List.append_nil] at e
      subst e
      refine wp_iload (k := 18) rfl rfl ?_
      refine w_z_lt (k := 19) (t' := 30) rfl rfl (fun q => ?_) (fun q => absurd (by decide) q)
      refine w_ic (k := 30) (x := nI 0) rfl (oi_nI 0) ?_
      refine wp_istore (k := 31) rfl rfl ?_
      exact out 32 0 I1 L1 (by omega) h1.2.2.1 ⟨fun j hj => absurd hj (by simp), fun c hc => by simp at hc⟩ h1.2.2.2.2.2 f1 g1
    | succ r ih =>
      intro I1 L1 X hr h1 hX e f1 g1
      have er : nI (r + 1) - nI 1 = nI r := by rw [pk_sub (by omega)]; congr 1
      rw [er]
      refine wp_iload (k := 18) rfl rfl ?_
      refine w_m_lt (k := 19) (t' := 30) rfl rfl (by omega) (fun q => absurd q (by omega)) (fun q => ?_)
      refine wp_aload (k := 20) rfl rfl ?_
      refine wp_lload (k := 21) rfl rfl ?_
      refine w_ic (k := 22) (x := nI 8) rfl (oi_nI 8) ?_
      refine wp_iload (k := 23) rfl rfl ?_
      refine w_mulN (k := 24) rfl ?_
      refine wp_lshr (k := 25) rfl ?_
      refine wp_l2i (k := 26) rfl ?_
      refine w_Vv (k := 27) [_] rfl rfl rfl (Nat.le_of_ble_eq_true rfl) (by first | assumption | rfl) (Or.inl ⟨rfl, rfl⟩) ?_
      refine (c_172 h1 (by omega) (fun I2 L2 h2 f2 g2 => ⟨rfl, ?_⟩))
      refine w_incX (k := 28) rfl rfl (m1 r) ?_
      refine w_goto (k := 29) (t' := 18) rfl rfl ?_
      rw [uI_l, show uN (lN (P.length * 8) >>> ((nI (8 * r)).toInt64 &&& 63)) % 2 ^ 32 % 256 = uN (lN (P.length * 8) >>> ((nI (8 * r)).toInt64 &&& 63)) % 256 by omega, l_s8 _ (by omega), uN_lN (by omega), p28] at h2
      refine ih I2 L2 _ (by omega) h2 (by simp; omega) ?_ (fx_t f1 (fx_mo f2 (by decide) (by decide))) (fl_t g1 g2)
      rw [← e, be, Nat.mul_comm P.length 8, List.append_assoc]
      rfl
  have zeros : ∀ (r j : Nat) (I1 : Nat → Nat → Int32) (L1 : Nat → Nat → Int64), j + r = zc P.length → hs_ I1 L1 (P ++ ([128] ++ List.replicate j 0)) → fx [103, 104, 105, 108, 109] [6] I I1 → fl [7] L L1 → am_V 174 am_c174 (d + 3) (am_SH N) Q 8 [some (.ref 100), some (.long (lN (P.length * 8))), none, none] [] (am_SH N, I1, L1, am_RR w) := by
    intro r
    induction r with
    | zero =>
      intro j I1 L1 hj h1 f1 g1
      have hL : (P ++ ([128] ++ List.replicate j 0)).length = P.length + 1 + j := by simp; omega
      have v1 := h1.1
      rw [hL, show (P.length + 1 + j) % 64 = 56 by unfold zc at hj; omega] at v1
      refine wp_aload (k := 8) rfl rfl ?_
      refine w_gi (k := 9) (s := 6) rfl rfl (by first | assumption | rfl) (by first | assumption | rfl) ?_
      refine w_ic (k := 10) (x := nI 56) rfl (oi_nI 56) ?_
      refine w_n_eq (k := 11) (t' := 16) rfl rfl (by omega) (fun q => ?_) (fun q => absurd q (by omega))
      refine w_ic (k := 16) (x := nI 7) rfl (oi_nI 7) ?_
      refine wp_istore (k := 17) rfl rfl ?_
      refine bits 8 I1 L1 _ (by omega) h1 (by omega) ?_ f1 g1
      unfold pd
      rw [← show j = zc P.length by omega, List.append_assoc, List.append_assoc]
    | succ r ih =>
      intro j I1 L1 hj h1 f1 g1
      have hL : (P ++ ([128] ++ List.replicate j 0)).length = P.length + 1 + j := by simp; omega
      have v1 := h1.1
      rw [hL] at v1
      have hmod : (P.length + 1 + j) % 64 < 64 := Nat.mod_lt _ (by decide)
      refine wp_aload (k := 8) rfl rfl ?_
      refine w_gi (k := 9) (s := 6) rfl rfl (by first | assumption | rfl) (by first | assumption | rfl) ?_
      refine w_ic (k := 10) (x := nI 56) rfl (oi_nI 56) ?_
      refine w_n_eq (k := 11) (t' := 16) rfl rfl (by omega) (fun q => absurd q (by unfold zc at hj; omega)) (fun q => ?_)
      refine wp_aload (k := 12) rfl rfl ?_
      refine w_ic (k := 13) (x := nI 0) rfl (oi_nI 0) ?_
      refine w_Vv (k := 14) [_] rfl rfl rfl (Nat.le_of_ble_eq_true rfl) (by first | assumption | rfl) (Or.inl ⟨rfl, rfl⟩) ?_
      refine (c_172 h1 (by omega) (fun I2 L2 h2 f2 g2 => ⟨rfl, ?_⟩))
      refine w_goto (k := 15) (t' := 8) rfl rfl ?_
      refine ih (j + 1) I2 L2 (by omega) ?_ (fx_t f1 (fx_mo f2 (by decide) (by decide))) (fl_t g1 g2)
      rw [show uI (nI 0) % 256 = 0 by decide, List.append_assoc, List.append_assoc] at h2
      rw [List.replicate_succ']
      exact h2
  refine am_enter (ls := [some _, none, none, none]) (cs := am_c174) rfl rfl (Nat.le_of_ble_eq_true rfl) rfl ?_
  refine wp_aload (k := 0) rfl rfl ?_
  refine w_gl (k := 1) (s := 7) rfl rfl (by first | assumption | rfl) (by first | assumption | rfl) ?_
  refine w_lc (k := 2) (x := lN 8) rfl (ol_lN 8) ?_
  refine w_lmulN (k := 3) rfl ?_
  refine wp_lstore (k := 4) rfl rfl ?_
  refine wp_aload (k := 5) rfl rfl ?_
  refine w_ic (k := 6) (x := nI 128) rfl (oi_nI 128) ?_
  refine w_Vv (k := 7) [_] rfl rfl rfl (Nat.le_of_ble_eq_true rfl) (by first | assumption | rfl) (Or.inl ⟨rfl, rfl⟩) ?_
  refine (c_172 h (by omega) (fun I1 L1 h1 f1 g1 => ⟨rfl, ?_⟩))
  rw [u128] at h1
  exact zeros _ 0 I1 L1 (Nat.zero_add _) (by simpa using h1) (fx_mo f1 (by decide) (by decide)) g1
theorem c_175 {P : List Nat} (h : hs_ I L P) (hl : P.length < 10000) {v : Int64} (hq : ∀ I' L', hs_ I' L' (P ++ nz 8 (uN v)) → fx [103, 104, 105, 108] [6] I I' → fl [7] L L' → Q none (am_SH N, I', L', am_RR w)) : am_call (d + 4) 175 [.ref 100, .long v] (am_SH N, I, L, am_RR w) Q := by
  have loop : ∀ (r : Nat) (I1 : Nat → Nat → Int32) (L1 : Nat → Nat → Int64) (X : List Nat) (o : Option Value), r ≤ 8 → X.length + r < 20000 → hs_ I1 L1 X → X ++ nz r (uN v) = P ++ nz 8 (uN v) → fx [103, 104, 105, 108] [6] I I1 → fl [7] L L1 → am_V 175 am_c175 (d + 3) (am_SH N) Q 2 [some (.ref 100), some (.long v), none, some (.int (nI r - nI 1)), o] [] (am_SH N, I1, L1, am_RR w) := by
    intro r
    induction r with
    | zero =>
      intro I1 L1 X o _ _ h1 e f1 g1
      refine wp_iload (k := 2) rfl rfl ?_
      refine w_z_lt (k := 3) (t' := 20) rfl rfl (fun q => ?_) (fun q => absurd (by decide) q)
      refine w_rv (k := 20) rfl rfl rfl rfl ?_
      rw [nz_0, List.append_nil] at e
      rw [e] at h1
      exact hq I1 L1 h1 f1 g1
    | succ r ih =>
      intro I1 L1 X o hr hX h1 e f1 g1
      have er : nI (r + 1) - nI 1 = nI r := by rw [pk_sub (by omega)]; congr 1
      have e2 : (v >>> ((nI (8 * r)).toInt64 &&& 63)).toInt32 &&& nI 255 = nI (uN v / 256 ^ r % 256) := by
        rw [li_b, l_s8 v (by omega), p28]
      have hb : uN v / 256 ^ r % 256 < 256 := Nat.mod_lt _ (by decide)
      rw [er]
      refine wp_iload (k := 2) rfl rfl ?_
      refine w_m_lt (k := 3) (t' := 20) rfl rfl (by omega) (fun q => absurd q (by omega)) (fun q => ?_)
      refine wp_lload (k := 4) rfl rfl ?_
      refine w_ic (k := 5) (x := nI 8) rfl (oi_nI 8) ?_
      refine wp_iload (k := 6) rfl rfl ?_
      refine w_mulN (k := 7) rfl ?_
      refine wp_lshr (k := 8) rfl ?_
      refine wp_l2i (k := 9) rfl ?_
      refine w_ic (k := 10) (x := nI 255) rfl (oi_nI 255) ?_
      refine wp_iand (k := 11) rfl ?_
      rw [e2]
      refine wp_istore (k := 12) rfl rfl ?_
      refine wp_iload (k := 13) rfl rfl ?_
      refine w_m_eq (k := 14) (t' := 18) rfl rfl (by omega) (fun c1 => ?_) (fun c1 => ?_)
      · refine w_incX (k := 18) rfl rfl (m1 r) ?_
        refine w_goto (k := 19) (t' := 2) rfl rfl ?_
        exact ih I1 L1 X _ (by omega) (by omega) h1 (by rw [← e, nz_no c1]) f1 g1
      · refine wp_aload (k := 15) rfl rfl ?_
        refine wp_iload (k := 16) rfl rfl ?_
        refine w_Vv (k := 17) [_] rfl rfl rfl (Nat.le_of_ble_eq_true rfl) (by first | assumption | rfl) (Or.inl ⟨rfl, rfl⟩) ?_
        refine (c_172 h1 (by omega) (fun I2 L2 h2 f2 g2 => ⟨rfl, ?_⟩))
        refine w_incX (k := 18) rfl rfl (m1 r) ?_
        refine w_goto (k := 19) (t' := 2) rfl rfl ?_
        rw [uI_nI (by omega), Nat.mod_eq_of_lt hb] at h2
        exact ih I2 L2 _ _ (by omega) (by simp; omega) h2 (by rw [← e, nz_yes c1, List.append_assoc]; rfl) (fx_t f1 f2) (fl_t g1 g2)
  refine am_enter (ls := [some _, some _, none, none, none]) (cs := am_c175) rfl rfl (Nat.le_of_ble_eq_true rfl) rfl ?_
  refine w_ic (k := 0) (x := nI 7) rfl (oi_nI 7) ?_
  refine wp_istore (k := 1) rfl rfl ?_
  exact loop 8 I L P none (by omega) (by omega) h rfl fx_rf fl_rf
/-- the reference's realm -/
def mr (I : Nat → Nat → Int32) (rl : List Nat) : Prop := I 100 28 = nI rl.length ∧ av I 117 rl
theorem c_176 (hk : mk I) {rl : List Nat} (hr : mr I rl) (hrl : wd rl) {u p : Int64} (hq : ∀ I' L', av I' 110 (ky (nz 8 (uN u)) rl (nz 8 (uN p))) → mk I' → fx [103, 104, 105, 108, 109, 110] [6] I I' → fl [7] L L' → Q none (am_SH N, I', L', am_RR w)) : am_call (d + 5) 176 [.ref 100, .long u, .long p] (am_SH N, I, L, am_RR w) Q := by
  have l1 := nz_len 8 (uN u)
  have l2 := nz_len 8 (uN p)
  have l3 := hrl.1
  have u58 : uI (nI 58) % 256 = 58 := by decide
  have fin : ∀ (r i : Nat) (I1 : Nat → Nat → Int32) (L1 : Nat → Nat → Int64) (K : List Nat), K.length = 32 → (∀ c ∈ K, c < 256) → i + r = 32 → av I1 109 K → av I1 110 (K.take i) → mk I1 → fx [103, 104, 105, 108, 109, 110] [6] I I1 → fl [7] L L1 → K = ky (nz 8 (uN u)) rl (nz 8 (uN p)) → am_V 176 am_c176 (d + 4) (am_SH N) Q 32 [some (.ref 100), some (.long u), none, some (.long p), none, some (.int (nI i))] [] (am_SH N, I1, L1, am_RR w) := by
    intro r
    induction r with
    | zero =>
      intro i I1 L1 K hK hK2 hi h1 h2 m1 f1 g1 e
      rw [List.take_of_length_le (by omega), e] at h2
      refine wp_iload (k := 32) rfl rfl ?_
      refine w_ic (k := 33) (x := nI 32) rfl (oi_nI 32) ?_
      refine w_n_ge (k := 34) (t' := 45) rfl rfl (by omega) (fun q => ?_) (fun q => absurd q (by omega))
      refine w_rv (k := 45) rfl rfl rfl rfl ?_
      exact hq I1 L1 h2 m1 f1 g1
    | succ r ih =>
      intro i I1 L1 K hK hK2 hi h1 h2 m1 f1 g1 e
      refine wp_iload (k := 32) rfl rfl ?_
      refine w_ic (k := 33) (x := nI 32) rfl (oi_nI 32) ?_
      refine w_n_ge (k := 34) (t' := 45) rfl rfl (by omega) (fun q => absurd q (by omega)) (fun q => ?_)
      refine wp_aload (k := 35) rfl rfl ?_
      refine w_gr (k := 36) (s := 12) rfl rfl (by first | assumption | rfl) (by first | assumption | rfl) ?_
      refine wp_iload (k := 37) rfl rfl ?_
      refine wp_aload (k := 38) rfl rfl ?_
      refine w_gr (k := 39) (s := 11) rfl rfl (by first | assumption | rfl) (by first | assumption | rfl) ?_
      refine wp_iload (k := 40) rfl rfl ?_
      refine w_iald (k := 41) rfl rfl (by first | assumption | rfl) (by omega) (h1.1 i (by omega)) ?_
      refine w_iast (k := 42) rfl rfl (by omega) (by first | assumption | rfl) (by omega) ?_
      refine w_incN (k := 43) (m := 1) rfl (oi_nI 1) rfl ?_
      refine w_goto (k := 44) (t' := 32) rfl rfl ?_
      have hst := av_step (X := []) (s := 0) (bs := K) (k := i) (by rw [wr_e (A := []) (s := 0) rfl]; exact h2) (by omega) (by decide) hK2
      rw [wr_e (A := []) (s := 0) rfl, List.nil_append, Nat.zero_add] at hst
      exact ih (i + 1) _ L1 K hK hK2 (by omega) (av_keep h1 (am_uR (by decide))) hst (mk_k m1 (am_uR (by decide)) (am_uR (by decide))) (fx_t f1 (fx_p (by decide) (by decide))) g1 e
  have rlm : ∀ (r i : Nat) (I1 : Nat → Nat → Int32) (L1 : Nat → Nat → Int64), i + r = rl.length → hs_ I1 L1 (nz 8 (uN u) ++ ([58] ++ rl.take i)) → fx [103, 104, 105, 108] [6] I I1 → fl [7] L L1 → am_V 176 am_c176 (d + 4) (am_SH N) Q 10 [some (.ref 100), some (.long u), none, some (.long p), none, some (.int (nI i))] [] (am_SH N, I1, L1, am_RR w) := by
    intro r
    induction r with
    | zero =>
      intro i I1 L1 hi h1 f1 g1
      rw [List.take_of_length_le (by omega)] at h1
      have v1 : I1 100 28 = nI rl.length := by rw [f1.2 28 (by decide)]; exact hr.1
      refine wp_iload (k := 10) rfl rfl ?_
      refine wp_aload (k := 11) rfl rfl ?_
      refine w_gi (k := 12) (s := 28) rfl rfl (by first | assumption | rfl) (by first | assumption | rfl) ?_
      refine w_n_ge (k := 13) (t' := 22) rfl rfl (by omega) (fun q => ?_) (fun q => absurd q (by omega))
      refine wp_aload (k := 22) rfl rfl ?_
      refine w_ic (k := 23) (x := nI 58) rfl (oi_nI 58) ?_
      refine w_Vv (k := 24) [_] rfl rfl rfl (Nat.le_of_ble_eq_true rfl) (by first | assumption | rfl) (Or.inl ⟨rfl, rfl⟩) ?_
      refine (c_172 h1 (by simp; omega) (fun I2 L2 h2 f2 g2 => ⟨rfl, ?_⟩))
      rw [u58] at h2
      refine wp_aload (k := 25) rfl rfl ?_
      refine wp_lload (k := 26) rfl rfl ?_
      refine w_Vv (k := 27) [_] rfl rfl rfl (Nat.le_of_ble_eq_true rfl) (by first | assumption | rfl) (Or.inl ⟨rfl, rfl⟩) ?_
      refine (c_175 h2 (by simp; omega) (fun I3 L3 h3 f3 g3 => ⟨rfl, ?_⟩))
      refine wp_aload (k := 28) rfl rfl ?_
      refine w_Vv (k := 29) [] rfl rfl rfl (Nat.le_of_ble_eq_true rfl) (by first | assumption | rfl) (Or.inl ⟨rfl, rfl⟩) ?_
      refine (c_174 h3 (by simp; omega) (fun I4 L4 h4 m4 f4 g4 => ⟨rfl, ?_⟩))
      refine w_ic (k := 30) (x := nI 0) rfl (oi_nI 0) ?_
      refine wp_istore (k := 31) rfl rfl ?_
      refine fin 32 0 I4 L4 _ (sha_len _) (sha_lt _) (by omega) h4 ⟨fun j hj => absurd hj (by simp), fun c hc => by simp at hc⟩ m4 (fx_t (fx_mo (fx_t f1 (fx_t f2 f3)) (by decide) (by decide)) (fx_mo f4 (by decide) (by decide))) (fl_t g1 (fl_t g2 (fl_t g3 g4))) ?_
      unfold ky
      simp only [List.append_assoc]
    | succ r ih =>
      intro i I1 L1 hi h1 f1 g1
      have v1 : I1 100 28 = nI rl.length := by rw [f1.2 28 (by decide)]; exact hr.1
      have v2 : I1 117 i = nI (rl.getD i 0) := by rw [f1.1 117 (by decide) (by decide)]; exact hr.2.1 i (by omega)
      have hg := gd_lt hr.2.2 i
      refine wp_iload (k := 10) rfl rfl ?_
      refine wp_aload (k := 11) rfl rfl ?_
      refine w_gi (k := 12) (s := 28) rfl rfl (by first | assumption | rfl) (by first | assumption | rfl) ?_
      refine w_n_ge (k := 13) (t' := 22) rfl rfl (by omega) (fun q => absurd q (by omega)) (fun q => ?_)
      refine wp_aload (k := 14) rfl rfl ?_
      refine wp_aload (k := 15) rfl rfl ?_
      refine w_gr (k := 16) (s := 27) rfl rfl (by first | assumption | rfl) (by first | assumption | rfl) ?_
      refine wp_iload (k := 17) rfl rfl ?_
      refine w_iald (k := 18) rfl rfl (by first | assumption | rfl) (by omega) v2 ?_
      refine w_Vv (k := 19) [_] rfl rfl rfl (Nat.le_of_ble_eq_true rfl) (by first | assumption | rfl) (Or.inl ⟨rfl, rfl⟩) ?_
      refine (c_172 h1 (by simp; omega) (fun I2 L2 h2 f2 g2 => ⟨rfl, ?_⟩))
      refine w_incN (k := 20) (m := 1) rfl (oi_nI 1) rfl ?_
      refine w_goto (k := 21) (t' := 10) rfl rfl ?_
      rw [uI_nI (by omega), Nat.mod_eq_of_lt hg, List.append_assoc, List.append_assoc, tk_app (by omega)] at h2
      exact ih (i + 1) I2 L2 (by omega) h2 (fx_t f1 f2) (fl_t g1 g2)
  refine am_enter (ls := [some _, some _, none, some _, none, none]) (cs := am_c176) rfl rfl (Nat.le_of_ble_eq_true rfl) rfl ?_
  refine wp_aload (k := 0) rfl rfl ?_
  refine w_Vv (k := 1) [] rfl rfl rfl (Nat.le_of_ble_eq_true rfl) (by first | assumption | rfl) (Or.inl ⟨rfl, rfl⟩) ?_
  refine (c_170 hk (fun I1 L1 h1 f1 g1 => ⟨rfl, ?_⟩))
  refine wp_aload (k := 2) rfl rfl ?_
  refine wp_lload (k := 3) rfl rfl ?_
  refine w_Vv (k := 4) [_] rfl rfl rfl (Nat.le_of_ble_eq_true rfl) (by first | assumption | rfl) (Or.inl ⟨rfl, rfl⟩) ?_
  refine (c_175 h1 (by decide) (fun I2 L2 h2 f2 g2 => ⟨rfl, ?_⟩))
  rw [List.nil_append] at h2
  refine wp_aload (k := 5) rfl rfl ?_
  refine w_ic (k := 6) (x := nI 58) rfl (oi_nI 58) ?_
  refine w_Vv (k := 7) [_] rfl rfl rfl (Nat.le_of_ble_eq_true rfl) (by first | assumption | rfl) (Or.inl ⟨rfl, rfl⟩) ?_
  refine (c_172 h2 (by omega) (fun I3 L3 h3 f3 g3 => ⟨rfl, ?_⟩))
  refine w_ic (k := 8) (x := nI 0) rfl (oi_nI 0) ?_
  refine wp_istore (k := 9) rfl rfl ?_
  rw [u58] at h3
  exact rlm _ 0 I3 L3 (Nat.zero_add _) (by simpa using h3) (fx_t (fx_mo f1 (by decide) (by decide)) (fx_t f2 f3)) (fl_t g1 (fl_t g2 g3))
theorem c_177 {K A : List Nat} {a n m : Nat} (hk : mk I) (hK : av I 110 K) (hKl : K.length = 32) (ha : (am_SH N)[a]? = some (50, m)) (hmx : m < 1000) (ha2 : a = 112 ∨ a = 113) (hA : av I a A) (hn : 20 ≤ n ∧ n ≤ A.length ∧ A.length ≤ m) (hq : ∀ I' L', av I' 109 (mcy K (A.take n)) → mk I' → fx [103, 104, 105, 108, 109, 111] [6] I I' → fl [7] L L' → Q none (am_SH N, I', L', am_RR w)) : am_call (d + 5) 177 [.ref 100, .ref a, .int (nI n)] (am_SH N, I, L, am_RR w) Q := by
  obtain ⟨n1, n2, n3⟩ := hn
  have kl : ∀ z, (kx K z).length = 64 := fun z => kx_len z (by omega)
  have tl : (A.take n).length = n := by simp; omega
  have wl : (wr (A.take n) 2 (be 2 (n + 16))).length = n := by rw [wr_in (by rw [be_len]; omega), tl]
  have ha' : ∀ S : List Nat, 112 ∉ S → 113 ∉ S → a ∉ S := fun S h1 h2 => by rcases ha2 with h | h <;> rw [h] <;> assumption
  have h100 : a ≠ 100 := by omega
  generalize hMM : wr (A.take n) 2 (be 2 (n + 16)) = MM at *
  have lk54 : ∀ (r i : Nat) (I1 : Nat → Nat → Int32) (L1 : Nat → Nat → Int64), i + r = 64 → hs_ I1 L1 ((kx K 54).take i) → fx [103, 104, 105, 108, 109, 111] [6] I I1 → fl [7] L L1 →  (∀ I2 L2, hs_ I2 L2 (kx K 54) → fx [103, 104, 105, 108] [6] I1 I2 → fl [7] L1 L2 → am_V 177 am_c177 (d + 4) (am_SH N) Q 28 [some (.ref 100), some (.ref a), some (.int (nI n)), some (.int (nI (n + 16))), some (.int (nI 64))] [] (am_SH N, I2, L2, am_RR w)) → am_V 177 am_c177 (d + 4) (am_SH N) Q 10 [some (.ref 100), some (.ref a), some (.int (nI n)), some (.int (nI (n + 16))), some (.int (nI i))] [] (am_SH N, I1, L1, am_RR w) := by
    intro r
    induction r with
    | zero =>
      intro i I1 L1 hi h1 f1 g1 hc
      obtain rfl : i = 64 := by omega
      rw [List.take_of_length_le (by rw [kx_len _ (by omega)]; omega)] at h1
      refine wp_iload (k := 10) rfl rfl ?_
      refine w_ic (k := 11) (x := nI 64) rfl (oi_nI 64) ?_
      refine w_n_ge (k := 12) (t' := 28) rfl rfl (by omega) (fun q => ?_) (fun q => absurd q (by omega))
      exact hc I1 L1 h1 fx_rf fl_rf
    | succ r ih =>
      intro i I1 L1 hi h1 f1 g1 hc
      have hkl : ((kx K 54).take i).length = i := by rw [List.length_take, kx_len _ (by omega)]; omega
      have hx : (kx K 54).getD i 0 = (K ++ List.replicate (64 - K.length) 0).getD i 0 ^^^ 54 := by
        unfold kx
        exact gd_map (by simp; omega)
      have go : ∀ c : Nat, c < 256 → (kx K 54).getD i 0 = c ^^^ 54 → am_V 177 am_c177 (d + 4) (am_SH N) Q 24 [some (.ref 100), some (.ref a), some (.int (nI n)), some (.int (nI (n + 16))), some (.int (nI i))] [.int (nI c), .int (nI 54), .ref 100] (am_SH N, I1, L1, am_RR w) := by
        intro c hc8 he
        have h8 := xor_lt (show 54 < 256 by decide) hc8
        refine wp_ixor (k := 24) rfl ?_
        rw [fb_xorI]
        refine w_Vv (k := 25) [_] rfl rfl rfl (Nat.le_of_ble_eq_true rfl) (by first | assumption | rfl) (Or.inl ⟨rfl, rfl⟩) ?_
        refine (c_172 h1 (by omega) (fun I2 L2 h2 f2 g2 => ⟨rfl, ?_⟩))
        refine w_incN (k := 26) (m := 1) rfl (oi_nI 1) rfl ?_
        refine w_goto (k := 27) (t' := 10) rfl rfl ?_
        rw [uI_nI (by omega), Nat.mod_eq_of_lt h8, Nat.xor_comm, ← he, tk_app (by rw [kx_len _ (by omega)]; omega)] at h2
        exact ih (i + 1) I2 L2 (by omega) h2 (fx_t f1 (fx_mo f2 (by decide) (by decide))) (fl_t g1 g2) (fun I3 L3 h3 f3 g3 => hc I3 L3 h3 (fx_t f2 f3) (fl_t g2 g3))
      refine wp_iload (k := 10) rfl rfl ?_
      refine w_ic (k := 11) (x := nI 64) rfl (oi_nI 64) ?_
      refine w_n_ge (k := 12) (t' := 28) rfl rfl (by omega) (fun q => absurd q (by omega)) (fun q => ?_)
      refine wp_aload (k := 13) rfl rfl ?_
      refine w_ic (k := 14) (x := nI 54) rfl (oi_nI 54) ?_
      refine wp_iload (k := 15) rfl rfl ?_
      refine w_ic (k := 16) (x := nI 32) rfl (oi_nI 32) ?_
      refine w_n_ge (k := 17) (t' := 23) rfl rfl (by omega) (fun k => ?_) (fun k => ?_)
      · refine w_ic (k := 23) (x := nI 0) rfl (oi_nI 0) ?_
        exact go 0 (by decide) (by rw [hx, gd_app2 (by omega), List.getD_eq_getElem?_getD, List.getElem?_replicate]; split <;> rfl)
      · have hv : I1 110 i = nI (K.getD i 0) := by rw [f1.1 110 (by decide) (by decide)]; exact hK.1 i (by omega)
        refine wp_aload (k := 18) rfl rfl ?_
        refine w_gr (k := 19) (s := 12) rfl rfl (by first | assumption | rfl) (by first | assumption | rfl) ?_
        refine wp_iload (k := 20) rfl rfl ?_
        refine w_iald (k := 21) rfl rfl (by first | assumption | rfl) (by omega) hv ?_
        refine w_goto (k := 22) (t' := 24) rfl rfl ?_
        exact go (K.getD i 0) (gd_lt hK.2 i) (by rw [hx, gd_app1 (by omega)])
  have lk92 : ∀ (r i : Nat) (I1 : Nat → Nat → Int32) (L1 : Nat → Nat → Int64), i + r = 64 → hs_ I1 L1 ((kx K 92).take i) → fx [103, 104, 105, 108, 109, 111] [6] I I1 → fl [7] L L1 →  (∀ I2 L2, hs_ I2 L2 (kx K 92) → fx [103, 104, 105, 108] [6] I1 I2 → fl [7] L1 L2 → am_V 177 am_c177 (d + 4) (am_SH N) Q 91 [some (.ref 100), some (.ref a), some (.int (nI n)), some (.int (nI (n + 16))), some (.int (nI 64))] [] (am_SH N, I2, L2, am_RR w)) → am_V 177 am_c177 (d + 4) (am_SH N) Q 73 [some (.ref 100), some (.ref a), some (.int (nI n)), some (.int (nI (n + 16))), some (.int (nI i))] [] (am_SH N, I1, L1, am_RR w) := by
    intro r
    induction r with
    | zero =>
      intro i I1 L1 hi h1 f1 g1 hc
      obtain rfl : i = 64 := by omega
      rw [List.take_of_length_le (by rw [kx_len _ (by omega)]; omega)] at h1
      refine wp_iload (k := 73) rfl rfl ?_
      refine w_ic (k := 74) (x := nI 64) rfl (oi_nI 64) ?_
      refine w_n_ge (k := 75) (t' := 91) rfl rfl (by omega) (fun q => ?_) (fun q => absurd q (by omega))
      exact hc I1 L1 h1 fx_rf fl_rf
    | succ r ih =>
      intro i I1 L1 hi h1 f1 g1 hc
      have hkl : ((kx K 92).take i).length = i := by rw [List.length_take, kx_len _ (by omega)]; omega
      have hx : (kx K 92).getD i 0 = (K ++ List.replicate (64 - K.length) 0).getD i 0 ^^^ 92 := by
        unfold kx
        exact gd_map (by simp; omega)
      have go : ∀ c : Nat, c < 256 → (kx K 92).getD i 0 = c ^^^ 92 → am_V 177 am_c177 (d + 4) (am_SH N) Q 87 [some (.ref 100), some (.ref a), some (.int (nI n)), some (.int (nI (n + 16))), some (.int (nI i))] [.int (nI c), .int (nI 92), .ref 100] (am_SH N, I1, L1, am_RR w) := by
        intro c hc8 he
        have h8 := xor_lt (show 92 < 256 by decide) hc8
        refine wp_ixor (k := 87) rfl ?_
        rw [fb_xorI]
        refine w_Vv (k := 88) [_] rfl rfl rfl (Nat.le_of_ble_eq_true rfl) (by first | assumption | rfl) (Or.inl ⟨rfl, rfl⟩) ?_
        refine (c_172 h1 (by omega) (fun I2 L2 h2 f2 g2 => ⟨rfl, ?_⟩))
        refine w_incN (k := 89) (m := 1) rfl (oi_nI 1) rfl ?_
        refine w_goto (k := 90) (t' := 73) rfl rfl ?_
        rw [uI_nI (by omega), Nat.mod_eq_of_lt h8, Nat.xor_comm, ← he, tk_app (by rw [kx_len _ (by omega)]; omega)] at h2
        exact ih (i + 1) I2 L2 (by omega) h2 (fx_t f1 (fx_mo f2 (by decide) (by decide))) (fl_t g1 g2) (fun I3 L3 h3 f3 g3 => hc I3 L3 h3 (fx_t f2 f3) (fl_t g2 g3))
      refine wp_iload (k := 73) rfl rfl ?_
      refine w_ic (k := 74) (x := nI 64) rfl (oi_nI 64) ?_
      refine w_n_ge (k := 75) (t' := 91) rfl rfl (by omega) (fun q => absurd q (by omega)) (fun q => ?_)
      refine wp_aload (k := 76) rfl rfl ?_
      refine w_ic (k := 77) (x := nI 92) rfl (oi_nI 92) ?_
      refine wp_iload (k := 78) rfl rfl ?_
      refine w_ic (k := 79) (x := nI 32) rfl (oi_nI 32) ?_
      refine w_n_ge (k := 80) (t' := 86) rfl rfl (by omega) (fun k => ?_) (fun k => ?_)
      · refine w_ic (k := 86) (x := nI 0) rfl (oi_nI 0) ?_
        exact go 0 (by decide) (by rw [hx, gd_app2 (by omega), List.getD_eq_getElem?_getD, List.getElem?_replicate]; split <;> rfl)
      · have hv : I1 110 i = nI (K.getD i 0) := by rw [f1.1 110 (by decide) (by decide)]; exact hK.1 i (by omega)
        refine wp_aload (k := 81) rfl rfl ?_
        refine w_gr (k := 82) (s := 12) rfl rfl (by first | assumption | rfl) (by first | assumption | rfl) ?_
        refine wp_iload (k := 83) rfl rfl ?_
        refine w_iald (k := 84) rfl rfl (by first | assumption | rfl) (by omega) hv ?_
        refine w_goto (k := 85) (t' := 87) rfl rfl ?_
        exact go (K.getD i 0) (gd_lt hK.2 i) (by rw [hx, gd_app1 (by omega)])
  -- the second hash, of the first
  have in2 : ∀ (r i : Nat) (I1 : Nat → Nat → Int32) (L1 : Nat → Nat → Int64) (D : List Nat), D.length = 32 → i + r = 32 → av I1 111 D → hs_ I1 L1 (kx K 92 ++ D.take i) → fx [103, 104, 105, 108, 109, 111] [6] I I1 → fl [7] L L1 → D = sha (kx K 54 ++ MM) → am_V 177 am_c177 (d + 4) (am_SH N) Q 93 [some (.ref 100), some (.ref a), some (.int (nI n)), some (.int (nI (n + 16))), some (.int (nI i))] [] (am_SH N, I1, L1, am_RR w) := by
    intro r
    induction r with
    | zero =>
      intro i I1 L1 D hD hi hI h1 f1 g1 e
      rw [List.take_of_length_le (by omega)] at h1
      refine wp_iload (k := 93) rfl rfl ?_
      refine w_ic (k := 94) (x := nI 32) rfl (oi_nI 32) ?_
      refine w_n_ge (k := 95) (t' := 104) rfl rfl (by omega) (fun q => ?_) (fun q => absurd q (by omega))
      refine wp_aload (k := 104) rfl rfl ?_
      refine w_Vv (k := 105) [] rfl rfl rfl (Nat.le_of_ble_eq_true rfl) (by first | assumption | rfl) (Or.inl ⟨rfl, rfl⟩) ?_
      refine (c_174 h1 (by rw [List.length_append, kl]; omega) (fun I2 L2 h2 m2 f2 g2 => ⟨rfl, ?_⟩))
      refine w_rv (k := 106) rfl rfl rfl rfl ?_
      refine hq I2 L2 ?_ m2 (fx_t f1 (fx_mo f2 (by decide) (by decide))) (fl_t g1 g2)
      unfold mcy hm
      rw [tl, hMM, ← e]
      exact h2
    | succ r ih =>
      intro i I1 L1 D hD hi hI h1 f1 g1 e
      have hg := gd_lt hI.2 i
      refine wp_iload (k := 93) rfl rfl ?_
      refine w_ic (k := 94) (x := nI 32) rfl (oi_nI 32) ?_
      refine w_n_ge (k := 95) (t' := 104) rfl rfl (by omega) (fun q => absurd q (by omega)) (fun q => ?_)
      refine wp_aload (k := 96) rfl rfl ?_
      refine wp_aload (k := 97) rfl rfl ?_
      refine w_gr (k := 98) (s := 13) rfl rfl (by first | assumption | rfl) (by first | assumption | rfl) ?_
      refine wp_iload (k := 99) rfl rfl ?_
      refine w_iald (k := 100) rfl rfl (by first | assumption | rfl) (by omega) (hI.1 i (by omega)) ?_
      refine w_Vv (k := 101) [_] rfl rfl rfl (Nat.le_of_ble_eq_true rfl) (by first | assumption | rfl) (Or.inl ⟨rfl, rfl⟩) ?_
      refine (c_172 h1 (by rw [List.length_append, kl]; simp; omega) (fun I2 L2 h2 f2 g2 => ⟨rfl, ?_⟩))
      refine w_incN (k := 102) (m := 1) rfl (oi_nI 1) rfl ?_
      refine w_goto (k := 103) (t' := 93) rfl rfl ?_
      rw [uI_nI (by omega), Nat.mod_eq_of_lt hg, List.append_assoc, tk_app (by omega)] at h2
      exact ih (i + 1) I2 L2 D hD (by omega) (av_keep hI (f2.1 111 (by decide) (by decide))) h2 (fx_t f1 (fx_mo f2 (by decide) (by decide))) (fl_t g1 g2) e
  have cpy : ∀ (r i : Nat) (I1 : Nat → Nat → Int32) (L1 : Nat → Nat → Int64) (D : List Nat), D.length = 32 → (∀ c ∈ D, c < 256) → i + r = 32 → av I1 109 D → av I1 111 (D.take i) → mk I1 → fx [103, 104, 105, 108, 109, 111] [6] I I1 → fl [7] L L1 → D = sha (kx K 54 ++ MM) → am_V 177 am_c177 (d + 4) (am_SH N) Q 56 [some (.ref 100), some (.ref a), some (.int (nI n)), some (.int (nI (n + 16))), some (.int (nI i))] [] (am_SH N, I1, L1, am_RR w) := by
    intro r
    induction r with
    | zero =>
      intro i I1 L1 D hD hD2 hi h1 h2 m1 f1 g1 e
      rw [List.take_of_length_le (by omega)] at h2
      refine wp_iload (k := 56) rfl rfl ?_
      refine w_ic (k := 57) (x := nI 32) rfl (oi_nI 32) ?_
      refine w_n_ge (k := 58) (t' := 69) rfl rfl (by omega) (fun q => ?_) (fun q => absurd q (by omega))
      refine wp_aload (k := 69) rfl rfl ?_
      refine w_Vv (k := 70) [] rfl rfl rfl (Nat.le_of_ble_eq_true rfl) (by first | assumption | rfl) (Or.inl ⟨rfl, rfl⟩) ?_
      refine (c_170 m1 (fun I2 L2 h3 f2 g2 => ⟨rfl, ?_⟩))
      refine w_ic (k := 71) (x := nI 0) rfl (oi_nI 0) ?_
      refine wp_istore (k := 72) rfl rfl ?_
      refine lk92 64 0 I2 L2 (by omega) (by simpa using h3) (fx_t f1 (fx_mo f2 (by decide) (by decide))) (fl_t g1 g2) (fun I3 L3 h4 f3 g3 => ?_)
      refine w_ic (k := 91) (x := nI 0) rfl (oi_nI 0) ?_
      refine wp_istore (k := 92) rfl rfl ?_
      exact in2 32 0 I3 L3 D hD (by omega) (av_keep h2 (by rw [f3.1 111 (by decide) (by decide), f2.1 111 (by decide) (by decide)])) (by simpa using h4) (fx_t (fx_t f1 (fx_mo f2 (by decide) (by decide))) (fx_mo f3 (by decide) (by decide))) (fl_t (fl_t g1 g2) g3) e
    | succ r ih =>
      intro i I1 L1 D hD hD2 hi h1 h2 m1 f1 g1 e
      refine wp_iload (k := 56) rfl rfl ?_
      refine w_ic (k := 57) (x := nI 32) rfl (oi_nI 32) ?_
      refine w_n_ge (k := 58) (t' := 69) rfl rfl (by omega) (fun q => absurd q (by omega)) (fun q => ?_)
      refine wp_aload (k := 59) rfl rfl ?_
      refine w_gr (k := 60) (s := 13) rfl rfl (by first | assumption | rfl) (by first | assumption | rfl) ?_
      refine wp_iload (k := 61) rfl rfl ?_
      refine wp_aload (k := 62) rfl rfl ?_
      refine w_gr (k := 63) (s := 11) rfl rfl (by first | assumption | rfl) (by first | assumption | rfl) ?_
      refine wp_iload (k := 64) rfl rfl ?_
      refine w_iald (k := 65) rfl rfl (by first | assumption | rfl) (by omega) (h1.1 i (by omega)) ?_
      refine w_iast (k := 66) rfl rfl (by omega) (by first | assumption | rfl) (by omega) ?_
      refine w_incN (k := 67) (m := 1) rfl (oi_nI 1) rfl ?_
      refine w_goto (k := 68) (t' := 56) rfl rfl ?_
      have hst := av_step (X := []) (s := 0) (bs := D) (k := i) (by rw [wr_e (A := []) (s := 0) rfl]; exact h2) (by omega) (by decide) hD2
      rw [wr_e (A := []) (s := 0) rfl, List.nil_append, Nat.zero_add] at hst
      exact ih (i + 1) _ L1 D hD hD2 (by omega) (av_keep h1 (am_uR (by decide))) hst (mk_k m1 (am_uR (by decide)) (am_uR (by decide))) (fx_t f1 (fx_p (by decide) (by decide))) g1 e
  have msg : ∀ (r i : Nat) (I1 : Nat → Nat → Int32) (L1 : Nat → Nat → Int64), i + r = n → hs_ I1 L1 (kx K 54 ++ MM.take i) → fx [103, 104, 105, 108, 109, 111] [6] I I1 → fl [7] L L1 → am_V 177 am_c177 (d + 4) (am_SH N) Q 30 [some (.ref 100), some (.ref a), some (.int (nI n)), some (.int (nI (n + 16))), some (.int (nI i))] [] (am_SH N, I1, L1, am_RR w) := by
    intro r
    induction r with
    | zero =>
      intro i I1 L1 hi h1 f1 g1
      rw [List.take_of_length_le (by omega)] at h1
      refine wp_iload (k := 30) rfl rfl ?_
      refine wp_iload (k := 31) rfl rfl ?_
      refine w_n_ge (k := 32) (t' := 52) rfl rfl (by omega) (fun q => ?_) (fun q => absurd q (by omega))
      refine wp_aload (k := 52) rfl rfl ?_
      refine w_Vv (k := 53) [] rfl rfl rfl (Nat.le_of_ble_eq_true rfl) (by first | assumption | rfl) (Or.inl ⟨rfl, rfl⟩) ?_
      refine (c_174 h1 (by rw [List.length_append, kl]; omega) (fun I2 L2 h2 m2 f2 g2 => ⟨rfl, ?_⟩))
      refine w_ic (k := 54) (x := nI 0) rfl (oi_nI 0) ?_
      refine wp_istore (k := 55) rfl rfl ?_
      exact cpy 32 0 I2 L2 _ (sha_len _) (sha_lt _) (by omega) h2 ⟨fun j hj => absurd hj (by simp), fun c hc => by simp at hc⟩ m2 (fx_t f1 (fx_mo f2 (by decide) (by decide))) (fl_t g1 g2) rfl
    | succ r ih =>
      intro i I1 L1 hi h1 f1 g1
      have go : ∀ x : Int32, uI x % 256 = MM.getD i 0 → am_V 177 am_c177 (d + 4) (am_SH N) Q 49 [some (.ref 100), some (.ref a), some (.int (nI n)), some (.int (nI (n + 16))), some (.int (nI i))] [.int x, .ref 100] (am_SH N, I1, L1, am_RR w) := by
        intro x hx
        refine w_Vv (k := 49) [_] rfl rfl rfl (Nat.le_of_ble_eq_true rfl) (by first | assumption | rfl) (Or.inl ⟨rfl, rfl⟩) ?_
        refine (c_172 h1 (by rw [List.length_append, kl]; simp; omega) (fun I2 L2 h2 f2 g2 => ⟨rfl, ?_⟩))
        refine w_incN (k := 50) (m := 1) rfl (oi_nI 1) rfl ?_
        refine w_goto (k := 51) (t' := 30) rfl rfl ?_
        rw [hx, List.append_assoc, tk_app (by omega)] at h2
        exact ih (i + 1) I2 L2 (by omega) h2 (fx_t f1 (fx_mo f2 (by decide) (by decide))) (fl_t g1 g2)
      have hg : MM.getD i 0 = if i < 2 then (A.take n).getD i 0 else if i < 2 + 2 then (be 2 (n + 16)).getD (i - 2) 0 else (A.take n).getD i 0 := by
        rw [← hMM, wr_getD (by omega), be_len]
      refine wp_iload (k := 30) rfl rfl ?_
      refine wp_iload (k := 31) rfl rfl ?_
      refine w_n_ge (k := 32) (t' := 52) rfl rfl (by omega) (fun q => absurd q (by omega)) (fun q => ?_)
      refine wp_aload (k := 33) rfl rfl ?_
      refine wp_iload (k := 34) rfl rfl ?_
      refine w_ic (k := 35) (x := nI 2) rfl (oi_nI 2) ?_
      refine w_n_ne (k := 36) (t' := 41) rfl rfl (by omega) (fun k => ?_) (fun k => ?_)
      · refine wp_iload (k := 41) rfl rfl ?_
        refine w_ic (k := 42) (x := nI 3) rfl (oi_nI 3) ?_
        refine w_n_ne (k := 43) (t' := 46) rfl rfl (by omega) (fun k2 => ?_) (fun k2 => ?_)
        · have hv : I1 a i = nI (A.getD i 0) := by rw [f1.1 a h100 (ha' _ (by decide) (by decide))]; exact hA.1 i (by omega)
          have hc := gd_lt hA.2 i
          refine wp_aload (k := 46) rfl rfl ?_
          refine wp_iload (k := 47) rfl rfl ?_
          refine w_iald (k := 48) rfl rfl (by first | assumption | rfl) (by omega) hv ?_
          refine go _ ?_
          have ht : (A.take n).getD i 0 = A.getD i 0 := by rw [List.getD_eq_getElem?_getD, List.getD_eq_getElem?_getD, List.getElem?_take_of_lt (by omega)]
          rw [uI_nI (by omega), Nat.mod_eq_of_lt hc, hg, ht]
          by_cases h2 : i < 2
          · rw [if_pos h2]
          · rw [if_neg h2, if_neg (by omega)]
        · refine wp_iload (k := 44) rfl rfl ?_
          refine w_goto (k := 45) (t' := 49) rfl rfl ?_
          refine go _ ?_
          rw [hg, k2, if_neg (by decide), if_pos (by decide), uI_nI (by omega), be2]
          rfl
      · refine wp_iload (k := 37) rfl rfl ?_
        refine w_ic (k := 38) (x := nI 8) rfl (oi_nI 8) ?_
        refine wp_ishr (k := 39) rfl ?_
        rw [i_shr (by omega) (by decide)]
        refine w_goto (k := 40) (t' := 49) rfl rfl ?_
        refine go _ ?_
        rw [hg, k, if_neg (by decide), if_pos (by decide), uI_nI (by omega), be2]
        rfl
  refine am_enter (ls := [some _, some _, some _, none, none]) (cs := am_c177) rfl rfl (Nat.le_of_ble_eq_true rfl) rfl ?_
  refine wp_iload (k := 0) rfl rfl ?_
  refine w_ic (k := 1) (x := nI 36) rfl (oi_nI 36) ?_
  refine w_addN (k := 2) rfl ?_
  refine w_ic (k := 3) (x := nI 20) rfl (oi_nI 20) ?_
  refine w_subN (k := 4) rfl (by omega) ?_
  rw [show n + 36 - 20 = n + 16 by omega]
  refine wp_istore (k := 5) rfl rfl ?_
  refine wp_aload (k := 6) rfl rfl ?_
  refine w_Vv (k := 7) [] rfl rfl rfl (Nat.le_of_ble_eq_true rfl) (by first | assumption | rfl) (Or.inl ⟨rfl, rfl⟩) ?_
  refine (c_170 hk (fun I1 L1 h1 f1 g1 => ⟨rfl, ?_⟩))
  refine w_ic (k := 8) (x := nI 0) rfl (oi_nI 0) ?_
  refine wp_istore (k := 9) rfl rfl ?_
  refine lk54 64 0 I1 L1 (by omega) (by simpa using h1) (fx_mo f1 (by decide) (by decide)) g1 (fun I2 L2 h2 f2 g2 => ?_)
  refine w_ic (k := 28) (x := nI 0) rfl (oi_nI 0) ?_
  refine wp_istore (k := 29) rfl rfl ?_
  exact msg n 0 I2 L2 (by omega) (by simpa using h2) (fx_t (fx_mo f1 (by decide) (by decide)) (fx_mo f2 (by decide) (by decide))) (fl_t g1 g2)
end MSE
