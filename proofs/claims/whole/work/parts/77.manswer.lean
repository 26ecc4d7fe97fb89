/-! ===== the answer: the reference ===== -/
def PA : List Nat := [103, 104, 105, 108, 109, 110, 111, 113]
def SA : List Nat := [6, 17, 18, 19, 20, 21, 59, 63]
theorem be_nb {B : List Nat} (hB : ∀ c ∈ B, c < 256) {s w : Nat} (h : s + w ≤ B.length) : be w (nb B s w) = (B.drop s).take w := by
  have hl : ((B.drop s).take w).length = w := by simp; omega
  rw [nb_vb h]
  have := be_vb ((B.drop s).take w) (fun c hc => hB c (List.mem_of_mem_drop (List.mem_of_mem_take hc)))
  rwa [hl] at this
theorem hd20_of {B : List Nat} (hB : ∀ c ∈ B, c < 256) (h : 20 ≤ B.length) (ty : Nat) : hd20 ty (nb B 8 4) (nb B 12 4) (nb B 16 4) = be 2 ty ++ be 2 0 ++ be 4 554869826 ++ (B.drop 8).take 12 := by
  unfold hd20
  rw [be_nb hB (by omega), be_nb hB (by omega), be_nb hB (by omega), List.append_assoc _ ((B.drop 8).take 4), List.append_assoc _ _ ((B.drop 16).take 4)]
  congr 1
  apply gd_ext
  · simp; omega
  · intro i hi
    have hi : i < 12 := by simp at hi; omega
    rw [gd_dropTake hi]
    have l4 : ((B.drop 8).take 4).length = 4 := by simp; omega
    have l5 : ((B.drop 12).take 4).length = 4 := by simp; omega
    have l8 : ((B.drop 8).take 4 ++ (B.drop 12).take 4).length = 8 := by rw [List.length_append, l4, l5]
    by_cases c1 : i < 8
    · rw [gd_app1 (by omega)]
      by_cases c2 : i < 4
      · rw [gd_app1 (by omega), gd_dropTake c2]
      · rw [gd_app2 (by omega), l4, gd_dropTake (by omega)]; congr 1; omega
    · rw [gd_app2 (by omega), l8, gd_dropTake (by omega)]; congr 1; omega
section MA
variable {d N : Nat} {I : Nat → Nat → Int32} {L : Nat → Nat → Int64} {w : Option Nat} {Q : am_Q} {A b : List Nat} {T : Nat → Int32} {ip port : Int32} {U : UR} {rl : List Nat}
theorem c_225 (hA : mT I A) (h20 : 20 ≤ A.length) (hS : mS I []) {m : Int32} {r : Nat} (hr : r < 4) (hq : ∀ I', mS I' (hd20 (uI (tyC m (nI r))) (nb A 8 4) (nb A 12 4) (nb A 16 4)) → fx [113] [17] I I' → Q none (am_SH N, I', L, am_RR w)) : am_call (d + 3) 225 [.ref 100, .int m, .int (nI r)] (am_SH N, I, L, am_RR w) Q := by
  obtain ⟨t1, t2, t3⟩ := hA
  rw [hd20_of t2.2 h20] at hq
  have hD : ((A.drop 8).take 12).length = 12 := by simp; omega
  have hDg : ∀ j, j < 12 → ((A.drop 8).take 12).getD j 0 = A.getD (8 + j) 0 := fun j hj => gd_dropTake hj
  have hDb : ∀ c ∈ (A.drop 8).take 12, c < 256 := fun c hc => t2.2 c (List.mem_of_mem_drop (List.mem_of_mem_take hc))
  generalize (A.drop 8).take 12 = D at *
  refine am_enter (ls := [some _, some _, some _, none]) (cs := am_c225) rfl rfl (Nat.le_of_ble_eq_true rfl) rfl ?_
  refine wp_aload (k := 0) rfl rfl ?_
  refine w_gr (k := 1) (s := 16) rfl rfl (by first | assumption | rfl) (by first | assumption | rfl) ?_
  refine w_ic (k := 2) (x := nI 0) rfl (oi_nI 0) ?_
  refine wp_iload (k := 3) rfl rfl ?_
  refine wp_iload (k := 4) rfl rfl ?_
  refine w_Si (k := 5) [_, _] rfl rfl rfl (Nat.le_of_ble_eq_true rfl) (Or.inl ⟨rfl, rfl⟩) ?_
  refine (c_226 hr ?_)
  refine ⟨_, rfl, ?_⟩
  refine w_Sv (k := 6) [_, _, _] rfl rfl rfl (Nat.le_of_ble_eq_true rfl) (Or.inl ⟨rfl, rfl⟩) ?_
  refine (c_181 rfl (by decide) (by decide) hS.2.1 (by decide) (by decide) (fun I1 k1 f1 => ⟨rfl, ?_⟩))
  have k1 : av I1 113 (be 2 (uI (tyC m (nI r)))) := by rw [wr_e (by rfl)] at k1; exact k1
  refine wp_aload (k := 7) rfl rfl ?_
  refine w_gr (k := 8) (s := 16) rfl rfl (by first | assumption | rfl) (by first | assumption | rfl) ?_
  refine w_ic (k := 9) (x := nI 2) rfl (oi_nI 2) ?_
  refine w_ic (k := 10) (x := nI 0) rfl (oi_nI 0) ?_
  refine w_Sv (k := 11) [_, _, _] rfl rfl rfl (Nat.le_of_ble_eq_true rfl) (Or.inl ⟨rfl, rfl⟩) ?_
  refine (c_181 rfl (by decide) (by decide) k1 (by rw [be_len]; decide) (by decide) (fun I2 k2 f2 => ⟨rfl, ?_⟩))
  rw [wr_e (by rw [be_len]), uI_nI (by decide)] at k2
  have hl2 : (be 2 (uI (tyC m (nI r))) ++ be 2 0).length = 4 := by simp [be_len]
  refine wp_aload (k := 12) rfl rfl ?_
  refine w_gr (k := 13) (s := 16) rfl rfl (by first | assumption | rfl) (by first | assumption | rfl) ?_
  refine w_ic (k := 14) (x := nI 4) rfl (oi_nI 4) ?_
  refine w_ic (k := 15) (x := nI 554869826) rfl (oi_nI 554869826) ?_
  refine w_Sv (k := 16) [_, _, _] rfl rfl rfl (Nat.le_of_ble_eq_true rfl) (Or.inl ⟨rfl, rfl⟩) ?_
  refine (c_182 rfl (by decide) (by decide) k2 (by omega) (by decide) (fun I3 k3 f3 => ⟨rfl, ?_⟩))
  refine w_ic (k := 17) (x := nI 8) rfl (oi_nI 8) ?_
  refine wp_istore (k := 18) rfl rfl ?_
  rw [wr_e (by omega), uI_nI (by decide)] at k3
  have hl3 : (be 2 (uI (tyC m (nI r))) ++ be 2 0 ++ be 4 554869826).length = 8 := by simp [be_len]
  generalize be 2 (uI (tyC m (nI r))) ++ be 2 0 ++ be 4 554869826 = H at *
  have F3 : ∀ x, x ≠ 113 → I3 x = I x := fun x hx => by rw [f3 x hx, f2 x hx, f1 x hx]
  have loop : ∀ (r' j : Nat) (I4 : Nat → Nat → Int32), j + r' = 12 → av I4 113 (H ++ D.take j) → (∀ x, x ≠ 113 → I4 x = I x) → am_V 225 am_c225 (d + 2) (am_SH N) Q 19 [some (.ref 100), some (.int m), some (.int (nI r)), some (.int (nI (8 + j)))] [] (am_SH N, I4, L, am_RR w) := by
    intro r'
    induction r' with
    | zero =>
      intro j I4 hj k4 f4
      rw [List.take_of_length_le (by omega)] at k4
      refine wp_iload (k := 19) rfl rfl ?_
      refine w_ic (k := 20) (x := nI 20) rfl (oi_nI 20) ?_
      refine w_n_ge (k := 21) (t' := 32) rfl rfl (by omega) (fun zq => ?_) (fun zq => absurd zq (by omega))
      refine wp_aload (k := 32) rfl rfl ?_
      refine w_ic (k := 33) (x := nI 20) rfl (oi_nI 20) ?_
      refine w_pi (k := 34) (s := 17) rfl rfl (by first | assumption | rfl) ?_
      refine w_rv (k := 35) rfl rfl rfl rfl ?_
      have hl : (H ++ D).length = 20 := by rw [List.length_append]; omega
      exact hq _ ⟨by rw [am_us, hl], av_keep k4 (am_uR (by decide)), by omega⟩ (fx_t (fx_a (a := 113) f4 (by decide) (by decide)) (fx_s (by decide)))
    | succ r' ih =>
      intro j I4 hj k4 f4
      have hv : I4 112 (8 + j) = nI (D.getD j 0) := by rw [f4 112 (by decide), hDg j (by omega)]; exact t2.1 (8 + j) (by omega)
      refine wp_iload (k := 19) rfl rfl ?_
      refine w_ic (k := 20) (x := nI 20) rfl (oi_nI 20) ?_
      refine w_n_ge (k := 21) (t' := 32) rfl rfl (by omega) (fun zq => absurd zq (by omega)) (fun zq => ?_)
      refine wp_aload (k := 22) rfl rfl ?_
      refine w_gr (k := 23) (s := 16) rfl rfl (by first | assumption | rfl) (by first | assumption | rfl) ?_
      refine wp_iload (k := 24) rfl rfl ?_
      refine wp_aload (k := 25) rfl rfl ?_
      refine w_gr (k := 26) (s := 14) rfl rfl (by first | assumption | rfl) (by first | assumption | rfl) ?_
      refine wp_iload (k := 27) rfl rfl ?_
      refine w_iald (k := 28) rfl rfl (by first | assumption | rfl) (by omega) hv ?_
      refine w_iast (k := 29) rfl rfl (by omega) (by first | assumption | rfl) (by omega) ?_
      refine w_incN (k := 30) (m := 1) rfl (oi_nI 1) rfl ?_
      refine w_goto (k := 31) (t' := 19) rfl rfl ?_
      have hlj : (H ++ D.take j).length = 8 + j := by rw [List.length_append, List.length_take]; omega
      have k5 := av_w1 k4 (s := 8 + j) (by omega) (gd_lt hDb j)
      rw [wr_e hlj.symm, List.append_assoc, tk_app (by omega)] at k5
      exact ih (j + 1) _ (by omega) k5 (fun x hx => by rw [am_uR hx, f4 x hx])
  exact loop 12 0 I3 rfl (by rw [List.take_zero, List.append_nil]; exact k3) F3
theorem ky_m {u p : Int64} {k : Nat} (hok : us_ok U) (hu : us_m I L U) (hk : k < U.length) (h1 : L 115 k = u) (h2 : L 116 k = p) : ky (nz 8 (uN u)) rl (nz 8 (uN p)) = kyu U rl k := by
  have hw := hok.2.1 _ (ug hk)
  have e := hu.2 k hk
  unfold kyu
  rw [← h1, ← h2, e.1, e.2, uN_vb hw, nz_vb hw]
theorem c_232 (hm : msg A = true) (hA400 : ∀ c ∈ A, c < 256) (hAl : A.length ≤ 400) (h55 : I 100 55 = oA (ats A) (fgi A (ats A))) {x y z : Int32} (hp : po_m I (false, x, y, z, b)) (hb1 : 20 ≤ b.length) (hb2 : b.length ≤ 60) (hT : tl_m I T) (h65 : I 100 65 = ip) (h66 : I 100 66 = port) {sg : Option Nat} (h67 : I 100 67 = oI sg) (hsg : ∀ k, sg = some k → k < U.length) (hk : mk I) (hr : mr I rl) (hrl : wd rl) (hok : us_ok U) (hu : us_m I L U) (hq : ∀ I' L', po_m I' (true, ip, port, nI 3478, fgb A (sgb U rl sg b)) → tl_m I' (inc T 0) → mk I' → fx PA SA I I' → fl [7] L L' → Q none (am_SH N, I', L', am_RR w)) : am_call (d + 6) 232 [.ref 100] (am_SH N, I, L, am_RR w) Q := by
  -- the end
  have fin2 : ∀ (I5 : Nat → Nat → Int32) (L5 : Nat → Nat → Int64) (b5 : List Nat) (o1 o2 : Option Value), 20 ≤ b5.length → b5.length ≤ 100 → fgb A b5 = fgb A (sgb U rl sg b) → po_m I5 (false, x, y, z, b5) → tl_m I5 T → mk I5 → fx PA SA I I5 → fl [7] L L5 → am_V 232 am_c232 (d + 5) (am_SH N) Q 43 [some (.ref 100), o1, o2] [] (am_SH N, I5, L5, am_RR w) := by
    intro I5 L5 b5 o1 o2 l1 l2 hb p5 t5 m5 f5 g5
    have v55 : I5 100 55 = oA (ats A) (fgi A (ats A)) := by rw [f5.2 55 (by decide)]; exact h55
    have v65 : I5 100 65 = ip := by rw [f5.2 65 (by decide)]; exact h65
    have v66 : I5 100 66 = port := by rw [f5.2 66 (by decide)]; exact h66
    cases hf : fgi A (ats A) with
    | none =>
      rw [hf] at v55
      have e1 : fgb A b5 = b5 := by unfold fgb; rw [if_neg (by rw [hf]; decide)]
      rw [← hb, e1] at hq
      refine wp_aload (k := 43) rfl rfl ?_
      refine w_gi (k := 44) (s := 55) rfl rfl (by first | assumption | rfl) v55 ?_
      refine w_z_lt (k := 45) (t' := 61) rfl rfl (fun zq => ?_) (fun zq => absurd (show (-1 : Int32) < 0 by decide) zq)
      refine wp_aload (k := 61) rfl rfl ?_
      refine wp_aload (k := 62) rfl rfl ?_
      refine w_gi (k := 63) (s := 65) rfl rfl (by first | assumption | rfl) v65 ?_
      refine wp_aload (k := 64) rfl rfl ?_
      refine w_gi (k := 65) (s := 66) rfl rfl (by first | assumption | rfl) v66 ?_
      refine w_ic (k := 66) (x := nI 3478) rfl (oi_nI 3478) ?_
      refine w_Vv (k := 67) [_, _, _] rfl rfl rfl (Nat.le_of_ble_eq_true rfl) (by first | assumption | rfl) (Or.inl ⟨rfl, rfl⟩) ?_
      refine (c_223 p5 t5 (fun I6 p6 t6 f6 => ⟨rfl, ?_⟩))
      refine w_rv (k := 68) rfl rfl rfl rfl ?_
      exact hq I6 L5 p6 t6 (mk_k m5 (f6.1 101 (by decide) (by decide)) (f6.1 102 (by decide) (by decide))) (fx_t f5 (fx_mo f6 (by decide) (by decide))) g5
    | some j =>
      rw [hf] at v55
      have hj := fgi_lt hf
      have haj := ats_at hA400 hj
      have e1 : fgb A b5 = at_ b5 32808 (fgr b5) := by unfold fgb; rw [if_pos (by rw [hf]; rfl)]
      rw [← hb, e1] at hq
      obtain ⟨s1, s2, s3, s4, s5⟩ := p5
      have s5 : mS I5 b5 := s5
      refine wp_aload (k := 43) rfl rfl ?_
      refine w_gi (k := 44) (s := 55) rfl rfl (by first | assumption | rfl) v55 ?_
      refine w_z_lt (k := 45) (t' := 61) rfl rfl (fun zq => absurd zq (show ¬ oA (ats A) (some j) < 0 from nI_pos (by omega))) (fun zq => ?_)
      refine wp_aload (k := 46) rfl rfl ?_
      refine w_ic (k := 47) (x := nI 32808) rfl (oi_nI 32808) ?_
      refine w_ic (k := 48) (x := nI 4) rfl (oi_nI 4) ?_
      refine w_Vi (k := 49) [_, _] rfl rfl rfl (Nat.le_of_ble_eq_true rfl) (by first | assumption | rfl) (Or.inl ⟨rfl, rfl⟩) ?_
      refine (c_229 s5 l1 (m := 4) (by rw [pad4_4]; omega) (fun I6 k6 f6 => ⟨_, rfl, ?_⟩))
      refine wp_istore (k := 50) rfl rfl ?_
      obtain ⟨i1, i2, i3⟩ := k6
      have hX : b5.length + 4 ≤ (hd_ b5 (uI (nI 32808)) 4 ++ List.replicate (pad4 4) 0).length := by rw [hz_len l1]; omega
      refine wp_aload (k := 51) rfl rfl ?_
      refine w_gr (k := 52) (s := 16) rfl rfl (by first | assumption | rfl) (by first | assumption | rfl) ?_
      refine wp_iload (k := 53) rfl rfl ?_
      refine wp_aload (k := 54) rfl rfl ?_
      refine w_gr (k := 55) (s := 16) rfl rfl (by first | assumption | rfl) (by first | assumption | rfl) ?_
      refine wp_iload (k := 56) rfl rfl ?_
      refine w_ic (k := 57) (x := nI 4) rfl (oi_nI 4) ?_
      refine w_subN (k := 58) rfl (by omega) ?_
      rw [show b5.length + 4 - 4 = b5.length by omega]
      refine w_Si (k := 59) [_, _] rfl rfl rfl (Nat.le_of_ble_eq_true rfl) (Or.inl ⟨rfl, rfl⟩) ?_
      refine (c_178 (m := 500) rfl (by decide) i2 ⟨by rw [hz_len l1]; omega, i3⟩ ?_)
      refine ⟨_, rfl, ?_⟩
      refine w_Sv (k := 60) [_, _, _] rfl rfl rfl (Nat.le_of_ble_eq_true rfl) (Or.inl ⟨rfl, rfl⟩) ?_
      refine (c_182 rfl (by decide) (by decide) i2 hX (by omega) (fun I7 k7 f7 => ⟨rfl, ?_⟩))
      rw [hd_take (by omega), show pad4 4 = 4 from rfl] at k7
      have k7 : av I7 113 (wr (hd_ b5 (uI (nI 32808)) 4 ++ List.replicate (pad4 4) 0) (b5.length + 4) (fgr b5)) := k7
      rw [at_fill (by omega) (show (fgr b5).length = 4 from be_len _ _)] at k7
      have hl : (at_ b5 32808 (fgr b5)).length = b5.length + 4 + 4 := by rw [at_len (by omega)]; unfold fgr; rw [be_len]; rfl
      have F7 : fx [113] [17] I5 I7 := fx_t f6 (fx_a (a := 113) f7 (by decide) (by decide))
      have p7 : po_m I7 (false, x, y, z, at_ b5 32808 (fgr b5)) := ⟨by rw [F7.2 18 (by decide)]; exact s1, by rw [F7.2 19 (by decide)]; exact s2, by rw [F7.2 20 (by decide)]; exact s3, by rw [F7.2 21 (by decide)]; exact s4, ⟨by rw [f7 100 (by decide), i1, hl, hz_len l1]; rfl, k7, by show (at_ b5 32808 (fgr b5)).length ≤ 500; omega⟩⟩
      have t7 := tl_k t5 F7 (fun j hj => by simp; omega)
      have w65 : I7 100 65 = ip := by rw [F7.2 65 (by decide)]; exact v65
      have w66 : I7 100 66 = port := by rw [F7.2 66 (by decide)]; exact v66
      refine wp_aload (k := 61) rfl rfl ?_
      refine wp_aload (k := 62) rfl rfl ?_
      refine w_gi (k := 63) (s := 65) rfl rfl (by first | assumption | rfl) w65 ?_
      refine wp_aload (k := 64) rfl rfl ?_
      refine w_gi (k := 65) (s := 66) rfl rfl (by first | assumption | rfl) w66 ?_
      refine w_ic (k := 66) (x := nI 3478) rfl (oi_nI 3478) ?_
      refine w_Vv (k := 67) [_, _, _] rfl rfl rfl (Nat.le_of_ble_eq_true rfl) (by first | assumption | rfl) (Or.inl ⟨rfl, rfl⟩) ?_
      refine (c_223 p7 t7 (fun I8 p8 t8 f8 => ⟨rfl, ?_⟩))
      refine w_rv (k := 68) rfl rfl rfl rfl ?_
      exact hq I8 L5 p8 t8 (mk_k m5 (by rw [f8.1 101 (by decide) (by decide), F7.1 101 (by decide) (by decide)]) (by rw [f8.1 102 (by decide) (by decide), F7.1 102 (by decide) (by decide)])) (fx_t f5 (fx_t (fx_mo F7 (by decide) (by decide)) (fx_mo f8 (by decide) (by decide)))) g5
  refine am_enter (ls := [some _, none, none]) (cs := am_c232) rfl rfl (Nat.le_of_ble_eq_true rfl) rfl ?_
  cases hc : sg with
  | none =>
    rw [hc] at h67
    refine wp_aload (k := 0) rfl rfl ?_
    refine w_gi (k := 1) (s := 67) rfl rfl (by first | assumption | rfl) h67 ?_
    refine w_z_lt (k := 2) (t' := 43) rfl rfl (fun zq => ?_) (fun zq => absurd (by decide) zq)
    exact fin2 I L b _ _ hb1 (by omega) (by rw [hc]; rfl) hp hT hk fx_rf fl_rf
  | some k =>
    rw [hc] at h67
    have hkl := hsg k hc
    have hU8 := hok.1
    obtain ⟨s1, s2, s3, s4, s5⟩ := hp
    have s5 : mS I b := s5
    refine wp_aload (k := 0) rfl rfl ?_
    refine w_gi (k := 1) (s := 67) rfl rfl (by first | assumption | rfl) h67 ?_
    refine w_z_lt (k := 2) (t' := 43) rfl rfl (fun zq => absurd zq (nI_pos (by omega))) (fun zq => ?_)
    refine wp_aload (k := 3) rfl rfl ?_
    refine wp_aload (k := 4) rfl rfl ?_
    refine w_gr (k := 5) (s := 24) rfl rfl (by first | assumption | rfl) (by first | assumption | rfl) ?_
    refine wp_aload (k := 6) rfl rfl ?_
    refine w_gi (k := 7) (s := 67) rfl rfl (by first | assumption | rfl) h67 ?_
    refine w_lald (k := 8) rfl (show oI (some k) = nI k from rfl) (by first | assumption | rfl) (by omega) (by first | assumption | rfl) ?_
    refine wp_aload (k := 9) rfl rfl ?_
    refine w_gr (k := 10) (s := 25) rfl rfl (by first | assumption | rfl) (by first | assumption | rfl) ?_
    refine wp_aload (k := 11) rfl rfl ?_
    refine w_gi (k := 12) (s := 67) rfl rfl (by first | assumption | rfl) h67 ?_
    refine w_lald (k := 13) rfl (show oI (some k) = nI k from rfl) (by first | assumption | rfl) (by omega) (by first | assumption | rfl) ?_
    refine w_Vv (k := 14) [_, _] rfl rfl rfl (Nat.le_of_ble_eq_true rfl) (by first | assumption | rfl) (Or.inl ⟨rfl, rfl⟩) ?_
    refine (c_176 hk hr hrl (fun I1 L1 h1 k1 f1 g1 => ⟨rfl, ?_⟩))
    rw [ky_m hok hu hkl rfl rfl] at h1
    have S1 := mS_k s5 f1 (by decide) (by decide)
    have hKl : (kyu U rl k).length = 32 := sha_len _
    refine wp_aload (k := 15) rfl rfl ?_
    refine wp_aload (k := 16) rfl rfl ?_
    refine w_gr (k := 17) (s := 16) rfl rfl (by first | assumption | rfl) (by first | assumption | rfl) ?_
    refine wp_aload (k := 18) rfl rfl ?_
    refine w_gi (k := 19) (s := 17) rfl rfl (by first | assumption | rfl) S1.1 ?_
    refine w_Vv (k := 20) [_, _] rfl rfl rfl (Nat.le_of_ble_eq_true rfl) (by first | assumption | rfl) (Or.inl ⟨rfl, rfl⟩) ?_
    refine (c_177 k1 h1 hKl (a := 113) (m := 500) rfl (by decide) (Or.inr rfl) S1.2.1 ⟨hb1, Nat.le_refl _, S1.2.2⟩ (fun I2 L2 h2 k2 f2 g2 => ⟨rfl, ?_⟩))
    rw [List.take_length] at h2
    have S2 := mS_k S1 f2 (by decide) (by decide)
    refine wp_aload (k := 21) rfl rfl ?_
    refine w_ic (k := 22) (x := nI 28) rfl (oi_nI 28) ?_
    refine w_ic (k := 23) (x := nI 32) rfl (oi_nI 32) ?_
    refine w_Vi (k := 24) [_, _] rfl rfl rfl (Nat.le_of_ble_eq_true rfl) (by first | assumption | rfl) (Or.inl ⟨rfl, rfl⟩) ?_
    refine (c_229 S2 hb1 (m := 32) (by show b.length + 4 + 32 ≤ 500; omega) (fun I3 k3 f3 => ⟨_, rfl, ?_⟩))
    refine wp_istore (k := 25) rfl rfl ?_
    refine w_ic (k := 26) (x := nI 0) rfl (oi_nI 0) ?_
    refine wp_istore (k := 27) rfl rfl ?_
    obtain ⟨i1, i2, i3⟩ := k3
    have hX : b.length + 4 ≤ (hd_ b (uI (nI 28)) 32 ++ List.replicate (pad4 32) 0).length := by rw [hz_len hb1]; omega
    generalize hDD : mcy (kyu U rl k) b = D at *
    have hDl : D.length = 32 := by rw [← hDD]; exact mcy_len _ _
    have hl : (at_ b 28 D).length = b.length + 4 + 32 := by rw [at_len (by omega), hDl]; rfl
    have F3 : fx PA SA I I3 := fx_t (fx_mo f1 (by decide) (by decide)) (fx_t (fx_mo f2 (by decide) (by decide)) (fx_mo f3 (by decide) (by decide)))
    have loop : ∀ (r i : Nat) (I6 : Nat → Nat → Int32), i + r = 32 → av I6 113 (wr (hd_ b (uI (nI 28)) 32 ++ List.replicate (pad4 32) 0) (b.length + 4) (D.take i)) → (∀ x, x ≠ 113 → I6 x = I3 x) → am_V 232 am_c232 (d + 5) (am_SH N) Q 28 [some (.ref 100), some (.int (nI (b.length + 4))), some (.int (nI i))] [] (am_SH N, I6, L2, am_RR w) := by
      intro r
      induction r with
      | zero =>
        intro i I6 hi a6 f6
        rw [List.take_of_length_le (by omega), at_fill (by omega) hDl] at a6
        have F6 : fx PA SA I I6 := fx_t F3 (fx_a (a := 113) f6 (by decide) (by decide))
        have G6 : fx [113] [17] I2 I6 := fx_t f3 (fx_a (a := 113) f6 (by decide) (by decide))
        have q18 : ∀ s, s = 18 ∨ s = 19 ∨ s = 20 ∨ s = 21 ∨ (59 ≤ s ∧ s ≤ 64) → I6 100 s = I 100 s := fun s hs => by
          rw [G6.2 s (by simp; omega), f2.2 s (by simp; omega), f1.2 s (by simp; omega)]
        refine wp_iload (k := 28) rfl rfl ?_
        refine w_ic (k := 29) (x := nI 32) rfl (oi_nI 32) ?_
        refine w_n_ge (k := 30) (t' := 43) rfl rfl (by omega) (fun zq => ?_) (fun zq => absurd zq (by omega))
        refine fin2 I6 L2 (at_ b 28 D) _ _ (by omega) (by omega) (by rw [hc, ← hDD]; rfl) ⟨by rw [q18 18 (by omega)]; exact s1, by rw [q18 19 (by omega)]; exact s2, by rw [q18 20 (by omega)]; exact s3, by rw [q18 21 (by omega)]; exact s4, ⟨?_, a6, by show (at_ b 28 D).length ≤ 500; omega⟩⟩ (fun j hj => by rw [q18 _ (by omega)]; exact hT j hj) (mk_k k2 (G6.1 101 (by decide) (by decide)) (G6.1 102 (by decide) (by decide))) F6 (fl_t g1 g2)
        rw [f6 100 (by decide), i1, hl, hz_len hb1]; rfl
      | succ r ih =>
        intro i I6 hi a6 f6
        have v6 : I6 109 i = nI (D.getD i 0) := by rw [f6 109 (by decide), f3.1 109 (by decide) (by decide)]; exact h2.1 i (by omega)
        refine wp_iload (k := 28) rfl rfl ?_
        refine w_ic (k := 29) (x := nI 32) rfl (oi_nI 32) ?_
        refine w_n_ge (k := 30) (t' := 43) rfl rfl (by omega) (fun zq => absurd zq (by omega)) (fun zq => ?_)
        refine wp_aload (k := 31) rfl rfl ?_
        refine w_gr (k := 32) (s := 16) rfl rfl (by first | assumption | rfl) (by first | assumption | rfl) ?_
        refine wp_iload (k := 33) rfl rfl ?_
        refine wp_iload (k := 34) rfl rfl ?_
        refine w_addN (k := 35) rfl ?_
        refine wp_aload (k := 36) rfl rfl ?_
        refine w_gr (k := 37) (s := 11) rfl rfl (by first | assumption | rfl) (by first | assumption | rfl) ?_
        refine wp_iload (k := 38) rfl rfl ?_
        refine w_iald (k := 39) rfl rfl (by first | assumption | rfl) (by omega) v6 ?_
        refine w_iast (k := 40) rfl rfl (by omega) (by first | assumption | rfl) (by omega) ?_
        refine w_incN (k := 41) (m := 1) rfl (oi_nI 1) rfl ?_
        refine w_goto (k := 42) (t' := 28) rfl rfl ?_
        exact ih (i + 1) _ (by omega) (av_step a6 (by omega) hX h2.2) (fun x hx => by rw [am_uR hx, f6 x hx])
    exact loop 32 0 I3 (by omega) (by rw [List.take_zero, wr_nil]; exact i2) (fun _ _ => rfl)
end MA
