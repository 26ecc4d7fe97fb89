/-! ===== who may ask: the reference ===== -/
section MK1
variable {d N : Nat} {I : Nat → Nat → Int32} {L : Nat → Nat → Int64} {w : Option Nat} {Q : am_Q} {A : List Nat} {U : UR} {rl : List Nat}
theorem l_mask {x : Nat} (h : x < 2 ^ 32) : (nI x).toInt64 &&& lN 4294967295 = lN x := by
  apply uN_inj
  rw [show lN 4294967295 = (4294967295 : Int64) from rfl, uN_lo, uN_lN (by omega)]
  have := uI_l (nI x).toInt64
  rw [Int32.toInt32_toInt64, uI_nI (by omega)] at this
  omega
theorem mD_at (hD : mD I A (ats A)) {i : Nat} (hi : i < cng A) : I 135 i = nI ((ats A).getD i a0).1 ∧ I 136 i = nI ((ats A).getD i a0).2.1 ∧ I 137 i = nI (stA A i) := hD.2.2.2.2 i (by rw [cnD_ats]; exact hi)
theorem c_246 (hA : mT I A) (hm : msg A = true) (hD : mD I A (ats A)) (hq : Q (some (.long (lN (lfe A)))) (am_SH N, I, L, am_RR w)) : am_call (d + 4) 246 [.ref 100] (am_SH N, I, L, am_RR w) Q := by
  have l96 := ats_100 hA.2.2 hm
  have cl := cng_le A
  obtain ⟨t1, t2, t3⟩ := id hA
  have fin1 : ∀ v, v < 2 ^ 32 → max 600 (min 3600 v) = lfe A → am_V 246 am_c246 (d + 3) (am_SH N) Q 19 [some (.ref 100), some (.int (oI (fnd A 13))), some (.long (lN v)), none] [] (am_SH N, I, L, am_RR w) := fun v hv e => by
    rw [← e] at hq
    refine wp_lload (k := 19) rfl rfl ?_
    refine w_lc (k := 20) (x := lN 600) rfl (ol_lN 600) ?_
    refine w_L_ge (k := 21) (t' := 25) rfl rfl rfl (fun k1 => ?_) (fun k1 => ?_)
    · refine wp_lload (k := 25) rfl rfl ?_
      refine w_lc (k := 26) (x := lN 3600) rfl (ol_lN 3600) ?_
      refine w_L_le (k := 27) (t' := 31) rfl rfl rfl (fun k2 => ?_) (fun k2 => ?_)
      · have k1 := mt (l_ltN (by omega) (by decide)).mpr (Int64.not_lt.mpr k1)
        have k2 := mt (l_ltN (by decide) (by omega)).mpr (Int64.not_lt.mpr k2)
        rw [show max 600 (min 3600 v) = v by omega] at hq
        refine wp_lload (k := 31) rfl rfl ?_
        refine w_rl (k := 32) rfl rfl rfl rfl ?_
        exact hq
      · have k2 := (l_ltN (by decide) (by omega)).mp (Int64.not_le.mp k2)
        rw [show max 600 (min 3600 v) = 3600 by omega] at hq
        refine w_lc (k := 29) (x := lN 3600) rfl (ol_lN 3600) ?_
        refine w_goto (k := 30) (t' := 32) rfl rfl ?_
        refine w_rl (k := 32) rfl rfl rfl rfl ?_
        exact hq
    · have k1 := (l_ltN (by omega) (by decide)).mp (Int64.not_le.mp k1)
      rw [show max 600 (min 3600 v) = 600 by omega] at hq
      refine w_lc (k := 23) (x := lN 600) rfl (ol_lN 600) ?_
      refine w_goto (k := 24) (t' := 32) rfl rfl ?_
      refine w_rl (k := 32) rfl rfl rfl rfl ?_
      exact hq
  refine am_enter (ls := [some _, none, none, none]) (cs := am_c246) rfl rfl (Nat.le_of_ble_eq_true rfl) rfl ?_
  refine wp_aload (k := 0) rfl rfl ?_
  refine w_ic (k := 1) (x := nI 13) rfl (oi_nI 13) ?_
  refine w_Vi (k := 2) [_] rfl rfl rfl (Nat.le_of_ble_eq_true rfl) (by first | assumption | rfl) (Or.inl ⟨rfl, rfl⟩) ?_
  refine (c_218 hA hm hD (by unfold kfs; omega) ?_)
  refine ⟨_, rfl, ?_⟩
  refine wp_istore (k := 3) (ls2 := [some _, some _, none, none]) rfl rfl ?_
  cases h13 : fnd A 13 with
  | none =>
    rw [h13] at fin1
    refine wp_iload (k := 4) rfl rfl ?_
    refine w_z_ge (k := 5) (t' := 8) rfl rfl (fun zq => absurd zq (by decide)) (fun zq => ?_)
    refine w_lc (k := 6) (x := lN 600) rfl (ol_lN 600) ?_
    refine w_goto (k := 7) (t' := 18) rfl rfl ?_
    refine wp_lstore (k := 18) (ls2 := [some _, some _, some _, none]) rfl rfl ?_
    exact fin1 600 (by decide) (by unfold lfe; rw [h13]; rfl)
  | some i =>
    rw [h13] at fin1
    have e13 := fnd_lt h13
    have fit := ats_fit hm e13.2.1
    have z13 := z_4 (Or.inr (Or.inl e13.2.2.1)) e13.2.2.2
    have b4 := nb_lt t2.2 (stA A i) 4
    have q13 := mD_at hD e13.1
    refine wp_iload (k := 4) rfl rfl ?_
    refine w_z_ge (k := 5) (t' := 8) rfl rfl (fun zq => ?_) (fun zq => absurd (nI_pos' (by omega)) zq)
    refine wp_aload (k := 8) rfl rfl ?_
    refine w_gr (k := 9) (s := 14) rfl rfl (by first | assumption | rfl) (by first | assumption | rfl) ?_
    refine wp_aload (k := 10) rfl rfl ?_
    refine w_gr (k := 11) (s := 52) rfl rfl (by first | assumption | rfl) (by first | assumption | rfl) ?_
    refine wp_iload (k := 12) rfl rfl ?_
    refine w_iald (k := 13) rfl rfl (by first | assumption | rfl) (by omega) q13.2.2 ?_
    refine w_Si (k := 14) [_, _] rfl rfl rfl (Nat.le_of_ble_eq_true rfl) (Or.inl ⟨rfl, rfl⟩) ?_
    refine (c_180 rfl (by decide) t2 (by unfold stA; omega) (by omega) ?_)
    refine ⟨_, rfl, ?_⟩
    refine wp_i2l (k := 15) rfl ?_
    refine w_lc (k := 16) (x := lN 4294967295) rfl (ol_lN 4294967295) ?_
    refine wp_land (k := 17) rfl ?_
    rw [l_mask (by omega)]
    refine wp_lstore (k := 18) (ls2 := [some _, some _, some _, none]) rfl rfl ?_
    exact fin1 _ (by omega) (by unfold lfe; rw [h13])
theorem c_243 (hA : mT I A) (hm : msg A = true) (hD : mD I A (ats A)) (hok : us_ok U) (hu : us_m I L U) {u : Nat} (h1 : u < cng A) (h8 : ((ats A).getD u a0).2.1 ≤ 8) (hq : Q (some (.int (oI (uf U (vl A u))))) (am_SH N, I, L, am_RR w)) : am_call (d + 2) 243 [.ref 100, .int (nI u)] (am_SH N, I, L, am_RR w) Q := by
  have l96 := ats_100 hA.2.2 hm
  have cl := cng_le A
  obtain ⟨t1, t2, t3⟩ := id hA
  have hu1 : u < (ats A).length := by omega
  have fit := ats_fit hm hu1
  have vlen := vl_len hm hu1
  have vlt := vl_lt t2.2 u
  have qu := mD_at hD h1
  have vg : ∀ j, j < ((ats A).getD u a0).2.1 → (vl A u).getD j 0 = A.getD (stA A u + j) 0 := fun j hj => gd_dropTake hj
  generalize hz : ((ats A).getD u a0).2.1 = z at *
  have fit : stA A u + z ≤ A.length := fit
  generalize stA A u = st at *
  generalize vl A u = V at *
  have loop : ∀ (r i : Nat), i + r = z → am_V 243 am_c243 (d + 1) (am_SH N) Q 6 [some (.ref 100), some (.int (nI u)), some (.long (lN (vb 0 (V.take i)))), none, some (.int (bI ((V.take i).all (fun c => decide (c ≠ 0))))), some (.int (nI i))] [] (am_SH N, I, L, am_RR w) := by
    intro r
    induction r with
    | zero =>
      intro i hi
      rw [List.take_of_length_le (by omega)]
      have hU8 := hok.1
      refine wp_iload (k := 6) rfl rfl ?_
      refine wp_aload (k := 7) rfl rfl ?_
      refine w_gr (k := 8) (s := 51) rfl rfl (by first | assumption | rfl) (by first | assumption | rfl) ?_
      refine wp_iload (k := 9) rfl rfl ?_
      refine w_iald (k := 10) rfl rfl (by first | assumption | rfl) (by omega) qu.2.1 ?_
      refine w_n_ge (k := 11) (t' := 45) rfl rfl (by omega) (fun zq => ?_) (fun zq => absurd zq (by omega))
      refine wp_iload (k := 45) rfl rfl ?_
      refine w_b_eq (k := 46) (t' := 51) rfl rfl (fun k1 => ?_) (fun k1 => ?_)
      · have e : uf U V = none := by
          cases hf : uf U V with
          | none => rfl
          | some j =>
            obtain ⟨-, h2, h3, -⟩ := ff_some hf
            have e := of_decide_eq_true h3
            have hw := hok.2.1 _ (ug (U := U) (i := j) (by omega))
            rw [e] at hw
            have : V.all (fun c => decide (c ≠ 0)) = true := by
              rw [List.all_eq_true]
              intro c hc
              exact decide_eq_true (by have := hw.2 c hc; omega)
            rw [this] at k1
            cases k1
        rw [e] at hq
        refine w_ic (k := 51) (x := (-1)) rfl (by decide) ?_
        refine w_ri (k := 52) rfl rfl rfl rfl ?_
        exact hq
      · have hw : wd V := ⟨by omega, fun c hc => ⟨by
          have := List.all_eq_true.mp k1 c hc
          have := of_decide_eq_true this
          omega, vlt c hc⟩⟩
        refine wp_aload (k := 47) rfl rfl ?_
        refine wp_lload (k := 48) rfl rfl ?_
        refine w_Vi (k := 49) [_] rfl rfl rfl (Nat.le_of_ble_eq_true rfl) (by first | assumption | rfl) (Or.inl ⟨rfl, rfl⟩) ?_
        refine (c_199 hU8 hu.1 ?_)
        refine ⟨_, rfl, ?_⟩
        rw [uf_m hok hu hw]
        refine w_goto (k := 50) (t' := 52) rfl rfl ?_
        refine w_ri (k := 52) rfl rfl rfl rfl ?_
        exact hq
    | succ r ih =>
      intro i hi
      have hv : I 112 (st + i) = nI (V.getD i 0) := by rw [vg i (by omega)]; exact t2.1 (st + i) (by omega)
      have hb := gd_lt vlt i
      have e1 : V.take (i + 1) = V.take i ++ [V.getD i 0] := (tk_app (by omega)).symm
      have e2 : vb 0 (V.take (i + 1)) = vb 0 (V.take i) * 256 + V.getD i 0 := by rw [e1, vb_snoc]
      have e3 : (V.take (i + 1)).all (fun c => decide (c ≠ 0)) = ((V.take i).all (fun c => decide (c ≠ 0)) && decide (V.getD i 0 ≠ 0)) := by rw [e1, List.all_append]; simp
      have ih := ih (i + 1) (by omega)
      rw [e2, e3] at ih
      have hstep : ∀ b : Bool, b = ((V.take i).all (fun c => decide (c ≠ 0)) && decide (V.getD i 0 ≠ 0)) → am_V 243 am_c243 (d + 1) (am_SH N) Q 27 [some (.ref 100), some (.int (nI u)), some (.long (lN (vb 0 (V.take i)))), none, some (.int (bI ((V.take i).all (fun c => decide (c ≠ 0))))), some (.int (nI i))] [.int (bI b)] (am_SH N, I, L, am_RR w) := fun b hb' => by
        rw [← hb'] at ih
        refine wp_istore (k := 27) (ls2 := [some _, some _, some _, none, some _, some _]) rfl rfl ?_
        refine wp_lload (k := 28) rfl rfl ?_
        refine w_ic (k := 29) (x := nI 8) rfl (oi_nI 8) ?_
        refine wp_lshl (k := 30) rfl ?_
        refine wp_aload (k := 31) rfl rfl ?_
        refine w_gr (k := 32) (s := 14) rfl rfl (by first | assumption | rfl) (by first | assumption | rfl) ?_
        refine wp_aload (k := 33) rfl rfl ?_
        refine w_gr (k := 34) (s := 52) rfl rfl (by first | assumption | rfl) (by first | assumption | rfl) ?_
        refine wp_iload (k := 35) rfl rfl ?_
        refine w_iald (k := 36) rfl rfl (by first | assumption | rfl) (by omega) qu.2.2 ?_
        refine wp_iload (k := 37) rfl rfl ?_
        refine w_addN (k := 38) rfl ?_
        refine w_iald (k := 39) rfl rfl (by first | assumption | rfl) (by omega) hv ?_
        refine wp_i2l (k := 40) rfl ?_
        rw [nI_l (by omega)]
        refine wp_lor (k := 41) rfl ?_
        rw [l_or8 _ hb]
        refine wp_lstore (k := 42) (ls2 := [some _, some _, some _, none, some _, some _]) rfl rfl ?_
        refine w_incN (k := 43) (m := 1) rfl (oi_nI 1) rfl ?_
        refine w_ls (ls2 := [some _, some _, some _, none, some _, some _]) rfl ?_
        refine w_goto (k := 44) (t' := 6) rfl rfl ?_
        exact ih
      refine wp_iload (k := 6) rfl rfl ?_
      refine wp_aload (k := 7) rfl rfl ?_
      refine w_gr (k := 8) (s := 51) rfl rfl (by first | assumption | rfl) (by first | assumption | rfl) ?_
      refine wp_iload (k := 9) rfl rfl ?_
      refine w_iald (k := 10) rfl rfl (by first | assumption | rfl) (by omega) qu.2.1 ?_
      refine w_n_ge (k := 11) (t' := 45) rfl rfl (by omega) (fun zq => absurd zq (by omega)) (fun zq => ?_)
      refine wp_iload (k := 12) rfl rfl ?_
      refine w_b_eq (k := 13) (t' := 26) rfl rfl (fun k1 => ?_) (fun k1 => ?_)
      · refine w_ic (k := 26) (x := bI false) rfl rfl ?_
        exact hstep false (by rw [k1]; rfl)
      · refine wp_aload (k := 14) rfl rfl ?_
        refine w_gr (k := 15) (s := 14) rfl rfl (by first | assumption | rfl) (by first | assumption | rfl) ?_
        refine wp_aload (k := 16) rfl rfl ?_
        refine w_gr (k := 17) (s := 52) rfl rfl (by first | assumption | rfl) (by first | assumption | rfl) ?_
        refine wp_iload (k := 18) rfl rfl ?_
        refine w_iald (k := 19) rfl rfl (by first | assumption | rfl) (by omega) qu.2.2 ?_
        refine wp_iload (k := 20) rfl rfl ?_
        refine w_addN (k := 21) rfl ?_
        refine w_iald (k := 22) rfl rfl (by first | assumption | rfl) (by omega) hv ?_
        refine w_m_eq (k := 23) (t' := 26) rfl rfl (by omega) (fun k2 => ?_) (fun k2 => ?_)
        · refine w_ic (k := 26) (x := bI false) rfl rfl ?_
          exact hstep false (by rw [k1, decide_eq_false (by omega)]; rfl)
        · refine w_ic (k := 24) (x := bI true) rfl rfl ?_
          refine w_goto (k := 25) (t' := 27) rfl rfl ?_
          exact hstep true (by rw [k1, decide_eq_true k2]; rfl)
  refine am_enter (ls := [some _, some _, none, none, none, none]) (cs := am_c243) rfl rfl (Nat.le_of_ble_eq_true rfl) rfl ?_
  refine w_lc (k := 0) (x := lN 0) rfl (ol_lN 0) ?_
  refine wp_lstore (k := 1) (ls2 := [some _, some _, some _, none, none, none]) rfl rfl ?_
  refine w_ic (k := 2) (x := bI true) rfl rfl ?_
  refine wp_istore (k := 3) (ls2 := [some _, some _, some _, none, some _, none]) rfl rfl ?_
  refine w_ic (k := 4) (x := nI 0) rfl (oi_nI 0) ?_
  refine wp_istore (k := 5) (ls2 := [some _, some _, some _, none, some _, some _]) rfl rfl ?_
  exact loop z 0 (by omega)
theorem c_242 (hA : mT I A) (hm : msg A = true) (hD : mD I A (ats A)) (hr : mr I rl) (hrl : wd rl) {u : Nat} (h1 : u < cng A) (h8 : ((ats A).getD u a0).2.1 ≤ 8) (hq : Q (some (.int (bI (decide (vl A u = rl))))) (am_SH N, I, L, am_RR w)) : am_call (d + 1) 242 [.ref 100, .int (nI u)] (am_SH N, I, L, am_RR w) Q := by
  have l96 := ats_100 hA.2.2 hm
  have cl := cng_le A
  obtain ⟨t1, t2, t3⟩ := id hA
  have hr8 := hrl.1
  have hu1 : u < (ats A).length := by omega
  have fit := ats_fit hm hu1
  have vlen := vl_len hm hu1
  have vlt := vl_lt t2.2 u
  have qu := mD_at hD h1
  have vg : ∀ j, j < ((ats A).getD u a0).2.1 → (vl A u).getD j 0 = A.getD (stA A u + j) 0 := fun j hj => gd_dropTake hj
  generalize hz : ((ats A).getD u a0).2.1 = z at *
  have fit : stA A u + z ≤ A.length := fit
  generalize stA A u = st at *
  generalize vl A u = V at *
  have loop : ∀ (r i : Nat) (b : Bool), i + r = rl.length → (b = true ↔ (z = rl.length ∧ ∀ j, j < i → V.getD j 0 = rl.getD j 0)) → am_V 242 am_c242 d (am_SH N) Q 13 [some (.ref 100), some (.int (nI u)), some (.int (bI b)), some (.int (nI i))] [] (am_SH N, I, L, am_RR w) := by
    intro r
    induction r with
    | zero =>
      intro i b hi hb
      have e : decide (V = rl) = b := by
        cases b with
        | true =>
          have hb := hb.mp rfl
          exact decide_eq_true (gd_ext (by omega) (fun j hj => hb.2 j (by omega)))
        | false =>
          refine decide_eq_false (fun e => ?_)
          have := hb.mpr ⟨by rw [← vlen, e], fun j hj => by rw [e]⟩
          cases this
      rw [e] at hq
      refine wp_iload (k := 13) rfl rfl ?_
      refine wp_aload (k := 14) rfl rfl ?_
      refine w_gi (k := 15) (s := 28) rfl rfl (by first | assumption | rfl) hr.1 ?_
      refine w_n_ge (k := 16) (t' := 39) rfl rfl (by omega) (fun zq => ?_) (fun zq => absurd zq (by omega))
      refine wp_iload (k := 39) rfl rfl ?_
      refine w_rz (k := 40) rfl rfl rfl ?_
      exact hq
    | succ r ih =>
      intro i b hi hb
      refine wp_iload (k := 13) rfl rfl ?_
      refine wp_aload (k := 14) rfl rfl ?_
      refine w_gi (k := 15) (s := 28) rfl rfl (by first | assumption | rfl) hr.1 ?_
      refine w_n_ge (k := 16) (t' := 39) rfl rfl (by omega) (fun zq => absurd zq (by omega)) (fun zq => ?_)
      refine wp_iload (k := 17) rfl rfl ?_
      refine w_b_eq (k := 18) (t' := 39) rfl rfl (fun k1 => ?_) (fun k1 => ?_)
      · have e : decide (V = rl) = b := by
          rw [k1]
          refine decide_eq_false (fun e => ?_)
          have := hb.mpr ⟨by rw [← vlen, e], fun j hj => by rw [e]⟩
          rw [this] at k1
          cases k1
        rw [e] at hq
        refine wp_iload (k := 39) rfl rfl ?_
        refine w_rz (k := 40) rfl rfl rfl ?_
        exact hq
      · have hb' := hb.mp k1
        have hv : I 112 (st + i) = nI (V.getD i 0) := by rw [vg i (by omega)]; exact t2.1 (st + i) (by omega)
        have hw : I 117 i = nI (rl.getD i 0) := hr.2.1 i (by omega)
        have b1 := gd_lt vlt i
        have b2 := gd_lt hr.2.2 i
        refine wp_aload (k := 19) rfl rfl ?_
        refine w_gr (k := 20) (s := 14) rfl rfl (by first | assumption | rfl) (by first | assumption | rfl) ?_
        refine wp_aload (k := 21) rfl rfl ?_
        refine w_gr (k := 22) (s := 52) rfl rfl (by first | assumption | rfl) (by first | assumption | rfl) ?_
        refine wp_iload (k := 23) rfl rfl ?_
        refine w_iald (k := 24) rfl rfl (by first | assumption | rfl) (by omega) qu.2.2 ?_
        refine wp_iload (k := 25) rfl rfl ?_
        refine w_addN (k := 26) rfl ?_
        refine w_iald (k := 27) rfl rfl (by first | assumption | rfl) (by omega) hv ?_
        refine wp_aload (k := 28) rfl rfl ?_
        refine w_gr (k := 29) (s := 27) rfl rfl (by first | assumption | rfl) (by first | assumption | rfl) ?_
        refine wp_iload (k := 30) rfl rfl ?_
        refine w_iald (k := 31) rfl rfl (by first | assumption | rfl) (by omega) hw ?_
        refine w_n_ne (k := 32) (t' := 35) rfl rfl (by omega) (fun k2 => ?_) (fun k2 => ?_)
        · refine w_ic (k := 35) (x := bI false) rfl rfl ?_
          refine wp_istore (k := 36) (ls2 := [some _, some _, some _, some _]) rfl rfl ?_
          refine w_incN (k := 37) (m := 1) rfl (oi_nI 1) rfl ?_
          refine w_ls (ls2 := [some _, some _, some _, some _]) rfl ?_
          refine w_goto (k := 38) (t' := 13) rfl rfl ?_
          refine ih (i + 1) false (by omega) ⟨fun e => absurd e (by decide), fun e => absurd (e.2 i (by omega)) k2⟩
        · refine w_ic (k := 33) (x := bI true) rfl rfl ?_
          refine w_goto (k := 34) (t' := 36) rfl rfl ?_
          refine wp_istore (k := 36) (ls2 := [some _, some _, some _, some _]) rfl rfl ?_
          refine w_incN (k := 37) (m := 1) rfl (oi_nI 1) rfl ?_
          refine w_ls (ls2 := [some _, some _, some _, some _]) rfl ?_
          refine w_goto (k := 38) (t' := 13) rfl rfl ?_
          refine ih (i + 1) true (by omega) ⟨fun _ => ⟨hb'.1, fun j hj => ?_⟩, fun _ => rfl⟩
          by_cases ej : j = i
          · rw [ej]; exact k2
          · exact hb'.2 j (by omega)
  refine am_enter (ls := [some _, some _, none, none]) (cs := am_c242) rfl rfl (Nat.le_of_ble_eq_true rfl) rfl ?_
  refine wp_aload (k := 0) rfl rfl ?_
  refine w_gr (k := 1) (s := 51) rfl rfl (by first | assumption | rfl) (by first | assumption | rfl) ?_
  refine wp_iload (k := 2) rfl rfl ?_
  refine w_iald (k := 3) rfl rfl (by first | assumption | rfl) (by omega) qu.2.1 ?_
  refine wp_aload (k := 4) rfl rfl ?_
  refine w_gi (k := 5) (s := 28) rfl rfl (by first | assumption | rfl) hr.1 ?_
  refine w_n_ne (k := 6) (t' := 9) rfl rfl (by omega) (fun k1 => ?_) (fun k1 => ?_)
  · refine w_ic (k := 9) (x := bI false) rfl rfl ?_
    refine wp_istore (k := 10) (ls2 := [some _, some _, some _, none]) rfl rfl ?_
    refine w_ic (k := 11) (x := nI 0) rfl (oi_nI 0) ?_
    refine wp_istore (k := 12) (ls2 := [some _, some _, some _, some _]) rfl rfl ?_
    exact loop rl.length 0 false (by omega) ⟨fun e => absurd e (by decide), fun e => absurd e.1 k1⟩
  · refine w_ic (k := 7) (x := bI true) rfl rfl ?_
    refine w_goto (k := 8) (t' := 10) rfl rfl ?_
    refine wp_istore (k := 10) (ls2 := [some _, some _, some _, none]) rfl rfl ?_
    refine w_ic (k := 11) (x := nI 0) rfl (oi_nI 0) ?_
    refine wp_istore (k := 12) (ls2 := [some _, some _, some _, some _]) rfl rfl ?_
    exact loop rl.length 0 true (by omega) ⟨fun _ => ⟨k1, fun j hj => absurd hj (Nat.not_lt_zero _)⟩, fun _ => rfl⟩
end MK1
