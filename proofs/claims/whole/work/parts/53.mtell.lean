/-! ===== tick and what is told of allocations: the reference ===== -/
section MTL
variable {d N : Nat} {I : Nat → Nat → Int32} {L : Nat → Nat → Int64} {w : Option Nat} {Q : am_Q} {al : Nat → Option AL}
theorem rtk_ovr (al : Nat → Option AL) (t : Int64) (n : Int32) (h : oktk n = true) : rtk al t n = nI (ovr al (t + n.toInt64) 8) := by
  unfold rtk
  rw [if_pos h, ovr_cnt al (t + n.toInt64) 8, pk_sub (by omega)]
  congr 1
  omega
theorem c_208 (h : tbm I L al) (hok : tok al) {n : Int32} {t : Int64} (ht : L 100 34 = t) (hq : ∀ I' L', tbm I' L' (alt al t n) → L' 100 34 = tit t n → (∀ x, x ≠ 100 → x < 120 ∨ 134 < x → I' x = I x) → (∀ s, s ≠ 0 → I' 100 s = I 100 s) → (∀ x, x ≠ 100 → x < 120 ∨ 134 < x → L' x = L x) → (∀ s, s ≠ 34 → L' 100 s = L 100 s) → Q (some (.int (rtk al t n))) (am_SH N, I', L', am_RR w)) : am_call (d + 3) 208 [.ref 100, .int n] (am_SH N, I, L, am_RR w) Q := by
  have h0 : tbm (am_u I 100 0 (nI 0)) L al := tbm_k h (fun x _ _ => am_uR (by omega)) (fun _ _ _ => rfl)
  refine am_enter (ls := [some _, some _]) (cs := am_c208) rfl rfl (Nat.le_of_ble_eq_true rfl) rfl ?_
  refine wp_aload (k := 0) rfl rfl ?_
  refine w_ic (k := 1) (x := nI 0) rfl (oi_nI 0) ?_
  refine w_pi (k := 2) (s := 0) rfl rfl (by first | assumption | rfl) ?_
  refine wp_iload (k := 3) rfl rfl ?_
  refine wp_i2l (k := 4) rfl ?_
  refine w_lc (k := 5) (x := lN 0) rfl (ol_lN 0) ?_
  refine w_lc (k := 6) (x := lN 10000) rfl (ol_lN 10000) ?_
  refine w_Si (k := 7) [_, _, _] rfl rfl rfl (Nat.le_of_ble_eq_true rfl) (Or.inl ⟨rfl, rfl⟩) ?_
  refine (c_166 ?_)
  refine ⟨_, rfl, ?_⟩
  rw [show decide (lN 0 ≤ n.toInt64 ∧ n.toInt64 ≤ lN 10000) = oktk n from decide_eq_decide.mpr (in_kd n (by decide) (by decide))]
  refine w_b_ne (k := 8) (t' := 11) rfl rfl (fun k => ?_) (fun k => ?_)
  · have hr := rtk_ovr al t n k
    unfold alt tit at hq
    rw [if_pos k, if_pos k, hr] at hq
    have h1 : tbm (am_u I 100 0 (nI 0)) (am_u L 100 34 (t + n.toInt64)) al := tbm_k h0 (fun _ _ _ => rfl) (fun x _ _ => am_uR (by omega))
    refine wp_aload (k := 11) rfl rfl ?_
    refine wp_dup (k := 12) rfl rfl ?_
    refine w_gl (k := 13) (s := 34) rfl rfl (by first | assumption | rfl) (by first | assumption | rfl) ?_
    refine wp_iload (k := 14) rfl rfl ?_
    refine wp_i2l (k := 15) rfl ?_
    refine wp_ladd (k := 16) rfl ?_
    refine w_pl (k := 17) (s := 34) rfl rfl (by first | assumption | rfl) ?_
    refine wp_aload (k := 18) rfl rfl ?_
    refine w_Vi (k := 19) [] rfl rfl rfl (Nat.le_of_ble_eq_true rfl) (by first | assumption | rfl) (Or.inl ⟨rfl, rfl⟩) ?_
    refine (c_206 h1 hok am_us (fun I1 L1 a b c => ⟨_, rfl, ?_⟩))
    refine w_ri (k := 20) rfl rfl rfl rfl ?_
    refine hq I1 L1 a (by rw [c 100 (by decide)]; exact am_us) (fun x h1 h2 => by rw [b x h2, am_uR h1]) (fun s hs => by rw [b 100 (by decide)]; exact am_uw hs rfl) (fun x h1 h2 => by rw [c x h2, am_uR h1]) (fun s hs => by rw [c 100 (by decide)]; exact am_uw hs rfl)
  · unfold alt tit rtk at hq
    rw [k] at hq
    refine w_ic (k := 9) (x := (-1)) rfl (by decide) ?_
    refine w_ri (k := 10) rfl rfl rfl rfl ?_
    exact hq _ L h0 ht (fun x h1 _ => am_uR h1) (fun s hs => am_uw hs rfl) (fun _ _ _ => rfl) (fun _ _ => rfl)
theorem cl_lf (hok : tok al) (ip port : Int32) : clf al ip port = lf (isc al ip port) 8 := ff_lf (fun i j hij hj h1 h2 => by
  unfold isc at h1 h2
  cases ha : al i with
  | none => rw [ha] at h1; cases h1
  | some a =>
    cases hb : al j with
    | none => rw [hb] at h2; cases h2
    | some b =>
      rw [ha] at h1
      rw [hb] at h2
      have h1 := of_decide_eq_true h1
      have h2 := of_decide_eq_true h2
      exact (hok.2 i j a b hij hj ha hb).1 ⟨h1.1.trans h2.1.symm, h1.2.trans h2.2.symm⟩)
theorem pt_lf (hok : tok al) (port : Int32) : ptf al port = lf (isp al port) 8 := ff_lf (fun i j hij hj h1 h2 => by
  unfold isp at h1 h2
  cases ha : al i with
  | none => rw [ha] at h1; cases h1
  | some a =>
    cases hb : al j with
    | none => rw [hb] at h2; cases h2
    | some b =>
      rw [ha] at h1
      rw [hb] at h2
      exact (hok.2 i j a b hij hj ha hb).2 ((of_decide_eq_true h1).trans (of_decide_eq_true h2).symm))
theorem c_209 (h : tbm I L al) (hok : tok al) {ip port : Int32} (hq : Q (some (.int (oI (clf al ip port)))) (am_SH N, I, L, am_RR w)) : am_call (d + 1) 209 [.ref 100, .int ip, .int port] (am_SH N, I, L, am_RR w) Q := by
  rw [cl_lf hok] at hq
  have loop : ∀ (m : Nat), m ≤ 8 → lf (isc al ip port) 8 = lf (isc al ip port) m → am_V 209 am_c209 d (am_SH N) Q 2 [some (.ref 100), some (.int ip), some (.int port), some (.int (nI m - nI 1))] [] (am_SH N, I, L, am_RR w) := by
    intro m
    induction m with
    | zero =>
      intro hm e
      refine wp_iload (k := 2) rfl rfl ?_
      refine w_z_lt (k := 3) (t' := 23) rfl rfl (fun zq => ?_) (fun zq => absurd (by decide) zq)
      refine wp_iload (k := 23) rfl rfl ?_
      refine w_ri (k := 24) rfl rfl rfl rfl ?_
      rw [e] at hq
      exact hq
    | succ m ih =>
      intro hm e
      have er : nI (m + 1) - nI 1 = nI m := by rw [pk_sub (by omega)]; congr 1
      rw [er]
      rw [show lf (isc al ip port) (m + 1) = if isc al ip port m then some m else lf (isc al ip port) m from rfl] at e
      have ho := h m (by omega)
      have th := om_th ho
      have no : isc al ip port m = false → am_V 209 am_c209 d (am_SH N) Q 21 [some (.ref 100), some (.int ip), some (.int port), some (.int (nI m))] [] (am_SH N, I, L, am_RR w) := by
        intro hf
        rw [if_neg (by rw [hf]; decide)] at e
        refine w_incX (k := 21) rfl rfl (m1 m) ?_
        refine w_goto (k := 22) (t' := 2) rfl rfl ?_
        exact ih (by omega) e
      refine wp_iload (k := 2) rfl rfl ?_
      refine w_m_lt (k := 3) (t' := 23) rfl rfl (by omega) (fun zq => absurd zq (by omega)) (fun zq => ?_)
      refine wp_aload (k := 4) rfl rfl ?_
      refine w_gr (k := 5) (s := 35) rfl rfl (by first | assumption | rfl) (by first | assumption | rfl) ?_
      refine wp_iload (k := 6) rfl rfl ?_
      refine w_cald (k := 7) rfl rfl (by first | assumption | rfl) (by omega) th ?_
      refine w_b_eq (k := 8) (t' := 21) rfl rfl (fun k => ?_) (fun k => ?_)
      · exact no (by unfold isc; cases ha : al m with | none => rfl | some a => rw [ha] at k; cases k)
      · cases ha : al m with
        | none => rw [ha] at k; cases k
        | some a =>
          rw [ha] at ho
          obtain ⟨a1, a2, a3, a4, -⟩ := ho
          refine wp_aload (k := 9) rfl rfl ?_
          refine w_gr (k := 10) (s := 36) rfl rfl (by first | assumption | rfl) (by first | assumption | rfl) ?_
          refine wp_iload (k := 11) rfl rfl ?_
          refine w_iald (k := 12) rfl rfl (by first | assumption | rfl) (by omega) a2 ?_
          refine wp_iload (k := 13) rfl rfl ?_
          refine w_c_ne (k := 14) (t' := 21) rfl rfl (fun k2 => ?_) (fun k2 => ?_)
          · exact no (by unfold isc; rw [ha]; exact decide_eq_false (fun z => k2 z.1))
          · refine wp_aload (k := 15) rfl rfl ?_
            refine w_gr (k := 16) (s := 37) rfl rfl (by first | assumption | rfl) (by first | assumption | rfl) ?_
            refine wp_iload (k := 17) rfl rfl ?_
            refine w_iald (k := 18) rfl rfl (by first | assumption | rfl) (by omega) a3 ?_
            refine wp_iload (k := 19) rfl rfl ?_
            refine w_c_eq (k := 20) (t' := 23) rfl rfl (fun k3 => ?_) (fun k3 => ?_)
            · rw [if_pos (by unfold isc; rw [ha]; exact decide_eq_true ⟨k2, k3⟩)] at e
              refine wp_iload (k := 23) rfl rfl ?_
              refine w_ri (k := 24) rfl rfl rfl rfl ?_
              rw [e] at hq
              exact hq
            · exact no (by unfold isc; rw [ha]; exact decide_eq_false (fun z => k3 z.2))
  refine am_enter (ls := [some _, some _, some _, none]) (cs := am_c209) rfl rfl (Nat.le_of_ble_eq_true rfl) rfl ?_
  refine w_ic (k := 0) (x := nI 7) rfl (oi_nI 7) ?_
  refine wp_istore (k := 1) rfl rfl ?_
  exact loop 8 (Nat.le_refl _) rfl
theorem c_260 (h : tbm I L al) {k : Int32} (hq : Q (some (.int (bI (atk al k).isSome))) (am_SH N, I, L, am_RR w)) : am_call (d + 2) 260 [.ref 100, .int k] (am_SH N, I, L, am_RR w) Q := by
  have no : ∀ ls, atk al k = none → am_V 260 am_c260 (d + 1) (am_SH N) Q 13 ls [] (am_SH N, I, L, am_RR w) := by
    intro ls hn
    rw [hn] at hq
    refine w_ic (k := 13) (x := bI false) rfl rfl ?_
    refine w_rz (k := 14) rfl rfl rfl ?_
    exact hq
  refine am_enter (ls := [some _, some _]) (cs := am_c260) rfl rfl (Nat.le_of_ble_eq_true rfl) rfl ?_
  refine wp_iload (k := 0) rfl rfl ?_
  refine wp_i2l (k := 1) rfl ?_
  refine w_lc (k := 2) (x := lN 0) rfl (ol_lN 0) ?_
  refine w_lc (k := 3) (x := lN 7) rfl (ol_lN 7) ?_
  refine w_Si (k := 4) [_, _, _] rfl rfl rfl (Nat.le_of_ble_eq_true rfl) (Or.inl ⟨rfl, rfl⟩) ?_
  refine (c_166 ?_)
  refine ⟨_, rfl, ?_⟩
  rw [show decide (lN 0 ≤ k.toInt64 ∧ k.toInt64 ≤ lN 7) = decide (¬ k < 0 ∧ ¬ nI 7 < k) from decide_eq_decide.mpr (in_kd k (by decide) (by decide))]
  refine w_b_eq (k := 5) (t' := 13) rfl rfl (fun k1 => ?_) (fun k1 => ?_)
  · have k1 := of_decide_eq_false k1
    refine no _ ?_
    unfold atk
    by_cases c : k < 0
    · rw [if_pos (Or.inl c)]
    · have c2 : nI 7 < k := Classical.not_not.mp (fun z => k1 ⟨c, z⟩)
      obtain ⟨j, hj, rfl⟩ := nI_of c
      have hj8 : 7 < j := (nI_ltI (by decide) (by omega)).mp c2
      rw [if_pos (Or.inr (nI_le (by omega) (by omega)))]
  · have k1 := of_decide_eq_true k1
    obtain ⟨j, hj, rfl⟩ := nI_of k1.1
    have hj8 : j ≤ 7 := (nI_leI (by omega) (by decide)).mp (Int32.not_lt.mp k1.2)
    have e : atk al (nI j) = if (al j).isSome then some j else none := by
      unfold atk
      rw [if_neg (fun z => z.elim k1.1 (nI_ge (show j < 8 by omega) (by decide))), nI_clamp (by omega)]
    have th := om_th (h j (by omega))
    refine wp_aload (k := 6) rfl rfl ?_
    refine w_gr (k := 7) (s := 35) rfl rfl (by first | assumption | rfl) (by first | assumption | rfl) ?_
    refine wp_iload (k := 8) rfl rfl ?_
    refine w_cald (k := 9) rfl rfl (by first | assumption | rfl) (by omega) th ?_
    refine w_b_eq (k := 10) (t' := 13) rfl rfl (fun k2 => ?_) (fun k2 => ?_)
    · exact no _ (by rw [e, if_neg (by rw [k2]; decide)])
    · rw [e, if_pos k2] at hq
      refine w_ic (k := 11) (x := bI true) rfl rfl ?_
      refine w_goto (k := 12) (t' := 14) rfl rfl ?_
      refine w_rz (k := 14) rfl rfl rfl ?_
      exact hq
theorem c_261 (h : tbm I L al) {t : Int64} (ht : L 100 34 = t) {k x : Int32} (hq : Q (some (.int (sp_al al t k x))) (am_SH N, am_u I 100 0 (nI 0), L, am_RR w)) : am_call (d + 3) 261 [.ref 100, .int k, .int x] (am_SH N, I, L, am_RR w) Q := by
  have h0 : tbm (am_u I 100 0 (nI 0)) L al := tbm_k h (fun x _ _ => am_uR (by omega)) (fun _ _ _ => rfl)
  unfold sp_al at hq
  refine am_enter (ls := [some _, some _, some _]) (cs := am_c261) rfl rfl (Nat.le_of_ble_eq_true rfl) rfl ?_
  refine wp_aload (k := 0) rfl rfl ?_
  refine w_ic (k := 1) (x := nI 0) rfl (oi_nI 0) ?_
  refine w_pi (k := 2) (s := 0) rfl rfl (by first | assumption | rfl) ?_
  refine wp_aload (k := 3) rfl rfl ?_
  refine wp_iload (k := 4) rfl rfl ?_
  refine w_Vi (k := 5) [_] rfl rfl rfl (Nat.le_of_ble_eq_true rfl) (by first | assumption | rfl) (Or.inl ⟨rfl, rfl⟩) ?_
  refine (c_260 h0 ?_)
  refine ⟨_, rfl, ?_⟩
  cases ha : atk al k with
  | none =>
    rw [ha] at hq
    refine w_b_ne (k := 6) (t' := 9) rfl rfl (fun zq => absurd (zq.symm.trans rfl) (by decide)) (fun zq => ?_)
    refine w_ic (k := 7) (x := (-1)) rfl (by decide) ?_
    refine w_ri (k := 8) rfl rfl rfl rfl ?_
    exact hq
  | some j =>
    obtain ⟨hj, rfl, a, hja⟩ := atk_lt ha
    have ho := h0 j hj
    rw [hja] at ho
    rw [ha] at hq
    simp only [hja] at hq
    obtain ⟨a1, a2, a3, a4, a5, a6, a7, ⟨p1, -⟩, ⟨c1, -⟩⟩ := ho
    unfold tel at hq
    refine w_b_ne (k := 6) (t' := 9) rfl rfl (fun zq => ?_) (fun zq => absurd (zq.symm.trans (show (some j).isSome = true from rfl)) (by decide))
    refine wp_iload (k := 9) rfl rfl ?_
    by_cases k0 : x = nI 0
    · rw [if_pos k0] at hq
      subst k0
      refine w_sw (k := 10) (t' := 11) rfl (by decide) ?_
      refine wp_aload (k := 11) rfl rfl ?_
      refine w_gr (k := 12) (s := 36) rfl rfl (by first | assumption | rfl) (by first | assumption | rfl) ?_
      refine wp_iload (k := 13) rfl rfl ?_
      refine w_iald (k := 14) rfl rfl (by first | assumption | rfl) (by omega) a2 ?_
      refine w_ri (k := 15) rfl rfl rfl rfl ?_
      exact hq
    · rw [if_neg k0] at hq
      by_cases k1 : x = nI 1
      · rw [if_pos k1] at hq
        subst k1
        refine w_sw (k := 10) (t' := 16) rfl (by decide) ?_
        refine wp_aload (k := 16) rfl rfl ?_
        refine w_gr (k := 17) (s := 37) rfl rfl (by first | assumption | rfl) (by first | assumption | rfl) ?_
        refine wp_iload (k := 18) rfl rfl ?_
        refine w_iald (k := 19) rfl rfl (by first | assumption | rfl) (by omega) a3 ?_
        refine w_ri (k := 20) rfl rfl rfl rfl ?_
        exact hq
      · rw [if_neg k1] at hq
        by_cases k2 : x = nI 2
        · rw [if_pos k2] at hq
          subst k2
          refine w_sw (k := 10) (t' := 21) rfl (by decide) ?_
          refine wp_aload (k := 21) rfl rfl ?_
          refine w_gr (k := 22) (s := 38) rfl rfl (by first | assumption | rfl) (by first | assumption | rfl) ?_
          refine wp_iload (k := 23) rfl rfl ?_
          refine w_iald (k := 24) rfl rfl (by first | assumption | rfl) (by omega) a4 ?_
          refine w_ri (k := 25) rfl rfl rfl rfl ?_
          exact hq
        · rw [if_neg k2] at hq
          by_cases k3 : x = nI 3
          · rw [if_pos k3] at hq
            subst k3
            refine w_sw (k := 10) (t' := 26) rfl (by decide) ?_
            refine wp_aload (k := 26) rfl rfl ?_
            refine w_gr (k := 27) (s := 39) rfl rfl (by first | assumption | rfl) (by first | assumption | rfl) ?_
            refine wp_iload (k := 28) rfl rfl ?_
            refine w_iald (k := 29) rfl rfl (by first | assumption | rfl) (by omega) a5 ?_
            refine w_ri (k := 30) rfl rfl rfl rfl ?_
            exact hq
          · rw [if_neg k3] at hq
            by_cases k4 : x = nI 4
            · rw [if_pos k4] at hq
              subst k4
              refine w_sw (k := 10) (t' := 31) rfl (by decide) ?_
              refine wp_aload (k := 31) rfl rfl ?_
              refine w_gr (k := 32) (s := 40) rfl rfl (by first | assumption | rfl) (by first | assumption | rfl) ?_
              refine wp_iload (k := 33) rfl rfl ?_
              refine w_lald (k := 34) rfl rfl (by first | assumption | rfl) (by omega) a6 ?_
              refine wp_aload (k := 35) rfl rfl ?_
              refine w_gl (k := 36) (s := 34) rfl rfl (by first | assumption | rfl) (by first | assumption | rfl) ?_
              refine wp_lsub (k := 37) rfl ?_
              refine wp_l2i (k := 38) rfl ?_
              refine w_ri (k := 39) rfl rfl rfl rfl ?_
              exact hq
            · rw [if_neg k4] at hq
              by_cases k5 : x = nI 5
              · rw [if_pos k5] at hq
                subst k5
                refine w_sw (k := 10) (t' := 40) rfl (by decide) ?_
                refine wp_aload (k := 40) rfl rfl ?_
                refine w_gr (k := 41) (s := 42) rfl rfl (by first | assumption | rfl) (by first | assumption | rfl) ?_
                refine wp_iload (k := 42) rfl rfl ?_
                refine w_iald (k := 43) rfl rfl (by first | assumption | rfl) (by omega) p1 ?_
                refine w_ri (k := 44) rfl rfl rfl rfl ?_
                exact hq
              · rw [if_neg k5] at hq
                by_cases k6 : x = nI 6
                · rw [if_pos k6] at hq
                  subst k6
                  refine w_sw (k := 10) (t' := 45) rfl (by decide) ?_
                  refine wp_aload (k := 45) rfl rfl ?_
                  refine w_gr (k := 46) (s := 45) rfl rfl (by first | assumption | rfl) (by first | assumption | rfl) ?_
                  refine wp_iload (k := 47) rfl rfl ?_
                  refine w_iald (k := 48) rfl rfl (by first | assumption | rfl) (by omega) c1 ?_
                  refine w_ri (k := 49) rfl rfl rfl rfl ?_
                  exact hq
                · rw [if_neg k6] at hq
                  have e : am_sw 50 x [(0, 11), (1, 16), (2, 21), (3, 26), (4, 31), (5, 40), (6, 45)] = 50 := am_sw_no (by
                    intro p hp
                    simp only [List.mem_cons, List.not_mem_nil, or_false] at hp
                    rcases hp with rfl | rfl | rfl | rfl | rfl | rfl | rfl
                    · exact k0
                    · exact k1
                    · exact k2
                    · exact k3
                    · exact k4
                    · exact k5
                    · exact k6)
                  refine w_sw (k := 10) (t' := 50) rfl (by show (am_sw 50 x [(0, 11), (1, 16), (2, 21), (3, 26), (4, 31), (5, 40), (6, 45)]).toNat = 50; rw [e]; rfl) ?_
                  refine w_ic (k := 50) (x := (-1)) rfl (by decide) ?_
                  refine w_ri (k := 51) rfl rfl rfl rfl ?_
                  exact hq
theorem c_262 (h : tbm I L al) (hok : tok al) {t : Int64} (ht : L 100 34 = t) {k ip : Int32} (hq : Q (some (.int (sp_pm al t k ip))) (am_SH N, am_u I 100 0 (nI 0), L, am_RR w)) : am_call (d + 3) 262 [.ref 100, .int k, .int ip] (am_SH N, I, L, am_RR w) Q := by
  have h0 : tbm (am_u I 100 0 (nI 0)) L al := tbm_k h (fun x _ _ => am_uR (by omega)) (fun _ _ _ => rfl)
  unfold sp_pm at hq
  refine am_enter (ls := [some _, some _, some _, none]) (cs := am_c262) rfl rfl (Nat.le_of_ble_eq_true rfl) rfl ?_
  refine wp_aload (k := 0) rfl rfl ?_
  refine w_ic (k := 1) (x := nI 0) rfl (oi_nI 0) ?_
  refine w_pi (k := 2) (s := 0) rfl rfl (by first | assumption | rfl) ?_
  refine wp_aload (k := 3) rfl rfl ?_
  refine wp_iload (k := 4) rfl rfl ?_
  refine w_Vi (k := 5) [_] rfl rfl rfl (Nat.le_of_ble_eq_true rfl) (by first | assumption | rfl) (Or.inl ⟨rfl, rfl⟩) ?_
  refine (c_260 h0 ?_)
  refine ⟨_, rfl, ?_⟩
  cases ha : atk al k with
  | none =>
    rw [ha] at hq
    refine w_b_ne (k := 6) (t' := 9) rfl rfl (fun zq => absurd (zq.symm.trans rfl) (by decide)) (fun zq => ?_)
    refine w_ic (k := 7) (x := nI 0) rfl (oi_nI 0) ?_
    refine w_ri (k := 8) rfl rfl rfl rfl ?_
    exact hq
  | some j =>
    obtain ⟨hj, rfl, a, hja⟩ := atk_lt ha
    have ho := h0 j hj
    rw [hja] at ho
    rw [ha] at hq
    simp only [hja] at hq
    obtain ⟨a1, a2, a3, a4, a5, a6, a7, a8, a9⟩ := ho
    have pu' := (hok.1 j a hj hja).1
    refine w_b_ne (k := 6) (t' := 9) rfl rfl (fun zq => ?_) (fun zq => absurd (zq.symm.trans (show (some j).isSome = true from rfl)) (by decide))
    refine wp_aload (k := 9) rfl rfl ?_
    refine wp_iload (k := 10) rfl rfl ?_
    refine wp_iload (k := 11) rfl rfl ?_
    refine w_Vi (k := 12) [_, _] rfl rfl rfl (Nat.le_of_ble_eq_true rfl) (by first | assumption | rfl) (Or.inl ⟨rfl, rfl⟩) ?_
    refine (c_210 hj a8 pu' ?_)
    refine ⟨_, rfl, ?_⟩
    cases hf : pf a.2.2.2.1 ip with
    | none =>
      rw [hf] at hq
      refine wp_istore (k := 13) rfl rfl ?_
      refine wp_iload (k := 14) rfl rfl ?_
      refine w_z_ge (k := 15) (t' := 18) rfl rfl (fun zq => absurd zq (by decide)) (fun zq => ?_)
      refine w_ic (k := 16) (x := nI 0) rfl (oi_nI 0) ?_
      refine w_goto (k := 17) (t' := 30) rfl rfl ?_
      refine w_ri (k := 30) rfl rfl rfl rfl ?_
      exact hq
    | some i =>
      rw [hf] at hq
      obtain ⟨i1, i2⟩ := pf_lt hf
      have hl := a8.2.1
      refine wp_istore (k := 13) rfl rfl ?_
      refine wp_iload (k := 14) rfl rfl ?_
      refine w_z_ge (k := 15) (t' := 18) rfl rfl (fun zq => ?_) (fun zq => absurd (nI_pos' (by omega)) zq)
      refine wp_aload (k := 18) rfl rfl ?_
      refine w_gr (k := 19) (s := 44) rfl rfl (by first | assumption | rfl) (by first | assumption | rfl) ?_
      refine w_ic (k := 20) (x := nI 16) rfl (oi_nI 16) ?_
      refine wp_iload (k := 21) rfl rfl ?_
      refine w_mulN (k := 22) rfl ?_
      refine wp_iload (k := 23) rfl rfl ?_
      refine w_addN (k := 24) rfl ?_
      refine w_lald (k := 25) rfl rfl (by first | assumption | rfl) (by omega) (a8.2.2 i i1).2 ?_
      refine wp_aload (k := 26) rfl rfl ?_
      refine w_gl (k := 27) (s := 34) rfl rfl (by first | assumption | rfl) (by first | assumption | rfl) ?_
      refine wp_lsub (k := 28) rfl ?_
      refine wp_l2i (k := 29) rfl ?_
      refine w_ri (k := 30) rfl rfl rfl rfl ?_
      exact hq
theorem c_263 (h : tbm I L al) (hok : tok al) {t : Int64} (ht : L 100 34 = t) {k n : Int32} (hq : Q (some (.int (sp_ch al t k n))) (am_SH N, am_u I 100 0 (nI 0), L, am_RR w)) : am_call (d + 3) 263 [.ref 100, .int k, .int n] (am_SH N, I, L, am_RR w) Q := by
  have h0 : tbm (am_u I 100 0 (nI 0)) L al := tbm_k h (fun x _ _ => am_uR (by omega)) (fun _ _ _ => rfl)
  unfold sp_ch at hq
  refine am_enter (ls := [some _, some _, some _, none]) (cs := am_c263) rfl rfl (Nat.le_of_ble_eq_true rfl) rfl ?_
  refine wp_aload (k := 0) rfl rfl ?_
  refine w_ic (k := 1) (x := nI 0) rfl (oi_nI 0) ?_
  refine w_pi (k := 2) (s := 0) rfl rfl (by first | assumption | rfl) ?_
  refine wp_aload (k := 3) rfl rfl ?_
  refine wp_iload (k := 4) rfl rfl ?_
  refine w_Vi (k := 5) [_] rfl rfl rfl (Nat.le_of_ble_eq_true rfl) (by first | assumption | rfl) (Or.inl ⟨rfl, rfl⟩) ?_
  refine (c_260 h0 ?_)
  refine ⟨_, rfl, ?_⟩
  cases ha : atk al k with
  | none =>
    rw [ha] at hq
    refine w_b_ne (k := 6) (t' := 9) rfl rfl (fun zq => absurd (zq.symm.trans rfl) (by decide)) (fun zq => ?_)
    refine w_ic (k := 7) (x := nI 0) rfl (oi_nI 0) ?_
    refine w_ri (k := 8) rfl rfl rfl rfl ?_
    exact hq
  | some j =>
    obtain ⟨hj, rfl, a, hja⟩ := atk_lt ha
    have ho := h0 j hj
    rw [hja] at ho
    rw [ha] at hq
    simp only [hja] at hq
    obtain ⟨a1, a2, a3, a4, a5, a6, a7, a8, a9⟩ := ho
    have cu' := (hok.1 j a hj hja).2.1
    refine w_b_ne (k := 6) (t' := 9) rfl rfl (fun zq => ?_) (fun zq => absurd (zq.symm.trans (show (some j).isSome = true from rfl)) (by decide))
    refine wp_aload (k := 9) rfl rfl ?_
    refine wp_iload (k := 10) rfl rfl ?_
    refine wp_iload (k := 11) rfl rfl ?_
    refine w_Vi (k := 12) [_, _] rfl rfl rfl (Nat.le_of_ble_eq_true rfl) (by first | assumption | rfl) (Or.inl ⟨rfl, rfl⟩) ?_
    refine (c_211 hj a9 cu' ?_)
    refine ⟨_, rfl, ?_⟩
    cases hf : cf a.2.2.2.2 n with
    | none =>
      rw [hf] at hq
      refine wp_istore (k := 13) rfl rfl ?_
      refine wp_iload (k := 14) rfl rfl ?_
      refine w_z_ge (k := 15) (t' := 18) rfl rfl (fun zq => absurd zq (by decide)) (fun zq => ?_)
      refine w_ic (k := 16) (x := nI 0) rfl (oi_nI 0) ?_
      refine w_goto (k := 17) (t' := 30) rfl rfl ?_
      refine w_ri (k := 30) rfl rfl rfl rfl ?_
      exact hq
    | some i =>
      rw [hf] at hq
      obtain ⟨i1, i2⟩ := cf_lt hf
      have hl := a9.2.1
      refine wp_istore (k := 13) rfl rfl ?_
      refine wp_iload (k := 14) rfl rfl ?_
      refine w_z_ge (k := 15) (t' := 18) rfl rfl (fun zq => ?_) (fun zq => absurd (nI_pos' (by omega)) zq)
      refine wp_aload (k := 18) rfl rfl ?_
      refine w_gr (k := 19) (s := 49) rfl rfl (by first | assumption | rfl) (by first | assumption | rfl) ?_
      refine w_ic (k := 20) (x := nI 8) rfl (oi_nI 8) ?_
      refine wp_iload (k := 21) rfl rfl ?_
      refine w_mulN (k := 22) rfl ?_
      refine wp_iload (k := 23) rfl rfl ?_
      refine w_addN (k := 24) rfl ?_
      refine w_lald (k := 25) rfl rfl (by first | assumption | rfl) (by omega) (a9.2.2 i i1).2.2.2 ?_
      refine wp_aload (k := 26) rfl rfl ?_
      refine w_gl (k := 27) (s := 34) rfl rfl (by first | assumption | rfl) (by first | assumption | rfl) ?_
      refine wp_lsub (k := 28) rfl ?_
      refine wp_l2i (k := 29) rfl ?_
      refine w_ri (k := 30) rfl rfl rfl rfl ?_
      exact hq
end MTL
