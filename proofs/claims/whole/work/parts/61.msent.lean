/-! ===== what was sent: the reference ===== -/
def mthM (t : Nat) : Int32 := (nI t &&& nI 15) ||| ((nI t >>> (nI 5 &&& 31) &&& nI 7) <<< (nI 4 &&& 31)) ||| ((nI t >>> (nI 9 &&& 31) &&& nI 31) <<< (nI 7 &&& 31))
def rnkM (t : Nat) : Int32 := (nI t >>> (nI 4 &&& 31) &&& nI 1) ||| ((nI t >>> (nI 8 &&& 31) &&& nI 1) <<< (nI 1 &&& 31))
theorem mth_eq (t : Nat) : mthM t = mth t := by
  unfold mthM mth
  apply b_ext
  intro i hi
  have hm : ∀ j, j < 32 → bt (nI 7) j = decide (j < 3) ∧ bt (nI 31) j = decide (j < 5) ∧ bt (nI 112) j = decide (4 ≤ j ∧ j < 7) ∧ bt (nI 3968) j = decide (7 ≤ j ∧ j < 12) := by decide
  rw [b_or, b_or, b_or, b_or, b_shl 4 (by decide) _ hi, b_shl 7 (by decide) _ hi, b_and (nI t >>> (nI 1 &&& 31)), b_and (nI t >>> (nI 2 &&& 31)), b_and _ (nI 7), b_and _ (nI 31), (hm i hi).2.2.1, (hm i hi).2.2.2, (hm (i - 4) (by omega)).1, (hm (i - 7) (by omega)).2.1, b_sshr 1 (by decide) _ hi, b_sshr 2 (by decide) _ hi, b_sshr 5 (by decide) _ (by omega), b_sshr 9 (by decide) _ (by omega)]
  congr 1
  · congr 1
    by_cases c : 4 ≤ i ∧ i < 7
    · rw [decide_eq_true c.1, decide_eq_true (show i - 4 < 3 by omega), decide_eq_true c, if_pos (by omega), if_pos (by omega), show 5 + (i - 4) = 1 + i by omega]
      simp
    · rw [decide_eq_false c]
      by_cases c2 : 4 ≤ i
      · rw [decide_eq_false (show ¬ i - 4 < 3 by omega)]; simp
      · rw [decide_eq_false c2]; simp
  · by_cases c : 7 ≤ i ∧ i < 12
    · rw [decide_eq_true c.1, decide_eq_true (show i - 7 < 5 by omega), decide_eq_true c, if_pos (by omega), if_pos (by omega), show 9 + (i - 7) = 2 + i by omega]
      simp
    · rw [decide_eq_false c]
      by_cases c2 : 7 ≤ i
      · rw [decide_eq_false (show ¬ i - 7 < 5 by omega)]; simp
      · rw [decide_eq_false c2]; simp
theorem rnk_eq (t : Nat) : rnkM t = rnk t := by
  unfold rnkM rnk
  apply b_ext
  intro i hi
  have hm : ∀ j, j < 32 → bt (nI 1) j = decide (j < 1) ∧ bt (nI 2) j = decide (j = 1) := by decide
  rw [b_or, b_or, b_shl 1 (by decide) _ hi, b_and (nI t >>> (nI 7 &&& 31)), b_and (nI t >>> (nI 8 &&& 31)), (hm i hi).2, (hm (i - 1) (by omega)).1, b_sshr 7 (by decide) _ hi, b_sshr 8 (by decide) _ (by omega)]
  congr 1
  by_cases c : i = 1
  · subst c
    simp
  · rw [decide_eq_false c]
    by_cases c2 : 1 ≤ i
    · rw [decide_eq_false (show ¬ i - 1 < 1 by omega)]; simp
    · rw [decide_eq_false c2]; simp
def po_m (I : Nat → Nat → Int32) (s : SN) : Prop := I 100 18 = bI s.1 ∧ I 100 19 = s.2.1 ∧ I 100 20 = s.2.2.1 ∧ I 100 21 = s.2.2.2.1 ∧ mS I s.2.2.2.2
def tl_m (I : Nat → Nat → Int32) (T : Nat → Int32) : Prop := ∀ j, j < 6 → I 100 (59 + j) = T j
def sn_ok (s : SN) : Prop := (s.1 = false → s.2.2.2.2 = []) ∧ s.2.2.2.2.length ≤ 436 ∧ (msg s.2.2.2.2 = true → (ats s.2.2.2.2).length ≤ 100)
theorem sn_msg {s : SN} (h : sn_ok s) : (s.1 && msg s.2.2.2.2) = msg s.2.2.2.2 := by
  cases hs : s.1 with
  | true => simp
  | false =>
    rw [h.1 hs]
    rfl
section MSN
variable {d N : Nat} {I : Nat → Nat → Int32} {L : Nat → Nat → Int64} {w : Option Nat} {Q : am_Q} {s : SN} {T : Nat → Int32}
theorem c_227 {t : Nat} (hq : Q (some (.int (mth t))) (am_SH N, I, L, am_RR w)) : am_call (d + 1) 227 [.int (nI t)] (am_SH N, I, L, am_RR w) Q := by
  rw [← mth_eq] at hq
  refine am_enter (ls := [some _]) (cs := am_c227) rfl rfl (Nat.le_of_ble_eq_true rfl) rfl ?_
  refine wp_iload (k := 0) rfl rfl ?_
  refine w_ic (k := 1) (x := nI 15) rfl (oi_nI 15) ?_
  refine wp_iand (k := 2) rfl ?_
  refine wp_iload (k := 3) rfl rfl ?_
  refine w_ic (k := 4) (x := nI 5) rfl (oi_nI 5) ?_
  refine wp_ishr (k := 5) rfl ?_
  refine w_ic (k := 6) (x := nI 7) rfl (oi_nI 7) ?_
  refine wp_iand (k := 7) rfl ?_
  refine w_ic (k := 8) (x := nI 4) rfl (oi_nI 4) ?_
  refine wp_ishl (k := 9) rfl ?_
  refine wp_ior (k := 10) rfl ?_
  refine wp_iload (k := 11) rfl rfl ?_
  refine w_ic (k := 12) (x := nI 9) rfl (oi_nI 9) ?_
  refine wp_ishr (k := 13) rfl ?_
  refine w_ic (k := 14) (x := nI 31) rfl (oi_nI 31) ?_
  refine wp_iand (k := 15) rfl ?_
  refine w_ic (k := 16) (x := nI 7) rfl (oi_nI 7) ?_
  refine wp_ishl (k := 17) rfl ?_
  refine wp_ior (k := 18) rfl ?_
  refine w_ri (k := 19) rfl rfl rfl rfl ?_
  exact hq
theorem c_228 {t : Nat} (hq : Q (some (.int (rnk t))) (am_SH N, I, L, am_RR w)) : am_call (d + 1) 228 [.int (nI t)] (am_SH N, I, L, am_RR w) Q := by
  rw [← rnk_eq] at hq
  refine am_enter (ls := [some _]) (cs := am_c228) rfl rfl (Nat.le_of_ble_eq_true rfl) rfl ?_
  refine wp_iload (k := 0) rfl rfl ?_
  refine w_ic (k := 1) (x := nI 4) rfl (oi_nI 4) ?_
  refine wp_ishr (k := 2) rfl ?_
  refine w_ic (k := 3) (x := nI 1) rfl (oi_nI 1) ?_
  refine wp_iand (k := 4) rfl ?_
  refine wp_iload (k := 5) rfl rfl ?_
  refine w_ic (k := 6) (x := nI 8) rfl (oi_nI 8) ?_
  refine wp_ishr (k := 7) rfl ?_
  refine w_ic (k := 8) (x := nI 1) rfl (oi_nI 1) ?_
  refine wp_iand (k := 9) rfl ?_
  refine w_ic (k := 10) (x := nI 1) rfl (oi_nI 1) ?_
  refine wp_ishl (k := 11) rfl ?_
  refine wp_ior (k := 12) rfl ?_
  refine w_ri (k := 13) rfl rfl rfl rfl ?_
  exact hq
theorem c_255 (h : po_m I s) (hok : sn_ok s) (hq : Q (some (.int (bI (msg s.2.2.2.2)))) (am_SH N, I, L, am_RR w)) : am_call (d + 3) 255 [.ref 100] (am_SH N, I, L, am_RR w) Q := by
  obtain ⟨h1, h2, h3, h4, ⟨g1, g2, g3⟩⟩ := h
  rw [← sn_msg hok] at hq
  have h436 := hok.2.1
  generalize hB : s.2.2.2.2 = B at *
  have no : ∀ ls, (s.1 && hdk B) = false → am_V 255 am_c255 (d + 2) (am_SH N) Q 28 ls [] (am_SH N, I, L, am_RR w) := by
    intro ls hn
    have hm : (s.1 && msg B) = false := by unfold msg; rw [← Bool.and_assoc, hn]; rfl
    rw [hm] at hq
    refine w_ic (k := 28) (x := bI false) rfl rfl ?_
    refine w_rz (k := 29) rfl rfl rfl ?_
    exact hq
  refine am_enter (ls := [some _, none]) (cs := am_c255) rfl rfl (Nat.le_of_ble_eq_true rfl) rfl ?_
  cases hs : s.1 with
  | false =>
    rw [hs] at h1
    refine wp_aload (k := 0) rfl rfl ?_
    refine w_gi (k := 1) (s := 18) rfl rfl (by first | assumption | rfl) h1 ?_
    refine w_b_eq (k := 2) (t' := 28) rfl rfl (fun zq => ?_) (fun zq => absurd (zq.symm.trans rfl) (by decide))
    exact no _ (by rw [hs]; rfl)
  | true =>
    rw [hs] at h1 no hq
    rw [Bool.true_and] at no hq
    refine wp_aload (k := 0) rfl rfl ?_
    refine w_gi (k := 1) (s := 18) rfl rfl (by first | assumption | rfl) h1 ?_
    refine w_b_eq (k := 2) (t' := 28) rfl rfl (fun zq => absurd (zq.symm.trans rfl) (by decide)) (fun zq => ?_)
    refine wp_aload (k := 3) rfl rfl ?_
    refine w_gi (k := 4) (s := 17) rfl rfl (by first | assumption | rfl) (by first | assumption | rfl) ?_
    refine w_ic (k := 5) (x := nI 20) rfl (oi_nI 20) ?_
    refine w_n_lt (k := 6) (t' := 28) rfl rfl (by omega) (fun c1 => ?_) (fun c1 => ?_)
    · exact no _ (decide_eq_false (fun z => absurd z.1 (by omega)))
    · have hg0 := gd_lt g2.2 0
      refine wp_aload (k := 7) rfl rfl ?_
      refine w_gr (k := 8) (s := 16) rfl rfl (by first | assumption | rfl) (by first | assumption | rfl) ?_
      refine w_ic (k := 9) (x := nI 0) rfl (oi_nI 0) ?_
      refine w_iald (k := 10) rfl rfl (by first | assumption | rfl) (by omega) (g2.1 0 (by omega)) ?_
      refine w_ic (k := 11) (x := nI 63) rfl (oi_nI 63) ?_
      refine w_n_gt (k := 12) (t' := 28) rfl rfl (by omega) (fun c2 => ?_) (fun c2 => ?_)
      · exact no _ (decide_eq_false (fun z => absurd z.2.1 (by omega)))
      · have hb22 := nb_lt g2.2 2 2
        have hb44 := nb_lt g2.2 4 4
        refine wp_aload (k := 13) rfl rfl ?_
        refine w_gr (k := 14) (s := 16) rfl rfl (by first | assumption | rfl) (by first | assumption | rfl) ?_
        refine w_ic (k := 15) (x := nI 4) rfl (oi_nI 4) ?_
        refine w_Si (k := 16) [_, _] rfl rfl rfl (Nat.le_of_ble_eq_true rfl) (Or.inl ⟨rfl, rfl⟩) ?_
        refine (c_180 (n := 500) rfl (by decide) g2 (by omega) g3 ?_)
        refine ⟨_, rfl, ?_⟩
        refine w_ic (k := 17) (x := nI 554869826) rfl (oi_nI 554869826) ?_
        refine w_c_ne (k := 18) (t' := 28) rfl rfl (fun c3 => ?_) (fun c3 => ?_)
        · exact no _ (decide_eq_false (fun z => c3 (by rw [z.2.2.2])))
        · have c3 : nb B 4 4 = 554869826 := by
            have := congrArg uI c3
            rw [uI_nI (by omega), uI_nI (by decide)] at this
            exact this
          refine wp_aload (k := 19) rfl rfl ?_
          refine w_gr (k := 20) (s := 16) rfl rfl (by first | assumption | rfl) (by first | assumption | rfl) ?_
          refine w_ic (k := 21) (x := nI 2) rfl (oi_nI 2) ?_
          refine w_Si (k := 22) [_, _] rfl rfl rfl (Nat.le_of_ble_eq_true rfl) (Or.inl ⟨rfl, rfl⟩) ?_
          refine (c_179 (n := 500) rfl (by decide) g2 (by omega) g3 ?_)
          refine ⟨_, rfl, ?_⟩
          refine wp_aload (k := 23) rfl rfl ?_
          refine w_gi (k := 24) (s := 17) rfl rfl (by first | assumption | rfl) (by first | assumption | rfl) ?_
          refine w_ic (k := 25) (x := nI 20) rfl (oi_nI 20) ?_
          refine w_subN (k := 26) rfl (by omega) ?_
          refine w_n_eq (k := 27) (t' := 30) rfl rfl (by omega) (fun c4 => ?_) (fun c4 => ?_)
          · have hk : hdk B = true := decide_eq_true ⟨c1, by omega, c4, c3⟩
            have hmsg : msg B = decide (pe B 104 20 = B.length) := by unfold msg; rw [hk]; rfl
            rw [hmsg] at hq
            have fin3 : ∀ q, q < 100000 → q = pe B 104 20 → am_V 255 am_c255 (d + 2) (am_SH N) Q 60 [some (.ref 100), some (.int (nI q))] [] (am_SH N, I, L, am_RR w) := by
              intro q hq9 e
              refine wp_iload (k := 60) rfl rfl ?_
              refine wp_aload (k := 61) rfl rfl ?_
              refine w_gi (k := 62) (s := 17) rfl rfl (by first | assumption | rfl) (by first | assumption | rfl) ?_
              refine w_n_ne (k := 63) (t' := 66) rfl rfl (by omega) (fun k => ?_) (fun k => ?_)
              · rw [decide_eq_false (by omega)] at hq
                refine w_ic (k := 66) (x := bI false) rfl rfl ?_
                refine w_rz (k := 67) rfl rfl rfl ?_
                exact hq
              · rw [decide_eq_true (by omega)] at hq
                refine w_ic (k := 64) (x := bI true) rfl rfl ?_
                refine w_goto (k := 65) (t' := 67) rfl rfl ?_
                refine w_rz (k := 67) rfl rfl rfl ?_
                exact hq
            have loop : ∀ (f q : Nat), q < 80000 → B.length ≤ q + 4 * f → pe B f q = pe B 104 20 → am_V 255 am_c255 (d + 2) (am_SH N) Q 32 [some (.ref 100), some (.int (nI q))] [] (am_SH N, I, L, am_RR w) := by
              intro f
              induction f with
              | zero =>
                intro q hq9 hq2 e2
                refine wp_iload (k := 32) rfl rfl ?_
                refine wp_aload (k := 33) rfl rfl ?_
                refine w_gi (k := 34) (s := 17) rfl rfl (by first | assumption | rfl) (by first | assumption | rfl) ?_
                refine w_n_ge (k := 35) (t' := 60) rfl rfl (by omega) (fun zq => ?_) (fun zq => absurd zq (by omega))
                exact fin3 q (by omega) e2
              | succ f ih =>
                intro q hq9 hq2 e2
                rw [show pe B (f + 1) q = if q + 4 ≤ B.length then pe B f (q + 4 + pad4 (nb B (q + 2) 2)) else q from rfl] at e2
                refine wp_iload (k := 32) rfl rfl ?_
                refine wp_aload (k := 33) rfl rfl ?_
                refine w_gi (k := 34) (s := 17) rfl rfl (by first | assumption | rfl) (by first | assumption | rfl) ?_
                refine w_n_ge (k := 35) (t' := 60) rfl rfl (by omega) (fun k1 => ?_) (fun k1 => ?_)
                · rw [if_neg (by omega)] at e2
                  exact fin3 q (by omega) e2
                · refine wp_iload (k := 36) rfl rfl ?_
                  refine w_ic (k := 37) (x := nI 4) rfl (oi_nI 4) ?_
                  refine w_addN (k := 38) rfl ?_
                  refine wp_aload (k := 39) rfl rfl ?_
                  refine w_gi (k := 40) (s := 17) rfl rfl (by first | assumption | rfl) (by first | assumption | rfl) ?_
                  refine w_n_gt (k := 41) (t' := 60) rfl rfl (by omega) (fun k2 => ?_) (fun k2 => ?_)
                  · rw [if_neg (by omega)] at e2
                    exact fin3 q (by omega) e2
                  · rw [if_pos k2] at e2
                    have hk2 := nb_lt g2.2 (q + 2) 2
                    have hpad := pad4_ge (nb B (q + 2) 2)
                    refine wp_iload (k := 42) rfl rfl ?_
                    refine w_ic (k := 43) (x := nI 4) rfl (oi_nI 4) ?_
                    refine wp_aload (k := 44) rfl rfl ?_
                    refine w_gr (k := 45) (s := 16) rfl rfl (by first | assumption | rfl) (by first | assumption | rfl) ?_
                    refine wp_iload (k := 46) rfl rfl ?_
                    refine w_ic (k := 47) (x := nI 2) rfl (oi_nI 2) ?_
                    refine w_addN (k := 48) rfl ?_
                    refine w_Si (k := 49) [_, _] rfl rfl rfl (Nat.le_of_ble_eq_true rfl) (Or.inl ⟨rfl, rfl⟩) ?_
                    refine (c_179 (n := 500) rfl (by decide) g2 (by omega) g3 ?_)
                    refine ⟨_, rfl, ?_⟩
                    generalize hss : nb B (q + 2) 2 = ss at *
                    refine w_ic (k := 50) (x := nI 3) rfl (oi_nI 3) ?_
                    refine w_addN (k := 51) rfl ?_
                    refine w_ic (k := 52) (x := nI 4) rfl (oi_nI 4) ?_
                    refine wp_idiv (k := 53) rfl (by decide) ?_
                    rw [pk_div (by omega) (by decide) (by decide)]
                    refine w_ic (k := 54) (x := nI 4) rfl (oi_nI 4) ?_
                    refine w_mulN (k := 55) rfl ?_
                    refine w_addN (k := 56) rfl ?_
                    refine w_addN (k := 57) rfl ?_
                    refine wp_istore (k := 58) rfl rfl ?_
                    refine w_goto (k := 59) (t' := 32) rfl rfl ?_
                    refine ih (q + (4 + pad4 ss)) (by omega) (by omega) ?_
                    rw [show q + (4 + pad4 ss) = q + 4 + pad4 ss by omega]
                    exact e2
            refine w_ic (k := 30) (x := nI 20) rfl (oi_nI 20) ?_
            refine wp_istore (k := 31) rfl rfl ?_
            exact loop 104 20 (by decide) (by omega) rfl
          · exact no _ (decide_eq_false (fun z => c4 z.2.2.1))
/-- the reference has the attributes of what was sent in its tables -/
def hs3 (I : Nat → Nat → Int32) : Nat → AT → Prop := fun i x => I 135 i = nI x.1 ∧ I 136 i = nI x.2.1 ∧ I 137 i = nI x.2.2
theorem c_256 (h : po_m I s) (hok : sn_ok s) (hq : ∀ I', (msg s.2.2.2.2 = true → ∀ i, i < (ats s.2.2.2.2).length → hs3 I' i ((ats s.2.2.2.2).getD i a0)) → fx [135, 136, 137] [] I I' → Q (some (.int (nI (if msg s.2.2.2.2 then (ats s.2.2.2.2).length else 0)))) (am_SH N, I', L, am_RR w)) : am_call (d + 4) 256 [.ref 100] (am_SH N, I, L, am_RR w) Q := by
  have h100 := hok.2.2
  have h436 := hok.2.1
  refine am_enter (ls := [some _, none, none]) (cs := am_c256) rfl rfl (Nat.le_of_ble_eq_true rfl) rfl ?_
  refine wp_aload (k := 0) rfl rfl ?_
  refine w_Vi (k := 1) [] rfl rfl rfl (Nat.le_of_ble_eq_true rfl) (by first | assumption | rfl) (Or.inl ⟨rfl, rfl⟩) ?_
  refine (c_255 h hok ?_)
  refine ⟨_, rfl, ?_⟩
  obtain ⟨h1, h2, h3, h4, ⟨g1, g2, g3⟩⟩ := h
  generalize hB : s.2.2.2.2 = B at *
  refine w_b_ne (k := 2) (t' := 5) rfl rfl (fun c => ?_) (fun c => ?_)
  · have h100 := h100 c
    rw [if_pos c] at hq
    have hpe := (msg_pe c).2
    have loop : ∀ (f q : Nat) (D : List AT) (I1 : Nat → Nat → Int32), D.length + f = 104 → q ≤ B.length → D ++ ps B f q = ats B → pe B f q = B.length → (∀ j, j < D.length → hs3 I1 j (D.getD j a0)) → fx [135, 136, 137] [] I I1 → am_V 256 am_c256 (d + 3) (am_SH N) Q 9 [some (.ref 100), some (.int (nI D.length)), some (.int (nI q))] [] (am_SH N, I1, L, am_RR w) := by
      intro f
      induction f with
      | zero =>
        intro q D I1 hD hq1 e1 e2 hd f1
        rw [show ps B 0 q = [] from rfl, List.append_nil] at e1
        have e2 : q = B.length := e2
        have s1 : I1 100 17 = nI B.length := by rw [f1.2 17 (by decide)]; exact g1
        refine wp_iload (k := 9) rfl rfl ?_
        refine wp_aload (k := 10) rfl rfl ?_
        refine w_gi (k := 11) (s := 17) rfl rfl (by first | assumption | rfl) (by first | assumption | rfl) ?_
        refine w_n_ge (k := 12) (t' := 55) rfl rfl (by omega) (fun zq => ?_) (fun zq => absurd zq (by omega))
        refine wp_iload (k := 55) rfl rfl ?_
        refine w_ri (k := 56) rfl rfl rfl rfl ?_
        subst e1
        exact hq I1 (fun _ => hd) f1
      | succ f ih =>
        intro q D I1 hD hq1 e1 e2 hd f1
        have s1 : I1 100 17 = nI B.length := by rw [f1.2 17 (by decide)]; exact g1
        rw [show ps B (f + 1) q = if q + 4 ≤ B.length then (nb B q 2, nb B (q + 2) 2, q + 4) :: ps B f (q + 4 + pad4 (nb B (q + 2) 2)) else [] from rfl] at e1
        rw [show pe B (f + 1) q = if q + 4 ≤ B.length then pe B f (q + 4 + pad4 (nb B (q + 2) 2)) else q from rfl] at e2
        by_cases k : q + 4 ≤ B.length
        · rw [if_pos k] at e1 e2
          have hDl : D.length < 100 := by
            have := congrArg List.length e1
            rw [List.length_append, List.length_cons] at this
            omega
          have a1 : av I1 113 B := av_keep g2 (f1.1 113 (by decide) (by decide))
          have hk1 := nb_lt a1.2 q 2
          have hk2 := nb_lt a1.2 (q + 2) 2
          have hpad := pad4_ge (nb B (q + 2) 2)
          have hge := pe_ge B f (q + 4 + pad4 (nb B (q + 2) 2))
          refine wp_iload (k := 9) rfl rfl ?_
          refine wp_aload (k := 10) rfl rfl ?_
          refine w_gi (k := 11) (s := 17) rfl rfl (by first | assumption | rfl) (by first | assumption | rfl) ?_
          refine w_n_ge (k := 12) (t' := 55) rfl rfl (by omega) (fun zq => absurd zq (by omega)) (fun zq => ?_)
          refine wp_aload (k := 13) rfl rfl ?_
          refine w_gr (k := 14) (s := 50) rfl rfl (by first | assumption | rfl) (by first | assumption | rfl) ?_
          refine wp_iload (k := 15) rfl rfl ?_
          refine wp_aload (k := 16) rfl rfl ?_
          refine w_gr (k := 17) (s := 16) rfl rfl (by first | assumption | rfl) (by first | assumption | rfl) ?_
          refine wp_iload (k := 18) rfl rfl ?_
          refine w_Si (k := 19) [_, _] rfl rfl rfl (Nat.le_of_ble_eq_true rfl) (Or.inl ⟨rfl, rfl⟩) ?_
          refine (c_179 (n := 500) rfl (by decide) a1 (by omega) g3 ?_)
          refine ⟨_, rfl, ?_⟩
          refine w_iast (k := 20) rfl rfl (by omega) (by first | assumption | rfl) (by omega) ?_
          refine wp_aload (k := 21) rfl rfl ?_
          refine w_gr (k := 22) (s := 51) rfl rfl (by first | assumption | rfl) (by first | assumption | rfl) ?_
          refine wp_iload (k := 23) rfl rfl ?_
          refine wp_aload (k := 24) rfl rfl ?_
          refine w_gr (k := 25) (s := 16) rfl rfl (by first | assumption | rfl) (by first | assumption | rfl) ?_
          refine wp_iload (k := 26) rfl rfl ?_
          refine w_ic (k := 27) (x := nI 2) rfl (oi_nI 2) ?_
          refine w_addN (k := 28) rfl ?_
          refine w_Si (k := 29) [_, _] rfl rfl rfl (Nat.le_of_ble_eq_true rfl) (Or.inl ⟨rfl, rfl⟩) ?_
          refine (c_179 (n := 500) rfl (by decide) (av_keep a1 (am_uR (by decide))) (by omega) g3 ?_)
          refine ⟨_, rfl, ?_⟩
          generalize hss : nb B (q + 2) 2 = ss at *
          generalize hkk : nb B q 2 = kk at *
          refine w_iast (k := 30) rfl rfl (by omega) (by first | assumption | rfl) (by omega) ?_
          refine wp_aload (k := 31) rfl rfl ?_
          refine w_gr (k := 32) (s := 52) rfl rfl (by first | assumption | rfl) (by first | assumption | rfl) ?_
          refine wp_iload (k := 33) rfl rfl ?_
          refine wp_iload (k := 34) rfl rfl ?_
          refine w_ic (k := 35) (x := nI 4) rfl (oi_nI 4) ?_
          refine w_addN (k := 36) rfl ?_
          refine w_iast (k := 37) rfl rfl (by omega) (by first | assumption | rfl) (by omega) ?_
          refine wp_iload (k := 38) rfl rfl ?_
          refine w_ic (k := 39) (x := nI 4) rfl (oi_nI 4) ?_
          refine wp_aload (k := 40) rfl rfl ?_
          refine w_gr (k := 41) (s := 51) rfl rfl (by first | assumption | rfl) (by first | assumption | rfl) ?_
          refine wp_iload (k := 42) rfl rfl ?_
          refine w_iald (k := 43) rfl rfl (by first | assumption | rfl) (by omega) (am_uv (by decide) am_us) ?_
          refine w_ic (k := 44) (x := nI 3) rfl (oi_nI 3) ?_
          refine w_addN (k := 45) rfl ?_
          refine w_ic (k := 46) (x := nI 4) rfl (oi_nI 4) ?_
          refine wp_idiv (k := 47) rfl (by decide) ?_
          rw [pk_div (by omega) (by decide) (by decide)]
          refine w_ic (k := 48) (x := nI 4) rfl (oi_nI 4) ?_
          refine w_mulN (k := 49) rfl ?_
          refine w_addN (k := 50) rfl ?_
          refine w_addN (k := 51) rfl ?_
          refine wp_istore (k := 52) rfl rfl ?_
          refine w_incN (k := 53) (m := 1) rfl (oi_nI 1) rfl ?_
          refine w_goto (k := 54) (t' := 9) rfl rfl ?_
          have hl : D.length + 1 = (D ++ [(kk, ss, q + 4)]).length := by simp
          rw [hl, show q + (4 + (ss + 3) / 4 * 4) = q + 4 + pad4 ss by unfold pad4; omega]
          refine ih _ (D ++ [(kk, ss, q + 4)]) _ (by simp; omega) (by omega) (by rw [← e1]; simp) e2 (fun j hj => ?_) (fx_t f1 (fx_t (fx_t (fx_p (by decide) (by decide)) (fx_p (by decide) (by decide))) (fx_p (by decide) (by decide))))
          have hj : j < D.length + 1 := by simpa using hj
          rw [gD_app hj]
          unfold hs3
          by_cases e : j = D.length
          · rw [if_pos e]
            subst e
            simp [am_u_app]
          · rw [if_neg e]
            have := hd j (by omega)
            unfold hs3 at this
            simp [am_u_app, e]
            exact this
        · rw [if_neg k, List.append_nil] at e1
          rw [if_neg k] at e2
          refine wp_iload (k := 9) rfl rfl ?_
          refine wp_aload (k := 10) rfl rfl ?_
          refine w_gi (k := 11) (s := 17) rfl rfl (by first | assumption | rfl) (by first | assumption | rfl) ?_
          refine w_n_ge (k := 12) (t' := 55) rfl rfl (by omega) (fun zq => ?_) (fun zq => absurd zq (by omega))
          refine wp_iload (k := 55) rfl rfl ?_
          refine w_ri (k := 56) rfl rfl rfl rfl ?_
          subst e1
          exact hq I1 (fun _ => hd) f1
    have hh := msg_20 c
    refine w_ic (k := 5) (x := nI 0) rfl (oi_nI 0) ?_
    refine wp_istore (k := 6) rfl rfl ?_
    refine w_ic (k := 7) (x := nI 20) rfl (oi_nI 20) ?_
    refine wp_istore (k := 8) rfl rfl ?_
    exact loop 104 20 [] I rfl (by omega) rfl hpe (fun j hj => absurd hj (Nat.not_lt_zero j)) fx_rf
  · rw [if_neg (by rw [c]; decide)] at hq
    refine w_ic (k := 3) (x := nI 0) rfl (oi_nI 0) ?_
    refine w_ri (k := 4) rfl rfl rfl rfl ?_
    exact hq I (fun z => by rw [c] at z; cases z) fx_rf
theorem po_m0 {v : Int32} (h : po_m I s) : po_m (am_u I 100 0 v) s := by
  obtain ⟨h1, h2, h3, h4, h5⟩ := h
  exact ⟨am_uw (by decide) h1, am_uw (by decide) h2, am_uw (by decide) h3, am_uw (by decide) h4, mS_k h5 (fx_s (P := []) (S := [0]) (by decide)) (by decide) (by decide)⟩
theorem c_258 (h : po_m I s) (hok : sn_ok s) {i : Int32} (hq : Q (some (.int (byA s.2.2.2.2 i))) (am_SH N, am_u I 100 0 (nI 0), L, am_RR w)) : am_call (d + 1) 258 [.ref 100, .int i] (am_SH N, I, L, am_RR w) Q := by
  obtain ⟨h1, h2, h3, h4, ⟨g1, g2, g3⟩⟩ := po_m0 (v := nI 0) h
  generalize hI0 : am_u I 100 0 (nI 0) = I0 at *
  refine am_enter (ls := [some _, some _]) (cs := am_c258) rfl rfl (Nat.le_of_ble_eq_true rfl) rfl ?_
  refine wp_aload (k := 0) rfl rfl ?_
  refine w_ic (k := 1) (x := nI 0) rfl (oi_nI 0) ?_
  refine w_pi (k := 2) (s := 0) rfl rfl (by first | assumption | rfl) ?_
  rw [hI0]
  cases hs : s.1 with
  | false =>
    rw [hs] at h1
    rw [hok.1 hs] at hq
    refine wp_aload (k := 3) rfl rfl ?_
    refine w_gi (k := 4) (s := 18) rfl rfl (by first | assumption | rfl) h1 ?_
    refine w_b_eq (k := 5) (t' := 17) rfl rfl (fun zq => ?_) (fun zq => absurd (zq.symm.trans rfl) (by decide))
    refine w_ic (k := 17) (x := (-1)) rfl (by decide) ?_
    refine w_ri (k := 18) rfl rfl rfl rfl ?_
    unfold byA at hq
    by_cases c : i < 0
    · rw [if_pos (Or.inl c)] at hq; exact hq
    · rw [if_pos (Or.inr (show nI ([] : List Nat).length ≤ i from Int32.not_lt.mp c))] at hq; exact hq
  | true =>
    rw [hs] at h1
    refine wp_aload (k := 3) rfl rfl ?_
    refine w_gi (k := 4) (s := 18) rfl rfl (by first | assumption | rfl) h1 ?_
    refine w_b_eq (k := 5) (t' := 17) rfl rfl (fun zq => absurd (zq.symm.trans rfl) (by decide)) (fun zq => ?_)
    refine wp_iload (k := 6) rfl rfl ?_
    refine w_z_lt (k := 7) (t' := 17) rfl rfl (fun c1 => ?_) (fun c1 => ?_)
    · refine w_ic (k := 17) (x := (-1)) rfl (by decide) ?_
      refine w_ri (k := 18) rfl rfl rfl rfl ?_
      unfold byA at hq
      rw [if_pos (Or.inl c1)] at hq
      exact hq
    · refine wp_iload (k := 8) rfl rfl ?_
      refine wp_aload (k := 9) rfl rfl ?_
      refine w_gi (k := 10) (s := 17) rfl rfl (by first | assumption | rfl) (by first | assumption | rfl) ?_
      refine w_c_ge (k := 11) (t' := 17) rfl rfl (fun c2 => ?_) (fun c2 => ?_)
      · refine w_ic (k := 17) (x := (-1)) rfl (by decide) ?_
        refine w_ri (k := 18) rfl rfl rfl rfl ?_
        unfold byA at hq
        rw [if_pos (Or.inr c2)] at hq
        exact hq
      · obtain ⟨j, hj, rfl⟩ := nI_of c1
        have hj2 : j < s.2.2.2.2.length := by
          rcases Nat.lt_or_ge j s.2.2.2.2.length with q | q
          · exact q
          · exact absurd (nI_le q hj) c2
        rw [byA_n hj2 (by omega)] at hq
        refine wp_aload (k := 12) rfl rfl ?_
        refine w_gr (k := 13) (s := 16) rfl rfl (by first | assumption | rfl) (by first | assumption | rfl) ?_
        refine wp_iload (k := 14) rfl rfl ?_
        refine w_iald (k := 15) rfl rfl (by first | assumption | rfl) (by omega) (g2.1 j hj2) ?_
        refine w_goto (k := 16) (t' := 18) rfl rfl ?_
        refine w_ri (k := 18) rfl rfl rfl rfl ?_
        exact hq
theorem c_257 (h : po_m I s) (hok : sn_ok s) {x : Int32} (hq : ∀ I', fx [135, 136, 137] [0] I I' → Q (some (.int (sp_st s x))) (am_SH N, I', L, am_RR w)) : am_call (d + 5) 257 [.ref 100, .int x] (am_SH N, I, L, am_RR w) Q := by
  have h0 := po_m0 (v := nI 0) h
  have f0 : fx [135, 136, 137] [0] I (am_u I 100 0 (nI 0)) := fx_s (by decide)
  obtain ⟨h1, h2, h3, h4, ⟨g1, g2, g3⟩⟩ := id h0
  unfold sp_st at hq
  generalize hI0 : am_u I 100 0 (nI 0) = I0 at *
  refine am_enter (ls := [some _, some _]) (cs := am_c257) rfl rfl (Nat.le_of_ble_eq_true rfl) rfl ?_
  refine wp_aload (k := 0) rfl rfl ?_
  refine w_ic (k := 1) (x := nI 0) rfl (oi_nI 0) ?_
  refine w_pi (k := 2) (s := 0) rfl rfl (by first | assumption | rfl) ?_
  rw [hI0]
  refine wp_iload (k := 3) rfl rfl ?_
  refine wp_i2l (k := 4) rfl ?_
  refine w_lc (k := 5) (x := lN 0) rfl (ol_lN 0) ?_
  refine w_lc (k := 6) (x := lN 6) rfl (ol_lN 6) ?_
  refine w_Si (k := 7) [_, _, _] rfl rfl rfl (Nat.le_of_ble_eq_true rfl) (Or.inl ⟨rfl, rfl⟩) ?_
  refine (c_166 ?_)
  refine ⟨_, rfl, ?_⟩
  rw [show decide (lN 0 ≤ x.toInt64 ∧ x.toInt64 ≤ lN 6) = decide (¬ x < 0 ∧ ¬ nI 6 < x) from decide_eq_decide.mpr (in_kd x (by decide) (by decide))]
  refine w_b_ne (k := 8) (t' := 11) rfl rfl (fun c => ?_) (fun c => ?_)
  · have c := of_decide_eq_true c
    rw [if_neg (fun z => z.elim c.1 c.2)] at hq
    cases hs : s.1 with
    | false =>
      rw [hs] at h1
      rw [if_pos hs] at hq
      refine wp_aload (k := 11) rfl rfl ?_
      refine w_gi (k := 12) (s := 18) rfl rfl (by first | assumption | rfl) h1 ?_
      refine w_b_ne (k := 13) (t' := 16) rfl rfl (fun zq => absurd (zq.symm.trans rfl) (by decide)) (fun zq => ?_)
      refine w_ic (k := 14) (x := nI 0) rfl (oi_nI 0) ?_
      refine w_ri (k := 15) rfl rfl rfl rfl ?_
      exact hq I0 f0
    | true =>
      rw [hs] at h1
      rw [if_neg (by rw [hs]; decide)] at hq
      refine wp_aload (k := 11) rfl rfl ?_
      refine w_gi (k := 12) (s := 18) rfl rfl (by first | assumption | rfl) h1 ?_
      refine w_b_ne (k := 13) (t' := 16) rfl rfl (fun zq => ?_) (fun zq => absurd (zq.symm.trans rfl) (by decide))
      refine wp_iload (k := 16) rfl rfl ?_
      by_cases k0 : x = nI 0
      · rw [if_pos k0] at hq
        subst k0
        refine w_sw (k := 17) (t' := 18) rfl (by decide) ?_
        refine wp_aload (k := 18) rfl rfl ?_
        refine w_gi (k := 19) (s := 17) rfl rfl (by first | assumption | rfl) g1 ?_
        refine w_ri (k := 20) rfl rfl rfl rfl ?_
        exact hq I0 f0
      · rw [if_neg k0] at hq
        by_cases k1 : x = nI 1
        · rw [if_pos k1] at hq
          subst k1
          refine w_sw (k := 17) (t' := 21) rfl (by decide) ?_
          refine wp_aload (k := 21) rfl rfl ?_
          refine w_gi (k := 22) (s := 19) rfl rfl (by first | assumption | rfl) h2 ?_
          refine w_ri (k := 23) rfl rfl rfl rfl ?_
          exact hq I0 f0
        · rw [if_neg k1] at hq
          by_cases k2 : x = nI 2
          · rw [if_pos k2] at hq
            subst k2
            refine w_sw (k := 17) (t' := 24) rfl (by decide) ?_
            refine wp_aload (k := 24) rfl rfl ?_
            refine w_gi (k := 25) (s := 20) rfl rfl (by first | assumption | rfl) h3 ?_
            refine w_ri (k := 26) rfl rfl rfl rfl ?_
            exact hq I0 f0
          · rw [if_neg k2] at hq
            by_cases k3 : x = nI 3
            · rw [if_pos k3] at hq
              subst k3
              refine w_sw (k := 17) (t' := 27) rfl (by decide) ?_
              refine wp_aload (k := 27) rfl rfl ?_
              refine w_gi (k := 28) (s := 21) rfl rfl (by first | assumption | rfl) h4 ?_
              refine w_ri (k := 29) rfl rfl rfl rfl ?_
              exact hq I0 f0
            · rw [if_neg k3] at hq
              by_cases k4 : x = nI 4
              · rw [if_pos k4] at hq
                subst k4
                refine w_sw (k := 17) (t' := 30) rfl (by decide) ?_
                refine wp_aload (k := 30) rfl rfl ?_
                refine w_Vi (k := 31) [] rfl rfl rfl (Nat.le_of_ble_eq_true rfl) (by first | assumption | rfl) (Or.inl ⟨rfl, rfl⟩) ?_
                refine (c_255 h0 hok ?_)
                refine ⟨_, rfl, ?_⟩
                refine w_b_eq (k := 32) (t' := 39) rfl rfl (fun c5 => ?_) (fun c5 => ?_)
                · rw [if_neg (by rw [c5]; decide)] at hq
                  refine w_ic (k := 39) (x := (-1)) rfl (by decide) ?_
                  refine w_ri (k := 40) rfl rfl rfl rfl ?_
                  exact hq I0 f0
                · rw [if_pos c5] at hq
                  have h20 := msg_20 c5
                  refine wp_aload (k := 33) rfl rfl ?_
                  refine w_gr (k := 34) (s := 16) rfl rfl (by first | assumption | rfl) (by first | assumption | rfl) ?_
                  refine w_ic (k := 35) (x := nI 0) rfl (oi_nI 0) ?_
                  refine w_Si (k := 36) [_, _] rfl rfl rfl (Nat.le_of_ble_eq_true rfl) (Or.inl ⟨rfl, rfl⟩) ?_
                  refine (c_179 (n := 500) rfl (by decide) g2 (by omega) g3 ?_)
                  refine ⟨_, rfl, ?_⟩
                  refine w_Si (k := 37) [_] rfl rfl rfl (Nat.le_of_ble_eq_true rfl) (Or.inl ⟨rfl, rfl⟩) ?_
                  refine (c_227 ?_)
                  refine ⟨_, rfl, ?_⟩
                  refine w_goto (k := 38) (t' := 40) rfl rfl ?_
                  refine w_ri (k := 40) rfl rfl rfl rfl ?_
                  exact hq I0 f0
              · rw [if_neg k4] at hq
                by_cases k5 : x = nI 5
                · rw [if_pos k5] at hq
                  subst k5
                  refine w_sw (k := 17) (t' := 41) rfl (by decide) ?_
                  refine wp_aload (k := 41) rfl rfl ?_
                  refine w_Vi (k := 42) [] rfl rfl rfl (Nat.le_of_ble_eq_true rfl) (by first | assumption | rfl) (Or.inl ⟨rfl, rfl⟩) ?_
                  refine (c_255 h0 hok ?_)
                  refine ⟨_, rfl, ?_⟩
                  refine w_b_eq (k := 43) (t' := 50) rfl rfl (fun c5 => ?_) (fun c5 => ?_)
                  · rw [if_neg (by rw [c5]; decide)] at hq
                    refine w_ic (k := 50) (x := (-1)) rfl (by decide) ?_
                    refine w_ri (k := 51) rfl rfl rfl rfl ?_
                    exact hq I0 f0
                  · rw [if_pos c5] at hq
                    have h20 := msg_20 c5
                    refine wp_aload (k := 44) rfl rfl ?_
                    refine w_gr (k := 45) (s := 16) rfl rfl (by first | assumption | rfl) (by first | assumption | rfl) ?_
                    refine w_ic (k := 46) (x := nI 0) rfl (oi_nI 0) ?_
                    refine w_Si (k := 47) [_, _] rfl rfl rfl (Nat.le_of_ble_eq_true rfl) (Or.inl ⟨rfl, rfl⟩) ?_
                    refine (c_179 (n := 500) rfl (by decide) g2 (by omega) g3 ?_)
                    refine ⟨_, rfl, ?_⟩
                    refine w_Si (k := 48) [_] rfl rfl rfl (Nat.le_of_ble_eq_true rfl) (Or.inl ⟨rfl, rfl⟩) ?_
                    refine (c_228 ?_)
                    refine ⟨_, rfl, ?_⟩
                    refine w_goto (k := 49) (t' := 51) rfl rfl ?_
                    refine w_ri (k := 51) rfl rfl rfl rfl ?_
                    exact hq I0 f0
                · rw [if_neg k5] at hq
                  have e : am_sw 52 x [(0, 18), (1, 21), (2, 24), (3, 27), (4, 30), (5, 41)] = 52 := am_sw_no (by
                    intro p hp
                    simp only [List.mem_cons, List.not_mem_nil, or_false] at hp
                    rcases hp with rfl | rfl | rfl | rfl | rfl | rfl
                    · exact k0
                    · exact k1
                    · exact k2
                    · exact k3
                    · exact k4
                    · exact k5)
                  refine w_sw (k := 17) (t' := 52) rfl (by show (am_sw 52 x [(0, 18), (1, 21), (2, 24), (3, 27), (4, 30), (5, 41)]).toNat = 52; rw [e]; rfl) ?_
                  refine wp_aload (k := 52) rfl rfl ?_
                  refine w_Vi (k := 53) [] rfl rfl rfl (Nat.le_of_ble_eq_true rfl) (by first | assumption | rfl) (Or.inl ⟨rfl, rfl⟩) ?_
                  refine (c_256 h0 hok (fun I1 _ f1 => ⟨_, rfl, ?_⟩))
                  refine w_ri (k := 54) rfl rfl rfl rfl ?_
                  exact hq I1 (fx_t f0 (fx_mo f1 (by decide) (by decide)))
  · have c := of_decide_eq_false c
    have hx : x < 0 ∨ nI 6 < x := Classical.not_not.mp (fun q => c ⟨fun a => q (Or.inl a), fun a => q (Or.inr a)⟩)
    rw [if_pos hx] at hq
    refine w_ic (k := 9) (x := (-1)) rfl (by decide) ?_
    refine w_ri (k := 10) rfl rfl rfl rfl ?_
    exact hq I0 f0
end MSN
