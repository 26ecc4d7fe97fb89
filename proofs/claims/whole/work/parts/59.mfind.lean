/-! ===== the reference finds attributes ===== -/
theorem pe_ge (B : List Nat) : ∀ f p, p ≤ pe B f p
  | 0, _ => Nat.le_refl _
  | f + 1, p => by
    rw [pe]
    by_cases c : p + 4 ≤ B.length
    · rw [if_pos c]
      have := pe_ge B f (p + 4 + pad4 (nb B (p + 2) 2))
      omega
    · rw [if_neg c]; exact Nat.le_refl _
theorem ps_fit {B : List Nat} : ∀ f p (a : AT), a ∈ ps B f p → a.2.2 + pad4 a.2.1 ≤ pe B f p
  | 0, _, _, h => by simp [ps] at h
  | f + 1, p, a, h => by
    rw [ps] at h
    rw [pe]
    by_cases c : p + 4 ≤ B.length
    · rw [if_pos c] at h ⊢
      rcases List.mem_cons.mp h with e | e
      · subst e
        have := pe_ge B f (p + 4 + pad4 (nb B (p + 2) 2))
        simp only
        omega
      · exact ps_fit f _ a e
    · rw [if_neg c] at h
      cases h
theorem ats_fit {B : List Nat} (hm : msg B = true) {i : Nat} (hi : i < (ats B).length) : ((ats B).getD i a0).2.2 + ((ats B).getD i a0).2.1 ≤ B.length := by
  have h1 : ((ats B).getD i a0).2.2 + pad4 ((ats B).getD i a0).2.1 ≤ pe B 104 20 := ps_fit 104 20 _ (gD_mem (d := a0) hi)
  rw [(msg_pe hm).2] at h1
  have := pad4_ge ((ats B).getD i a0).2.1
  omega
theorem ats_100 {B : List Nat} (hB : B.length ≤ 400) (hm : msg B = true) : (ats B).length ≤ 95 := by
  have hst : ∀ f p, 4 * (ps B f p).length + p ≤ pe B f p := by
    intro f
    induction f with
    | zero => intro p; simp [ps, pe]
    | succ f ih =>
      intro p
      rw [ps, pe]
      by_cases c : p + 4 ≤ B.length
      · rw [if_pos c, if_pos c, List.length_cons]
        have := ih (p + 4 + pad4 (nb B (p + 2) 2))
        omega
      · rw [if_neg c, if_neg c]; simp
  have := hst 104 20
  rw [(msg_pe hm).2] at this
  unfold ats
  omega
section MF
variable {d N : Nat} {I : Nat → Nat → Int32} {L : Nat → Nat → Int64} {w : Option Nat} {Q : am_Q} {B : List Nat}
theorem cnD_ats (B : List Nat) : cnD B (ats B) = cng B := rfl
theorem c_216 (hB : mT I B) (hm : msg B = true) (h : mD I B (ats B)) {i : Nat} (hi : i < cng B) (h18 : ((ats B).getD i a0).1 = 18) (hq : Q (some (.int (bI (snd_ B ((ats B).getD i a0))))) (am_SH N, I, L, am_RR w)) : am_call (d + 1) 216 [.ref 100, .int (nI i)] (am_SH N, I, L, am_RR w) Q := by
  obtain ⟨g1, g2, g3⟩ := hB
  obtain ⟨-, -, -, -, har⟩ := h
  have hc := cng_le B
  have hal := ats_len B
  obtain ⟨v1, v2, v3⟩ := har i hi
  obtain ⟨b1, b2, b3, b4⟩ := ats_at g2.2 (show i < (ats B).length by omega)
  have hfit := ats_fit hm (show i < (ats B).length by omega)
  have hi100 : i < 100 := by have := ats_100 g3 hm; omega
  generalize (ats B).getD i a0 = kk at *
  have e : snd_ B kk = decide (kk.2.1 = 8 ∧ byA B (nI (kk.2.2 + 1)) = nI 1) := by
    unfold snd_ sndf
    rw [h18, if_neg (by decide), if_neg (by decide), if_pos (by decide)]
  rw [e] at hq
  refine am_enter (ls := [some _, some _]) (cs := am_c216) rfl rfl (Nat.le_of_ble_eq_true rfl) rfl ?_
  refine wp_aload (k := 0) rfl rfl ?_
  refine w_gr (k := 1) (s := 51) rfl rfl (by first | assumption | rfl) (by first | assumption | rfl) ?_
  refine wp_iload (k := 2) rfl rfl ?_
  refine w_iald (k := 3) rfl rfl (by first | assumption | rfl) (by omega) v2 ?_
  refine w_ic (k := 4) (x := nI 8) rfl (oi_nI 8) ?_
  refine w_n_ne (k := 5) (t' := 19) rfl rfl (by omega) (fun c1 => ?_) (fun c1 => ?_)
  · rw [decide_eq_false (fun z => c1 z.1)] at hq
    refine w_ic (k := 19) (x := bI false) rfl rfl ?_
    refine w_rz (k := 20) rfl rfl rfl ?_
    exact hq
  · rw [byA_n (by omega) (by omega)] at hq
    have hg := gd_lt g2.2 (kk.2.2 + 1)
    refine wp_aload (k := 6) rfl rfl ?_
    refine w_gr (k := 7) (s := 14) rfl rfl (by first | assumption | rfl) (by first | assumption | rfl) ?_
    refine wp_aload (k := 8) rfl rfl ?_
    refine w_gr (k := 9) (s := 52) rfl rfl (by first | assumption | rfl) (by first | assumption | rfl) ?_
    refine wp_iload (k := 10) rfl rfl ?_
    refine w_iald (k := 11) rfl rfl (by first | assumption | rfl) (by omega) v3 ?_
    refine w_ic (k := 12) (x := nI 1) rfl (oi_nI 1) ?_
    refine w_addN (k := 13) rfl ?_
    refine w_iald (k := 14) rfl rfl (by first | assumption | rfl) (by omega) (g2.1 (kk.2.2 + 1) (by omega)) ?_
    refine w_ic (k := 15) (x := nI 1) rfl (oi_nI 1) ?_
    refine w_n_ne (k := 16) (t' := 19) rfl rfl (by omega) (fun c2 => ?_) (fun c2 => ?_)
    · rw [decide_eq_false (fun z => c2 ((nI_eq (by omega) (by decide)).mp z.2))] at hq
      refine w_ic (k := 19) (x := bI false) rfl rfl ?_
      refine w_rz (k := 20) rfl rfl rfl ?_
      exact hq
    · rw [decide_eq_true ⟨c1, by rw [c2]⟩] at hq
      refine w_ic (k := 17) (x := bI true) rfl rfl ?_
      refine w_goto (k := 18) (t' := 20) rfl rfl ?_
      refine w_rz (k := 20) rfl rfl rfl ?_
      exact hq
/-- the kinds that the reference looks for -/
def kfs (k : Nat) : Prop := k = 6 ∨ k = 20 ∨ k = 12 ∨ k = 13 ∨ k = 25 ∨ k = 18 ∨ k = 21 ∨ k = 19
theorem c_217 (hB : mT I B) (hm : msg B = true) (h : mD I B (ats B)) {i : Nat} (hi : i < cng B) (hk : kfs ((ats B).getD i a0).1) (hq : Q (some (.int (bI (snd_ B ((ats B).getD i a0))))) (am_SH N, I, L, am_RR w)) : am_call (d + 2) 217 [.ref 100, .int (nI i)] (am_SH N, I, L, am_RR w) Q := by
  obtain ⟨g1, g2, g3⟩ := id hB
  obtain ⟨-, -, -, -, har⟩ := id h
  have hc := cng_le B
  have hal := ats_100 g3 hm
  obtain ⟨v1, v2, v3⟩ := har i hi
  obtain ⟨b1, b2, b3, b4⟩ := ats_at g2.2 (show i < (ats B).length by omega)
  have c216 : ((ats B).getD i a0).1 = 18 → ∀ (Q' : am_Q), Q' (some (.int (bI (snd_ B ((ats B).getD i a0))))) (am_SH N, I, L, am_RR w) → am_call (d + 1) 216 [.ref 100, .int (nI i)] (am_SH N, I, L, am_RR w) Q' := fun h18 Q' hq' => c_216 hB hm h hi h18 hq'
  generalize (ats B).getD i a0 = kk at *
  obtain ⟨k1, s1, t1⟩ := kk
  simp only at *
  have w1 : (k1 = 6 ∨ k1 = 20) → am_V 217 am_c217 (d + 1) (am_SH N) Q 12 [some (.ref 100), some (.int (nI i)), some (.int (nI k1)), some (.int (nI s1))] [] (am_SH N, I, L, am_RR w) := by
    intro hk6
    have e : snd_ B (k1, s1, t1) = decide (1 ≤ s1 ∧ s1 ≤ 8) := by
      show sndf k1 s1 _ = _
      unfold sndf
      rw [if_pos hk6]
    rw [e] at hq
    refine wp_iload (k := 12) rfl rfl ?_
    refine wp_i2l (k := 13) rfl ?_
    refine w_lc (k := 14) (x := lN 1) rfl (ol_lN 1) ?_
    refine w_lc (k := 15) (x := lN 8) rfl (ol_lN 8) ?_
    refine w_Si (k := 16) [_, _, _] rfl rfl rfl (Nat.le_of_ble_eq_true rfl) (Or.inl ⟨rfl, rfl⟩) ?_
    refine (c_166 ?_)
    refine ⟨_, rfl, ?_⟩
    rw [nI_l (by omega), show decide (lN 1 ≤ lN s1 ∧ lN s1 ≤ lN 8) = decide (1 ≤ s1 ∧ s1 ≤ 8) from decide_eq_decide.mpr (by rw [pk_lLE (by omega) (by omega), pk_lLE (by omega) (by omega)])]
    refine w_rz (k := 17) rfl rfl rfl ?_
    exact hq
  have w2 : (k1 = 12 ∨ k1 = 13 ∨ k1 = 25) → am_V 217 am_c217 (d + 1) (am_SH N) Q 18 [some (.ref 100), some (.int (nI i)), some (.int (nI k1)), some (.int (nI s1))] [] (am_SH N, I, L, am_RR w) := by
    intro hk6
    have e : snd_ B (k1, s1, t1) = decide (s1 = 4) := by
      show sndf k1 s1 _ = _
      unfold sndf
      rw [if_neg (by omega), if_neg (by omega), if_neg (by omega), if_pos (by omega)]
    rw [e] at hq
    refine wp_iload (k := 18) rfl rfl ?_
    refine w_ic (k := 19) (x := nI 4) rfl (oi_nI 4) ?_
    refine w_n_ne (k := 20) (t' := 23) rfl rfl (by omega) (fun c => ?_) (fun c => ?_)
    · rw [decide_eq_false c] at hq
      refine w_ic (k := 23) (x := bI false) rfl rfl ?_
      refine w_rz (k := 24) rfl rfl rfl ?_
      exact hq
    · rw [decide_eq_true c] at hq
      refine w_ic (k := 21) (x := bI true) rfl rfl ?_
      refine w_goto (k := 22) (t' := 24) rfl rfl ?_
      refine w_rz (k := 24) rfl rfl rfl ?_
      exact hq
  refine am_enter (ls := [some _, some _, none, none]) (cs := am_c217) rfl rfl (Nat.le_of_ble_eq_true rfl) rfl ?_
  refine wp_aload (k := 0) rfl rfl ?_
  refine w_gr (k := 1) (s := 50) rfl rfl (by first | assumption | rfl) (by first | assumption | rfl) ?_
  refine wp_iload (k := 2) rfl rfl ?_
  refine w_iald (k := 3) rfl rfl (by first | assumption | rfl) (by omega) v1 ?_
  refine wp_istore (k := 4) rfl rfl ?_
  refine wp_aload (k := 5) rfl rfl ?_
  refine w_gr (k := 6) (s := 51) rfl rfl (by first | assumption | rfl) (by first | assumption | rfl) ?_
  refine wp_iload (k := 7) rfl rfl ?_
  refine w_iald (k := 8) rfl rfl (by first | assumption | rfl) (by omega) v2 ?_
  refine wp_istore (k := 9) rfl rfl ?_
  refine wp_iload (k := 10) rfl rfl ?_
  have hk' := hk
  rcases hk with rfl | rfl | rfl | rfl | rfl | rfl | rfl | rfl
  · refine w_sw (k := 11) (t' := 12) rfl (by decide) ?_
    exact w1 (by omega)
  · refine w_sw (k := 11) (t' := 12) rfl (by decide) ?_
    exact w1 (by omega)
  · refine w_sw (k := 11) (t' := 18) rfl (by decide) ?_
    exact w2 (by omega)
  · refine w_sw (k := 11) (t' := 18) rfl (by decide) ?_
    exact w2 (by omega)
  · refine w_sw (k := 11) (t' := 18) rfl (by decide) ?_
    exact w2 (by omega)
  · refine w_sw (k := 11) (t' := 25) rfl (by decide) ?_
    refine wp_aload (k := 25) rfl rfl ?_
    refine wp_iload (k := 26) rfl rfl ?_
    refine w_Vi (k := 27) [_] rfl rfl rfl (Nat.le_of_ble_eq_true rfl) (by first | assumption | rfl) (Or.inl ⟨rfl, rfl⟩) ?_
    refine (c216 rfl _ ?_)
    refine ⟨_, rfl, ?_⟩
    refine w_rz (k := 28) rfl rfl rfl ?_
    exact hq
  · have e : snd_ B (21, s1, t1) = decide (s1 = 8) := rfl
    rw [e] at hq
    refine w_sw (k := 11) (t' := 29) rfl (by decide) ?_
    refine wp_iload (k := 29) rfl rfl ?_
    refine w_ic (k := 30) (x := nI 8) rfl (oi_nI 8) ?_
    refine w_n_ne (k := 31) (t' := 34) rfl rfl (by omega) (fun c => ?_) (fun c => ?_)
    · rw [decide_eq_false c] at hq
      refine w_ic (k := 34) (x := bI false) rfl rfl ?_
      refine w_rz (k := 35) rfl rfl rfl ?_
      exact hq
    · rw [decide_eq_true c] at hq
      refine w_ic (k := 32) (x := bI true) rfl rfl ?_
      refine w_goto (k := 33) (t' := 35) rfl rfl ?_
      refine w_rz (k := 35) rfl rfl rfl ?_
      exact hq
  · have e : snd_ B (19, s1, t1) = true := rfl
    rw [e] at hq
    refine w_sw (k := 11) (t' := 36) rfl (by decide) ?_
    refine w_ic (k := 36) (x := bI true) rfl rfl ?_
    refine w_rz (k := 37) rfl rfl rfl ?_
    exact hq
theorem c_218 (hB : mT I B) (hm : msg B = true) (h : mD I B (ats B)) {k : Nat} (hk : kfs k) (hq : Q (some (.int (oI (fnd B k)))) (am_SH N, I, L, am_RR w)) : am_call (d + 3) 218 [.ref 100, .int (nI k)] (am_SH N, I, L, am_RR w) Q := by
  obtain ⟨g1, g2, g3⟩ := id hB
  obtain ⟨h53, -, -, -, har⟩ := id h
  have hc := cng_le B
  have hal := ats_100 g3 hm
  have hk9 : k < 65536 := by unfold kfs at hk; omega
  have h53 : I 100 53 = nI (cng B) := h53
  have loop : ∀ (r i : Nat), i + r = cng B → fnd B k = ff (fun i => decide (((ats B).getD i a0).1 = k) && snd_ B ((ats B).getD i a0)) i r → am_V 218 am_c218 (d + 2) (am_SH N) Q 2 [some (.ref 100), some (.int (nI k)), some (.int (nI i))] [] (am_SH N, I, L, am_RR w) := by
    intro r
    induction r with
    | zero =>
      intro i hi e
      refine wp_iload (k := 2) rfl rfl ?_
      refine wp_aload (k := 3) rfl rfl ?_
      refine w_gi (k := 4) (s := 53) rfl rfl (by first | assumption | rfl) h53 ?_
      refine w_n_ge (k := 5) (t' := 20) rfl rfl (by omega) (fun zq => ?_) (fun zq => absurd zq (by omega))
      refine w_ic (k := 20) (x := (-1)) rfl (by decide) ?_
      refine w_ri (k := 21) rfl rfl rfl rfl ?_
      rw [e] at hq
      exact hq
    | succ r ih =>
      intro i hi e
      obtain ⟨v1, v2, v3⟩ := har i (show i < cng B by omega)
      have hb := (ats_at g2.2 (show i < (ats B).length by omega)).1
      rw [ff] at e
      refine wp_iload (k := 2) rfl rfl ?_
      refine wp_aload (k := 3) rfl rfl ?_
      refine w_gi (k := 4) (s := 53) rfl rfl (by first | assumption | rfl) h53 ?_
      refine w_n_ge (k := 5) (t' := 20) rfl rfl (by omega) (fun zq => absurd zq (by omega)) (fun zq => ?_)
      refine wp_aload (k := 6) rfl rfl ?_
      refine w_gr (k := 7) (s := 50) rfl rfl (by first | assumption | rfl) (by first | assumption | rfl) ?_
      refine wp_iload (k := 8) rfl rfl ?_
      refine w_iald (k := 9) rfl rfl (by first | assumption | rfl) (by omega) v1 ?_
      refine wp_iload (k := 10) rfl rfl ?_
      refine w_n_ne (k := 11) (t' := 18) rfl rfl (by omega) (fun c => ?_) (fun c => ?_)
      · rw [if_neg (by rw [decide_eq_false c]; simp)] at e
        refine w_incN (k := 18) (m := 1) rfl (oi_nI 1) rfl ?_
        refine w_goto (k := 19) (t' := 2) rfl rfl ?_
        exact ih (i + 1) (by omega) e
      · refine wp_aload (k := 12) rfl rfl ?_
        refine wp_iload (k := 13) rfl rfl ?_
        refine w_Vi (k := 14) [_] rfl rfl rfl (Nat.le_of_ble_eq_true rfl) (by first | assumption | rfl) (Or.inl ⟨rfl, rfl⟩) ?_
        refine (c_217 hB hm h (by omega) (by rw [c]; exact hk) ?_)
        refine ⟨_, rfl, ?_⟩
        refine w_b_eq (k := 15) (t' := 18) rfl rfl (fun c2 => ?_) (fun c2 => ?_)
        · rw [if_neg (by rw [c2]; simp)] at e
          refine w_incN (k := 18) (m := 1) rfl (oi_nI 1) rfl ?_
          refine w_goto (k := 19) (t' := 2) rfl rfl ?_
          exact ih (i + 1) (by omega) e
        · rw [if_pos (by rw [c2, decide_eq_true c]; rfl)] at e
          refine wp_iload (k := 16) rfl rfl ?_
          refine w_ri (k := 17) rfl rfl rfl rfl ?_
          rw [e] at hq
          exact hq
  refine am_enter (ls := [some _, some _, none]) (cs := am_c218) rfl rfl (Nat.le_of_ble_eq_true rfl) rfl ?_
  refine w_ic (k := 0) (x := nI 0) rfl (oi_nI 0) ?_
  refine wp_istore (k := 1) rfl rfl ?_
  exact loop _ 0 (Nat.zero_add _) rfl
theorem c_219 {k : Nat} (hk : k < 65536) (hq : Q (some (.int (bI (knw k)))) (am_SH N, I, L, am_RR w)) : am_call (d + 1) 219 [.int (nI k)] (am_SH N, I, L, am_RR w) Q := by
  have yes : ∀ ls, knw k = true → am_V 219 am_c219 d (am_SH N) Q 39 ls [] (am_SH N, I, L, am_RR w) := by
    intro ls h
    rw [h] at hq
    refine w_ic (k := 39) (x := bI true) rfl rfl ?_
    refine w_goto (k := 40) (t' := 42) rfl rfl ?_
    refine w_rz (k := 42) rfl rfl rfl ?_
    exact hq
  refine am_enter (ls := [some _]) (cs := am_c219) rfl rfl (Nat.le_of_ble_eq_true rfl) rfl ?_
  refine wp_iload (k := 0) rfl rfl ?_
  refine w_ic (k := 1) (x := nI 6) rfl (oi_nI 6) ?_
  refine w_n_eq (k := 2) (t' := 39) rfl rfl (by omega) (fun c1 => ?_) (fun c1 => ?_)
  · exact yes _ (decide_eq_true (by omega))
  · refine wp_iload (k := 3) rfl rfl ?_
    refine w_ic (k := 4) (x := nI 9) rfl (oi_nI 9) ?_
    refine w_n_eq (k := 5) (t' := 39) rfl rfl (by omega) (fun c2 => ?_) (fun c2 => ?_)
    · exact yes _ (decide_eq_true (by omega))
    · refine wp_iload (k := 6) rfl rfl ?_
      refine w_ic (k := 7) (x := nI 10) rfl (oi_nI 10) ?_
      refine w_n_eq (k := 8) (t' := 39) rfl rfl (by omega) (fun c3 => ?_) (fun c3 => ?_)
      · exact yes _ (decide_eq_true (by omega))
      · refine wp_iload (k := 9) rfl rfl ?_
        refine w_ic (k := 10) (x := nI 12) rfl (oi_nI 12) ?_
        refine w_n_eq (k := 11) (t' := 39) rfl rfl (by omega) (fun c4 => ?_) (fun c4 => ?_)
        · exact yes _ (decide_eq_true (by omega))
        · refine wp_iload (k := 12) rfl rfl ?_
          refine w_ic (k := 13) (x := nI 13) rfl (oi_nI 13) ?_
          refine w_n_eq (k := 14) (t' := 39) rfl rfl (by omega) (fun c5 => ?_) (fun c5 => ?_)
          · exact yes _ (decide_eq_true (by omega))
          · refine wp_iload (k := 15) rfl rfl ?_
            refine w_ic (k := 16) (x := nI 18) rfl (oi_nI 18) ?_
            refine w_n_eq (k := 17) (t' := 39) rfl rfl (by omega) (fun c6 => ?_) (fun c6 => ?_)
            · exact yes _ (decide_eq_true (by omega))
            · refine wp_iload (k := 18) rfl rfl ?_
              refine w_ic (k := 19) (x := nI 19) rfl (oi_nI 19) ?_
              refine w_n_eq (k := 20) (t' := 39) rfl rfl (by omega) (fun c7 => ?_) (fun c7 => ?_)
              · exact yes _ (decide_eq_true (by omega))
              · refine wp_iload (k := 21) rfl rfl ?_
                refine w_ic (k := 22) (x := nI 20) rfl (oi_nI 20) ?_
                refine w_n_eq (k := 23) (t' := 39) rfl rfl (by omega) (fun c8 => ?_) (fun c8 => ?_)
                · exact yes _ (decide_eq_true (by omega))
                · refine wp_iload (k := 24) rfl rfl ?_
                  refine w_ic (k := 25) (x := nI 21) rfl (oi_nI 21) ?_
                  refine w_n_eq (k := 26) (t' := 39) rfl rfl (by omega) (fun c9 => ?_) (fun c9 => ?_)
                  · exact yes _ (decide_eq_true (by omega))
                  · refine wp_iload (k := 27) rfl rfl ?_
                    refine w_ic (k := 28) (x := nI 22) rfl (oi_nI 22) ?_
                    refine w_n_eq (k := 29) (t' := 39) rfl rfl (by omega) (fun c10 => ?_) (fun c10 => ?_)
                    · exact yes _ (decide_eq_true (by omega))
                    · refine wp_iload (k := 30) rfl rfl ?_
                      refine w_ic (k := 31) (x := nI 25) rfl (oi_nI 25) ?_
                      refine w_n_eq (k := 32) (t' := 39) rfl rfl (by omega) (fun c11 => ?_) (fun c11 => ?_)
                      · exact yes _ (decide_eq_true (by omega))
                      · refine wp_iload (k := 33) rfl rfl ?_
                        refine w_ic (k := 34) (x := nI 28) rfl (oi_nI 28) ?_
                        refine w_n_eq (k := 35) (t' := 39) rfl rfl (by omega) (fun c12 => ?_) (fun c12 => ?_)
                        · exact yes _ (decide_eq_true (by omega))
                        · refine wp_iload (k := 36) rfl rfl ?_
                          refine w_ic (k := 37) (x := nI 32) rfl (oi_nI 32) ?_
                          refine w_n_ne (k := 38) (t' := 41) rfl rfl (by omega) (fun c13 => ?_) (fun c13 => ?_)
                          · have : knw k = false := decide_eq_false (by omega)
                            rw [this] at hq
                            refine w_ic (k := 41) (x := bI false) rfl rfl ?_
                            refine w_rz (k := 42) rfl rfl rfl ?_
                            exact hq
                          · exact yes _ (decide_eq_true (by omega))
/-- the reference's strange kinds -/
def mst (I : Nat → Nat → Int32) (X : List Nat) : Prop := I 100 58 = nI X.length ∧ ∀ i, i < X.length → I 138 i = nI (X.getD i 0)
theorem c_220 (hB : mT I B) (hm : msg B = true) (h : mD I B (ats B)) (hq : ∀ I', mst I' (strg (cts B)) → fx [138] [58] I I' → Q none (am_SH N, I', L, am_RR w)) : am_call (d + 2) 220 [.ref 100] (am_SH N, I, L, am_RR w) Q := by
  obtain ⟨g1, g2, g3⟩ := id hB
  obtain ⟨h53, -, -, -, har⟩ := id h
  have hc := cng_le B
  have hal := ats_100 g3 hm
  have h53 : I 100 53 = nI (cng B) := h53
  have hct : ∀ i, i ≤ cng B → (cts B).take i = (ats B).take i := fun i hi => by unfold cts; rw [List.take_take, Nat.min_eq_left hi]
  have hlen : (cts B).length = cng B := by unfold cts; simp; omega
  have loop : ∀ (r i : Nat) (I1 : Nat → Nat → Int32) (o2 o3 o4 : Option Value), i + r = cng B → mst I1 (strg ((cts B).take i)) → fx [138] [58] I I1 → am_V 220 am_c220 (d + 1) (am_SH N) Q 5 [some (.ref 100), some (.int (nI i)), o2, o3, o4] [] (am_SH N, I1, L, am_RR w) := by
    intro r
    induction r with
    | zero =>
      intro i I1 o2 o3 o4 hi x1 f1
      rw [List.take_of_length_le (by omega)] at x1
      refine wp_iload (k := 5) rfl rfl ?_
      refine wp_aload (k := 6) rfl rfl ?_
      refine w_gi (k := 7) (s := 53) rfl rfl (by first | assumption | rfl) (show I1 100 53 = nI (cng B) by rw [f1.2 53 (by decide)]; exact h53) ?_
      refine w_n_ge (k := 8) (t' := 64) rfl rfl (by omega) (fun zq => ?_) (fun zq => absurd zq (by omega))
      refine w_rv (k := 64) rfl rfl rfl rfl ?_
      exact hq I1 x1 f1
    | succ r ih =>
      intro i I1 o2 o3 o4 hi x1 f1
      have s8 := strg_len ((cts B).take i)
      have hi2 : i < (ats B).length := by omega
      have hb := (ats_at g2.2 hi2).1
      obtain ⟨v1, -, -⟩ := har i (show i < cng B by omega)
      have v1 : I1 135 i = nI ((ats B).getD i a0).1 := by rw [f1.1 135 (by decide) (by decide)]; exact v1
      have hsn : (cts B).take (i + 1) = (cts B).take i ++ [(ats B).getD i a0] := by
        rw [hct _ (by omega), hct _ (by omega), take_snoc a0 hi2]
      have hst : strg ((cts B).take (i + 1)) = stp (strg ((cts B).take i)) ((ats B).getD i a0).1 := by rw [hsn, strg_snoc]
      have hZb := strg_b ((cts B).take i)
      generalize hZ : strg ((cts B).take i) = Z at *
      generalize hkk : ((ats B).getD i a0).1 = kk at *
      obtain ⟨x58, xar⟩ := id x1
      -- the end of a turn
      have fin2 : ∀ (b : Bool) (o4 : Option Value), b = (isStr kk && decide (kk ∉ Z) && decide (Z.length < 8)) → am_V 220 am_c220 (d + 1) (am_SH N) Q 48 [some (.ref 100), some (.int (nI i)), some (.int (nI kk)), some (.int (bI b)), o4] [] (am_SH N, I1, L, am_RR w) := by
        intro b o4 hb2
        refine wp_iload (k := 48) rfl rfl ?_
        refine w_b_eq (k := 49) (t' := 62) rfl rfl (fun c => ?_) (fun c => ?_)
        · have e : stp Z kk = Z := by unfold stp; rw [if_neg (by rw [← hb2, c]; decide)]
          rw [e] at hst
          refine w_incN (k := 62) (m := 1) rfl (oi_nI 1) rfl ?_
          refine w_goto (k := 63) (t' := 5) rfl rfl ?_
          exact ih (i + 1) I1 _ _ _ (by omega) (by rw [hst]; exact x1) f1
        · have e : stp Z kk = Z ++ [kk] := by unfold stp; rw [if_pos (by rw [← hb2, c])]
          rw [e] at hst
          rw [c] at hb2
          have h8 : Z.length < 8 := by
            have := hb2.symm
            simp only [Bool.and_eq_true, decide_eq_true_eq] at this
            exact this.2
          refine wp_aload (k := 50) rfl rfl ?_
          refine w_gr (k := 51) (s := 57) rfl rfl (by first | assumption | rfl) (by first | assumption | rfl) ?_
          refine wp_aload (k := 52) rfl rfl ?_
          refine w_gi (k := 53) (s := 58) rfl rfl (by first | assumption | rfl) (by first | assumption | rfl) ?_
          refine wp_iload (k := 54) rfl rfl ?_
          refine w_iast (k := 55) rfl rfl (by omega) (by first | assumption | rfl) (by omega) ?_
          refine wp_aload (k := 56) rfl rfl ?_
          refine wp_dup (k := 57) rfl rfl ?_
          refine w_gi (k := 58) (s := 58) rfl rfl (by first | assumption | rfl) (am_uv (by decide) x58) ?_
          refine w_ic (k := 59) (x := nI 1) rfl (oi_nI 1) ?_
          refine w_addN (k := 60) rfl ?_
          refine w_pi (k := 61) (s := 58) rfl rfl (by first | assumption | rfl) ?_
          refine w_incN (k := 62) (m := 1) rfl (oi_nI 1) rfl ?_
          refine w_goto (k := 63) (t' := 5) rfl rfl ?_
          refine ih (i + 1) _ _ _ _ (by omega) ?_ (fx_t f1 (fx_t (fx_p (by decide) (by decide)) (fx_s (by decide))))
          rw [hst]
          refine ⟨by rw [am_us]; simp, fun j hj => ?_⟩
          have hj : j < Z.length + 1 := by simpa using hj
          rw [gD_app hj, am_uR (by decide), am_u_app]
          by_cases z : j = Z.length
          · rw [if_pos ⟨rfl, z⟩, if_pos z]
          · rw [if_neg (fun y => z y.2), if_neg z]
            exact xar j (by omega)
      -- is it among those found
      have inn : ∀ (r j : Nat) (b : Bool), j + r = Z.length → (b && decide (kk ∉ Z.drop j)) = (isStr kk && decide (kk ∉ Z) && decide (Z.length < 8)) → am_V 220 am_c220 (d + 1) (am_SH N) Q 30 [some (.ref 100), some (.int (nI i)), some (.int (nI kk)), some (.int (bI b)), some (.int (nI j))] [] (am_SH N, I1, L, am_RR w) := by
        intro r
        induction r with
        | zero =>
          intro j b hj hbb
          rw [List.drop_of_length_le (by omega)] at hbb
          refine wp_iload (k := 30) rfl rfl ?_
          refine wp_aload (k := 31) rfl rfl ?_
          refine w_gi (k := 32) (s := 58) rfl rfl (by first | assumption | rfl) (by first | assumption | rfl) ?_
          refine w_n_ge (k := 33) (t' := 48) rfl rfl (by omega) (fun zq => ?_) (fun zq => absurd zq (by omega))
          exact fin2 b _ (by rw [← hbb]; simp)
        | succ r ihj =>
          intro j b hj hbb
          rw [gD_drop 0 (by omega)] at hbb
          refine wp_iload (k := 30) rfl rfl ?_
          refine wp_aload (k := 31) rfl rfl ?_
          refine w_gi (k := 32) (s := 58) rfl rfl (by first | assumption | rfl) (by first | assumption | rfl) ?_
          refine w_n_ge (k := 33) (t' := 48) rfl rfl (by omega) (fun zq => absurd zq (by omega)) (fun zq => ?_)
          refine wp_iload (k := 34) rfl rfl ?_
          refine w_b_eq (k := 35) (t' := 48) rfl rfl (fun c => ?_) (fun c => ?_)
          · exact fin2 b _ (by rw [← hbb, c]; rfl)
          · have hzj := (hZb _ (gD_mem (d := 0) (show j < Z.length by omega))).1
            refine wp_aload (k := 36) rfl rfl ?_
            refine w_gr (k := 37) (s := 57) rfl rfl (by first | assumption | rfl) (by first | assumption | rfl) ?_
            refine wp_iload (k := 38) rfl rfl ?_
            refine w_iald (k := 39) rfl rfl (by first | assumption | rfl) (by omega) (xar j (by omega)) ?_
            refine wp_iload (k := 40) rfl rfl ?_
            refine w_n_eq (k := 41) (t' := 44) rfl rfl (by omega) (fun c2 => ?_) (fun c2 => ?_)
            · refine w_ic (k := 44) (x := bI false) rfl rfl ?_
              refine wp_istore (k := 45) rfl rfl ?_
              refine w_incN (k := 46) (m := 1) rfl (oi_nI 1) rfl ?_
              refine w_goto (k := 47) (t' := 30) rfl rfl ?_
              exact ihj (j + 1) false (by omega) (by rw [← hbb, c2]; simp)
            · refine w_ic (k := 42) (x := bI true) rfl rfl ?_
              refine w_goto (k := 43) (t' := 45) rfl rfl ?_
              refine wp_istore (k := 45) rfl rfl ?_
              refine w_incN (k := 46) (m := 1) rfl (oi_nI 1) rfl ?_
              refine w_goto (k := 47) (t' := 30) rfl rfl ?_
              refine ihj (j + 1) true (by omega) ?_
              rw [← hbb, c]
              congr 1
              refine decide_eq_decide.mpr ?_
              rw [List.mem_cons]
              constructor
              · intro z y
                rcases y with y | y
                · exact c2 y.symm
                · exact z y
              · intro z y; exact z (Or.inr y)
      have start : ∀ b : Bool, b = (isStr kk && decide (Z.length < 8)) → am_V 220 am_c220 (d + 1) (am_SH N) Q 27 [some (.ref 100), some (.int (nI i)), some (.int (nI kk)), o3, o4] [.int (bI b)] (am_SH N, I1, L, am_RR w) := by
        intro b hb2
        refine wp_istore (k := 27) (ls2 := [some _, some _, some _, some _, _]) rfl rfl ?_
        refine w_ic (k := 28) (x := nI 0) rfl (oi_nI 0) ?_
        refine wp_istore (k := 29) (ls2 := [some _, some _, some _, some _, some _]) rfl rfl ?_
        refine inn Z.length 0 b (by omega) ?_
        rw [hb2, List.drop_zero, Bool.and_assoc, Bool.and_assoc, Bool.and_comm (decide (Z.length < 8))]
      refine wp_iload (k := 5) rfl rfl ?_
      refine wp_aload (k := 6) rfl rfl ?_
      refine w_gi (k := 7) (s := 53) rfl rfl (by first | assumption | rfl) (show I1 100 53 = nI (cng B) by rw [f1.2 53 (by decide)]; exact h53) ?_
      refine w_n_ge (k := 8) (t' := 64) rfl rfl (by omega) (fun zq => absurd zq (by omega)) (fun zq => ?_)
      refine wp_aload (k := 9) rfl rfl ?_
      refine w_gr (k := 10) (s := 50) rfl rfl (by first | assumption | rfl) (by first | assumption | rfl) ?_
      refine wp_iload (k := 11) rfl rfl ?_
      refine w_iald (k := 12) rfl rfl (by first | assumption | rfl) (by omega) v1 ?_
      refine wp_istore (k := 13) (ls2 := [some _, some _, some _, _, _]) rfl rfl ?_
      refine wp_iload (k := 14) rfl rfl ?_
      refine w_ic (k := 15) (x := nI 32768) rfl (oi_nI 32768) ?_
      refine w_n_ge (k := 16) (t' := 26) rfl rfl (by omega) (fun c => ?_) (fun c => ?_)
      · refine w_ic (k := 26) (x := bI false) rfl rfl ?_
        exact start false (by unfold isStr; rw [decide_eq_false (by omega)]; simp)
      · refine wp_iload (k := 17) rfl rfl ?_
        refine w_Si (k := 18) [_] rfl rfl rfl (Nat.le_of_ble_eq_true rfl) (Or.inl ⟨rfl, rfl⟩) ?_
        refine (c_219 hb ?_)
        refine ⟨_, rfl, ?_⟩
        refine w_b_ne (k := 19) (t' := 26) rfl rfl (fun c2 => ?_) (fun c2 => ?_)
        · refine w_ic (k := 26) (x := bI false) rfl rfl ?_
          exact start false (by unfold isStr; rw [c2]; simp)
        · refine wp_aload (k := 20) rfl rfl ?_
          refine w_gi (k := 21) (s := 58) rfl rfl (by first | assumption | rfl) (by first | assumption | rfl) ?_
          refine w_ic (k := 22) (x := nI 8) rfl (oi_nI 8) ?_
          refine w_n_ge (k := 23) (t' := 26) rfl rfl (by omega) (fun c3 => ?_) (fun c3 => ?_)
          · refine w_ic (k := 26) (x := bI false) rfl rfl ?_
            exact start false (by rw [decide_eq_false (show ¬ Z.length < 8 by omega)]; simp)
          · refine w_ic (k := 24) (x := bI true) rfl rfl ?_
            refine w_goto (k := 25) (t' := 27) rfl rfl ?_
            exact start true (by unfold isStr; rw [c2, decide_eq_true c, decide_eq_true c3]; rfl)
  refine am_enter (ls := [some _, none, none, none, none]) (cs := am_c220) rfl rfl (Nat.le_of_ble_eq_true rfl) rfl ?_
  refine wp_aload (k := 0) rfl rfl ?_
  refine w_ic (k := 1) (x := nI 0) rfl (oi_nI 0) ?_
  refine w_pi (k := 2) (s := 58) rfl rfl (by first | assumption | rfl) ?_
  refine w_ic (k := 3) (x := nI 0) rfl (oi_nI 0) ?_
  refine wp_istore (k := 4) rfl rfl ?_
  exact loop _ 0 _ none none none (Nat.zero_add _) ⟨am_us, fun j hj => absurd hj (Nat.not_lt_zero j)⟩ (fx_s (by decide))
theorem c_221 (hB : mT I B) (hm : msg B = true) (h : mD I B (ats B)) {i : Nat} (hi : i < cng B) (h8 : ((ats B).getD i a0).2.1 = 8) (hq : Q (some (.int (ipo B i))) (am_SH N, I, L, am_RR w)) : am_call (d + 3) 221 [.ref 100, .int (nI i)] (am_SH N, I, L, am_RR w) Q := by
  obtain ⟨g1, g2, g3⟩ := hB
  obtain ⟨-, -, -, -, har⟩ := h
  have hc := cng_le B
  have hal := ats_100 g3 hm
  obtain ⟨v1, v2, v3⟩ := har i hi
  have hfit := ats_fit hm (show i < (ats B).length by omega)
  refine am_enter (ls := [some _, some _]) (cs := am_c221) rfl rfl (Nat.le_of_ble_eq_true rfl) rfl ?_
  refine wp_aload (k := 0) rfl rfl ?_
  refine w_gr (k := 1) (s := 14) rfl rfl (by first | assumption | rfl) (by first | assumption | rfl) ?_
  refine wp_aload (k := 2) rfl rfl ?_
  refine w_gr (k := 3) (s := 52) rfl rfl (by first | assumption | rfl) (by first | assumption | rfl) ?_
  refine wp_iload (k := 4) rfl rfl ?_
  refine w_iald (k := 5) rfl rfl (by first | assumption | rfl) (by omega) v3 ?_
  refine w_ic (k := 6) (x := nI 4) rfl (oi_nI 4) ?_
  refine w_addN (k := 7) rfl ?_
  refine w_Si (k := 8) [_, _] rfl rfl rfl (Nat.le_of_ble_eq_true rfl) (Or.inl ⟨rfl, rfl⟩) ?_
  refine (c_180 (n := 400) rfl (by decide) g2 (by omega) g3 ?_)
  refine ⟨_, rfl, ?_⟩
  refine w_ic (k := 9) (x := nI 554869826) rfl (oi_nI 554869826) ?_
  refine wp_ixor (k := 10) rfl ?_
  refine w_ri (k := 11) rfl rfl rfl rfl ?_
  exact hq
theorem c_222 (hB : mT I B) (hm : msg B = true) (h : mD I B (ats B)) {i : Nat} (hi : i < cng B) (h8 : ((ats B).getD i a0).2.1 = 8) (hq : Q (some (.int (poo B i))) (am_SH N, I, L, am_RR w)) : am_call (d + 2) 222 [.ref 100, .int (nI i)] (am_SH N, I, L, am_RR w) Q := by
  obtain ⟨g1, g2, g3⟩ := hB
  obtain ⟨-, -, -, -, har⟩ := h
  have hc := cng_le B
  have hal := ats_100 g3 hm
  obtain ⟨v1, v2, v3⟩ := har i hi
  have hfit := ats_fit hm (show i < (ats B).length by omega)
  refine am_enter (ls := [some _, some _]) (cs := am_c222) rfl rfl (Nat.le_of_ble_eq_true rfl) rfl ?_
  refine wp_aload (k := 0) rfl rfl ?_
  refine w_gr (k := 1) (s := 14) rfl rfl (by first | assumption | rfl) (by first | assumption | rfl) ?_
  refine wp_aload (k := 2) rfl rfl ?_
  refine w_gr (k := 3) (s := 52) rfl rfl (by first | assumption | rfl) (by first | assumption | rfl) ?_
  refine wp_iload (k := 4) rfl rfl ?_
  refine w_iald (k := 5) rfl rfl (by first | assumption | rfl) (by omega) v3 ?_
  refine w_ic (k := 6) (x := nI 2) rfl (oi_nI 2) ?_
  refine w_addN (k := 7) rfl ?_
  refine w_Si (k := 8) [_, _] rfl rfl rfl (Nat.le_of_ble_eq_true rfl) (Or.inl ⟨rfl, rfl⟩) ?_
  refine (c_179 (n := 400) rfl (by decide) g2 (by omega) g3 ?_)
  refine ⟨_, rfl, ?_⟩
  refine w_ic (k := 9) (x := nI 8466) rfl (oi_nI 8466) ?_
  refine wp_ixor (k := 10) rfl ?_
  refine w_ri (k := 11) rfl rfl rfl rfl ?_
  exact hq
end MF
