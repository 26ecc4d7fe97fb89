/-! ===== letters: peers, fingerprint, what is told ===== -/
section LD
variable {d : Nat} {sh : List (Nat × Nat)} {I : Nat → Nat → Int32} {L : Nat → Nat → Int64} {R : Nat → Nat → Option Nat} {Q : am_Q} {l p b n : Nat} {B : List Nat}
theorem msg_pe (h : msg B = true) : hdk B = true ∧ pe B 104 20 = B.length := by
  unfold msg at h
  rw [Bool.and_eq_true] at h
  exact ⟨h.1, of_decide_eq_true h.2⟩
theorem msg_20 (h : msg B = true) : 20 ≤ B.length := (of_decide_eq_true (msg_pe h).1).1
theorem pcn_app (D E : List AT) : pcn B (D ++ E) = pcn B D + pcn B E := by unfold pcn; rw [List.countP_append]
theorem pcn_all (h : msg B = true) (hB : B.length ≤ 400) : pcn B (ats B) ≤ 31 := by
  have := pcn_ps B 104 20
  rw [(msg_pe h).2] at this
  unfold ats
  omega
theorem c_51 (hl : lq sh R l p) (hr : rw_at sh R p b n) (hB : rw_B I p b n B) (h400 : B.length ≤ 400) (h : lr_ I l B) (hm : msg B = true) {a : Nat} (ha : sh[a]? = some (50, 31)) (hal : a < l ∨ l + 4 < a) (hap : a ≠ p ∧ a ≠ b) (h4 : 4 ≤ a) (hq : ∀ I', (∀ i, i < (prs B (cts B)).length → I' a i = (prs B (cts B)).getD i 0) → (prs B (cts B)).length ≤ 31 → (∀ x, x ≠ a → I' x = I x) → Q (some (.int (nI (prs B (cts B)).length))) (sh, I', L, R)) : am_call (d + 2) 51 [.ref l, .ref a] (sh, I, L, R) Q := by
  obtain ⟨l0, l1, l2, l3, l4, r0, r1, r2, r3, r4, l5, lp⟩ := hl
  obtain ⟨h1, h2, h3, h4'⟩ := h
  obtain ⟨-, -, hat'⟩ := h4' hm
  rw [if_pos hm] at h3
  have rp := hr.1
  have hn := hr.2.2.2.2
  have hc := cng_le B
  have hall := ats_len B
  have hct : ∀ i, i ≤ cng B → (cts B).take i = (ats B).take i := fun i hi => by unfold cts; rw [List.take_take, Nat.min_eq_left hi]
  have hlen : (cts B).length = cng B := by unfold cts; simp; omega
  have hp31 : pcn B (cts B) ≤ 31 := by
    have h1 := pcn_all hm h400
    have h2 : pcn B (ats B) = pcn B (cts B) + pcn B ((ats B).drop (cng B)) := by
      rw [← pcn_app]
      unfold cts
      rw [List.take_append_drop]
    omega
  have hplen : ∀ i, (prs B ((cts B).take i)).length ≤ pcn B ((cts B).take i) := fun i => by
    have := prs_pcn B ((cts B).take i) []
    simpa [prs] using this
  have hpc : ∀ i, pcn B ((cts B).take i) + pcn B ((cts B).drop i) ≤ 31 := fun i => by rw [← pcn_app, List.take_append_drop]; exact hp31
  have full : ∀ (D E : List AT), pcn B E = 0 → prs B (D ++ E) = prs B D := by
    intro D E h0
    unfold prs
    rw [List.foldl_append]
    generalize List.foldl (pst B) [] D = Z
    unfold pcn at h0
    rw [List.countP_eq_zero] at h0
    induction E with
    | nil => rfl
    | cons e E ih =>
      rw [List.foldl_cons]
      have : pst B Z e = Z := by unfold pst; rw [if_neg (h0 e List.mem_cons_self)]
      rw [this]
      exact ih (fun x hx => h0 x (List.mem_cons_of_mem _ hx))
  have loop : ∀ (r i : Nat) (I1 : Nat → Nat → Int32) (o : Option Value), i + r = cng B → (∀ j, j < (prs B ((cts B).take i)).length → I1 a j = (prs B ((cts B).take i)).getD j 0) → (∀ x, x ≠ a → I1 x = I x) → am_V 51 am_c51 (d + 1) sh Q 4 [some (.ref l), some (.ref a), some (.int (nI (prs B ((cts B).take i)).length)), some (.int (nI i)), o] [] (sh, I1, L, R) := by
    intro r
    induction r with
    | zero =>
      intro i I1 o hi x1 f1
      rw [List.take_of_length_le (by omega)] at x1 ⊢
      have s8 := hplen (cng B)
      rw [List.take_of_length_le (by omega)] at s8
      refine wp_iload (k := 4) rfl rfl ?_
      refine wp_aload (k := 5) rfl rfl ?_
      refine w_gi (k := 6) (s := 9) rfl rfl (by first | assumption | rfl) (show I1 l 9 = nI (cng B) by rw [f1 l (by omega)]; exact h3) ?_
      refine w_n_ge (k := 7) (t' := 49) rfl rfl (by omega) (fun zq => ?_) (fun zq => absurd zq (by omega))
      refine wp_iload (k := 49) rfl rfl ?_
      refine w_ri (k := 50) rfl rfl rfl rfl ?_
      exact hq I1 x1 (by omega) f1
    | succ r ih =>
      intro i I1 o hi x1 f1
      have s8 := hplen i
      have t8 := hpc i
      have hi2 : i < (ats B).length := by omega
      obtain ⟨hb1, hb2, hb3, hb4⟩ := ats_at hB.2.2.2 hi2
      obtain ⟨v1, v2, v3, v4⟩ := hat' i hi2
      have v1 : I1 (l + 1) i = nI ((ats B).getD i a0).1 := by rw [f1 _ (by omega)]; exact v1
      have v3 : I1 (l + 3) i = nI ((ats B).getD i a0).2.2 := by rw [f1 _ (by omega)]; exact v3
      have v4 : I1 (l + 4) i = bI (snd_ B ((ats B).getD i a0)) := by rw [f1 _ (by omega)]; exact v4
      have hB1 : rw_B I1 p b n B := rw_keep hB (f1 p (fun z => hap.1 z.symm)) (f1 b (fun z => hap.2 z.symm))
      have hsn : (cts B).take (i + 1) = (cts B).take i ++ [(ats B).getD i a0] := by
        rw [hct _ (by omega), hct _ (by omega), take_snoc a0 hi2]
      have hst : prs B ((cts B).take (i + 1)) = pst B (prs B ((cts B).take i)) ((ats B).getD i a0) := by rw [hsn, prs_snoc]
      have hfull : (prs B ((cts B).take i)).length = 31 → prs B (cts B) = prs B ((cts B).take i) := by
        intro h31
        have := full ((cts B).take i) ((cts B).drop i) (by omega)
        rw [List.take_append_drop] at this
        exact this
      generalize hZ : prs B ((cts B).take i) = Z at *
      generalize hkk : (ats B).getD i a0 = kk at *
      have nx : ∀ o, pst B Z kk = Z → am_V 51 am_c51 (d + 1) sh Q 47 [some (.ref l), some (.ref a), some (.int (nI Z.length)), some (.int (nI i)), o] [] (sh, I1, L, R) := by
        intro o e
        rw [e] at hst
        refine w_incN (k := 47) (m := 1) rfl (oi_nI 1) rfl ?_
        refine w_goto (k := 48) (t' := 4) rfl rfl ?_
        have := ih (i + 1) I1 o (by omega) (by rw [hst]; exact x1) f1
        rw [hst] at this
        exact this
      refine wp_iload (k := 4) rfl rfl ?_
      refine wp_aload (k := 5) rfl rfl ?_
      refine w_gi (k := 6) (s := 9) rfl rfl (by first | assumption | rfl) (show I1 l 9 = nI (cng B) by rw [f1 l (by omega)]; exact h3) ?_
      refine w_n_ge (k := 7) (t' := 49) rfl rfl (by omega) (fun zq => absurd zq (by omega)) (fun zq => ?_)
      refine wp_iload (k := 8) rfl rfl ?_
      refine wp_aload (k := 9) rfl rfl ?_
      refine w_alen (k := 10) rfl (by first | assumption | rfl) (by decide) ?_
      refine w_n_ge (k := 11) (t' := 49) rfl rfl (by omega) (fun c => ?_) (fun c => ?_)
      · have h31 : Z.length = 31 := by omega
        rw [hfull h31] at hq
        refine wp_iload (k := 49) rfl rfl ?_
        refine w_ri (k := 50) rfl rfl rfl rfl ?_
        exact hq I1 x1 (by omega) f1
      · refine wp_aload (k := 12) rfl rfl ?_
        refine w_gr (k := 13) (s := 1) rfl rfl (by first | assumption | rfl) (by first | assumption | rfl) ?_
        refine wp_iload (k := 14) rfl rfl ?_
        refine w_iald (k := 15) rfl rfl (by first | assumption | rfl) (by omega) v1 ?_
        refine w_ic (k := 16) (x := nI 18) rfl (oi_nI 18) ?_
        refine w_n_ne (k := 17) (t' := 47) rfl rfl (by omega) (fun k => ?_) (fun k => ?_)
        · exact nx _ (by unfold pst; rw [if_neg (by rw [decide_eq_false k]; simp)])
        · refine wp_aload (k := 18) rfl rfl ?_
          refine w_gr (k := 19) (s := 4) rfl rfl (by first | assumption | rfl) (by first | assumption | rfl) ?_
          refine wp_iload (k := 20) rfl rfl ?_
          refine w_cald (k := 21) rfl rfl (by first | assumption | rfl) (by omega) v4 ?_
          refine w_b_eq (k := 22) (t' := 47) rfl rfl (fun k2 => ?_) (fun k2 => ?_)
          · exact nx _ (by unfold pst; rw [if_neg (by rw [k2]; simp)])
          · refine wp_aload (k := 23) rfl rfl ?_
            refine w_gr (k := 24) (s := 0) rfl rfl (by first | assumption | rfl) (by first | assumption | rfl) ?_
            refine wp_aload (k := 25) rfl rfl ?_
            refine w_gr (k := 26) (s := 3) rfl rfl (by first | assumption | rfl) (by first | assumption | rfl) ?_
            refine wp_iload (k := 27) rfl rfl ?_
            refine w_iald (k := 28) rfl rfl (by first | assumption | rfl) (by omega) v3 ?_
            refine w_ic (k := 29) (x := nI 4) rfl (oi_nI 4) ?_
            refine w_addN (k := 30) rfl ?_
            refine w_ic (k := 31) (x := nI 4) rfl (oi_nI 4) ?_
            refine w_Vl (k := 32) [_, _] rfl rfl rfl (Nat.le_of_ble_eq_true rfl) (by first | assumption | rfl) (Or.inl ⟨rfl, rfl⟩) ?_
            refine (c_90 hr hB1 (by omega) ?_)
            refine ⟨_, rfl, ?_⟩
            refine wp_l2i (k := 33) rfl ?_
            rw [lN_i]
            refine w_ic (k := 34) (x := nI 554869826) rfl (oi_nI 554869826) ?_
            refine wp_ixor (k := 35) rfl ?_
            refine wp_istore (k := 36) (ls2 := [some _, some _, some _, some _, some _]) rfl rfl ?_
            refine wp_aload (k := 37) rfl rfl ?_
            refine wp_iload (k := 38) rfl rfl ?_
            refine wp_iload (k := 39) rfl rfl ?_
            refine w_Si (k := 40) [_, _, _] rfl rfl rfl (Nat.le_of_ble_eq_true rfl) (Or.inl ⟨rfl, rfl⟩) ?_
            refine (c_52 (m := 31) (X := Z) rfl ha (by decide) (by omega) x1 ?_)
            refine ⟨_, rfl, ?_⟩
            have hcond : (decide (kk.1 = 18) && snd_ B kk) = true := by rw [k2, decide_eq_true k]; rfl
            generalize hip : nI (nb B (kk.2.2 + 4) 4) ^^^ nI 554869826 = ip at *
            refine w_b_ne (k := 41) (t' := 47) rfl rfl (fun k3 => ?_) (fun k3 => ?_)
            · exact nx _ (by unfold pst; rw [if_pos hcond, hip, if_pos (of_decide_eq_true k3)])
            · have e : pst B Z kk = Z ++ [ip] := by unfold pst; rw [if_pos hcond, hip, if_neg (of_decide_eq_false k3)]
              rw [e] at hst
              refine wp_aload (k := 42) rfl rfl ?_
              refine wp_iload (k := 43) rfl rfl ?_
              refine wp_iload (k := 44) rfl rfl ?_
              refine w_iast (k := 45) rfl rfl (by omega) (by first | assumption | rfl) (by omega) ?_
              refine w_incN (k := 46) (m := 1) rfl (oi_nI 1) rfl ?_
              refine w_incN (k := 47) (m := 1) rfl (oi_nI 1) rfl ?_
              refine w_goto (k := 48) (t' := 4) rfl rfl ?_
              have := ih (i + 1) (am_u I1 a Z.length ip) (some (.int ip)) (by omega) (by
                rw [hst]
                intro j hj
                have hj : j < Z.length + 1 := by simpa using hj
                rw [gD_app hj, am_u_app]
                by_cases q : j = Z.length
                · rw [if_pos ⟨rfl, q⟩, if_pos q]
                · rw [if_neg (fun z => q z.2), if_neg q]
                  exact x1 j (by omega)) (fun x hx => by rw [am_uR hx, f1 x hx])
              rw [hst, List.length_append] at this
              exact this
  refine am_enter (ls := [some _, some _, none, none, none]) (cs := am_c51) rfl rfl (Nat.le_of_ble_eq_true rfl) rfl ?_
  refine w_ic (k := 0) (x := nI 0) rfl (oi_nI 0) ?_
  refine wp_istore (k := 1) rfl rfl ?_
  refine w_ic (k := 2) (x := nI 0) rfl (oi_nI 0) ?_
  refine wp_istore (k := 3) rfl rfl ?_
  have := loop (cng B) 0 I none (Nat.zero_add _) (by intro j hj; simp [prs] at hj) (fun _ _ => rfl)
  rw [List.take_zero] at this
  exact this
end LD
section LE
variable {d N : Nat} {I : Nat → Nat → Int32} {L : Nat → Nat → Int64} {w : Option Nat} {Q : am_Q} {l p b n : Nat} {B : List Nat}
theorem c_49 (hl : lq (am_SH N) (am_RR w) l p) (hr : rw_at (am_SH N) (am_RR w) p b n) (hB : rw_B I p b n B) (h : lr_ I l B) (hm : msg B = true) (hst : stc I) (hq : Q (some (.int (bI (fpw B)))) (am_SH N, I, L, am_RR w)) : am_call (d + 3) 49 [.ref l] (am_SH N, I, L, am_RR w) Q := by
  obtain ⟨l0, l1, l2, l3, l4, r0, r1, r2, r3, r4, l5, lp⟩ := id hl
  obtain ⟨h1, h2, h3, h4⟩ := id h
  obtain ⟨-, h8, -⟩ := h4 hm
  rw [if_pos hm] at h2
  have hal := ats_len B
  have rp := hr.1
  have hn := hr.2.2.2.2
  have hBl := hB.1
  unfold fpw at hq
  refine am_enter (ls := [some _, none]) (cs := am_c49) rfl rfl (Nat.le_of_ble_eq_true rfl) rfl ?_
  cases hf : fgi B (ats B) with
  | none =>
    rw [hf] at hq h8
    refine wp_aload (k := 0) rfl rfl ?_
    refine w_gi (k := 1) (s := 8) rfl rfl (by first | assumption | rfl) h8 ?_
    refine w_ic (k := 2) (x := (-1)) rfl (by decide) ?_
    refine w_c_ne (k := 3) (t' := 6) rfl rfl (fun zq => absurd rfl zq) (fun zq => ?_)
    refine w_ic (k := 4) (x := bI false) rfl rfl ?_
    refine w_rz (k := 5) rfl rfl rfl ?_
    exact hq
  | some j =>
    have hj := fgi_lt hf
    rw [hf] at hq h8
    simp only at hq
    have h8 : I l 8 = nI j := h8
    obtain ⟨b1, b2, b3, b4⟩ := ats_at hB.2.2.2 hj
    have yes : ∀ ls, (j ≠ (ats B).length - 1 ∨ nI (vlo B j) ≠ fp (B.take (((ats B).getD j a0).2.2 - 4))) → am_V 49 am_c49 (d + 2) (am_SH N) Q 30 ls [] (am_SH N, I, L, am_RR w) := by
      intro ls hy
      rw [decide_eq_true hy] at hq
      refine w_ic (k := 30) (x := bI true) rfl rfl ?_
      refine w_goto (k := 31) (t' := 33) rfl rfl ?_
      refine w_rz (k := 33) rfl rfl rfl ?_
      exact hq
    refine wp_aload (k := 0) rfl rfl ?_
    refine w_gi (k := 1) (s := 8) rfl rfl (by first | assumption | rfl) h8 ?_
    refine w_ic (k := 2) (x := (-1)) rfl (by decide) ?_
    refine w_c_ne (k := 3) (t' := 6) rfl rfl (fun zq => ?_) (fun zq => absurd zq (nI_ne1 (by omega)))
    refine wp_aload (k := 6) rfl rfl ?_
    refine wp_aload (k := 7) rfl rfl ?_
    refine w_gi (k := 8) (s := 8) rfl rfl (by first | assumption | rfl) h8 ?_
    refine w_Vi (k := 9) [_] rfl rfl rfl (Nat.le_of_ble_eq_true rfl) (by first | assumption | rfl) (Or.inl ⟨rfl, rfl⟩) ?_
    refine (c_44 hl h hm hj ?_)
    refine ⟨_, rfl, ?_⟩
    refine w_ic (k := 10) (x := nI 4) rfl (oi_nI 4) ?_
    refine w_subN (k := 11) rfl (by omega) ?_
    refine wp_istore (k := 12) rfl rfl ?_
    refine wp_aload (k := 13) rfl rfl ?_
    refine w_gi (k := 14) (s := 8) rfl rfl (by first | assumption | rfl) h8 ?_
    refine wp_aload (k := 15) rfl rfl ?_
    refine w_gi (k := 16) (s := 6) rfl rfl (by first | assumption | rfl) h2 ?_
    refine w_ic (k := 17) (x := nI 1) rfl (oi_nI 1) ?_
    refine w_subN (k := 18) rfl (by omega) ?_
    refine w_n_ne (k := 19) (t' := 30) rfl rfl (by omega) (fun c1 => ?_) (fun c1 => ?_)
    · exact yes _ (Or.inl c1)
    · refine wp_aload (k := 20) rfl rfl ?_
      refine wp_aload (k := 21) rfl rfl ?_
      refine w_gi (k := 22) (s := 8) rfl rfl (by first | assumption | rfl) h8 ?_
      refine w_Vl (k := 23) [_] rfl rfl rfl (Nat.le_of_ble_eq_true rfl) (by first | assumption | rfl) (Or.inl ⟨rfl, rfl⟩) ?_
      refine (c_45 hl hr hB h hm hj ?_)
      refine ⟨_, rfl, ?_⟩
      refine wp_l2i (k := 24) rfl ?_
      rw [lN_i]
      refine wp_aload (k := 25) rfl rfl ?_
      refine w_gr (k := 26) (s := 0) rfl rfl (by first | assumption | rfl) (by first | assumption | rfl) ?_
      refine wp_iload (k := 27) rfl rfl ?_
      refine w_Si (k := 28) [_, _] rfl rfl rfl (Nat.le_of_ble_eq_true rfl) (Or.inl ⟨rfl, rfl⟩) ?_
      refine (c_59 hr hB (by omega) hst ?_)
      refine ⟨_, rfl, ?_⟩
      refine w_c_eq (k := 29) (t' := 32) rfl rfl (fun c2 => ?_) (fun c2 => ?_)
      · rw [decide_eq_false (fun z => z.elim (fun y => y c1) (fun y => y c2))] at hq
        refine w_ic (k := 32) (x := bI false) rfl rfl ?_
        refine w_rz (k := 33) rfl rfl rfl ?_
        exact hq
      · exact yes _ (Or.inr c2)
end LE
section LF
variable {d : Nat} {sh : List (Nat × Nat)} {I : Nat → Nat → Int32} {L : Nat → Nat → Int64} {R : Nat → Nat → Option Nat} {Q : am_Q} {l p b n : Nat} {B : List Nat}
theorem c_55 (hl : lq sh R l p) (hB : ∀ c ∈ B, c < 256) (h : lr_ I l B) (hm : msg B = true) {i : Nat} (hi : i < (ats B).length) (hq : Q (some (.int (bI (decide (((ats B).getD i a0).1 = 18 ∨ ((ats B).getD i a0).1 = 22 ∨ ((ats B).getD i a0).1 = 32) && snd_ B ((ats B).getD i a0))))) (sh, I, L, R)) : am_call (d + 1) 55 [.ref l, .int (nI i)] (sh, I, L, R) Q := by
  obtain ⟨l0, l1, l2, l3, l4, r0, r1, r2, r3, r4, l5, lp⟩ := hl
  obtain ⟨h1, h2, h3, h4⟩ := h
  obtain ⟨-, -, ha⟩ := h4 hm
  have hal := ats_len B
  obtain ⟨v1, v2, v3, v4⟩ := ha i hi
  have hb := (ats_at hB hi).1
  generalize (ats B).getD i a0 = kk at *
  have yes : (kk.1 = 18 ∨ kk.1 = 22 ∨ kk.1 = 32) → am_V 55 am_c55 d sh Q 18 [some (.ref l), some (.int (nI i))] [] (sh, I, L, R) := by
    intro hy
    rw [decide_eq_true hy, Bool.true_and] at hq
    refine wp_aload (k := 18) rfl rfl ?_
    refine w_gr (k := 19) (s := 4) rfl rfl (by first | assumption | rfl) (by first | assumption | rfl) ?_
    refine wp_iload (k := 20) rfl rfl ?_
    refine w_cald (k := 21) rfl rfl (by first | assumption | rfl) (by omega) v4 ?_
    refine w_b_eq (k := 22) (t' := 25) rfl rfl (fun c => ?_) (fun c => ?_)
    · rw [c] at hq
      refine w_ic (k := 25) (x := bI false) rfl rfl ?_
      refine w_rz (k := 26) rfl rfl rfl ?_
      exact hq
    · rw [c] at hq
      refine w_ic (k := 23) (x := bI true) rfl rfl ?_
      refine w_goto (k := 24) (t' := 26) rfl rfl ?_
      refine w_rz (k := 26) rfl rfl rfl ?_
      exact hq
  refine am_enter (ls := [some _, some _]) (cs := am_c55) rfl rfl (Nat.le_of_ble_eq_true rfl) rfl ?_
  refine wp_aload (k := 0) rfl rfl ?_
  refine w_gr (k := 1) (s := 1) rfl rfl (by first | assumption | rfl) (by first | assumption | rfl) ?_
  refine wp_iload (k := 2) rfl rfl ?_
  refine w_iald (k := 3) rfl rfl (by first | assumption | rfl) (by omega) v1 ?_
  refine w_ic (k := 4) (x := nI 18) rfl (oi_nI 18) ?_
  refine w_n_eq (k := 5) (t' := 18) rfl rfl (by omega) (fun c1 => ?_) (fun c1 => ?_)
  · exact yes (Or.inl c1)
  · refine wp_aload (k := 6) rfl rfl ?_
    refine w_gr (k := 7) (s := 1) rfl rfl (by first | assumption | rfl) (by first | assumption | rfl) ?_
    refine wp_iload (k := 8) rfl rfl ?_
    refine w_iald (k := 9) rfl rfl (by first | assumption | rfl) (by omega) v1 ?_
    refine w_ic (k := 10) (x := nI 22) rfl (oi_nI 22) ?_
    refine w_n_eq (k := 11) (t' := 18) rfl rfl (by omega) (fun c2 => ?_) (fun c2 => ?_)
    · exact yes (Or.inr (Or.inl c2))
    · refine wp_aload (k := 12) rfl rfl ?_
      refine w_gr (k := 13) (s := 1) rfl rfl (by first | assumption | rfl) (by first | assumption | rfl) ?_
      refine wp_iload (k := 14) rfl rfl ?_
      refine w_iald (k := 15) rfl rfl (by first | assumption | rfl) (by omega) v1 ?_
      refine w_ic (k := 16) (x := nI 32) rfl (oi_nI 32) ?_
      refine w_n_ne (k := 17) (t' := 25) rfl rfl (by omega) (fun c3 => ?_) (fun c3 => ?_)
      · rw [decide_eq_false (by omega), Bool.false_and] at hq
        refine w_ic (k := 25) (x := bI false) rfl rfl ?_
        refine w_rz (k := 26) rfl rfl rfl ?_
        exact hq
      · exact yes (Or.inr (Or.inr c3))
theorem c_54 (hl : lq sh R l p) (hr : rw_at sh R p b n) (hB : rw_B I p b n B) (h : lr_ I l B) {i x : Int32} (hq : Q (some (.int (sp_at B i x))) (sh, I, L, R)) : am_call (d + 3) 54 [.ref l, .int i, .int x] (sh, I, L, R) Q := by
  obtain ⟨l0, l1, l2, l3, l4, r0, r1, r2, r3, r4, l5, lp⟩ := id hl
  obtain ⟨h1, h2, h3, h4⟩ := id h
  have rp := hr.1
  have hn := hr.2.2.2.2
  have hBl := hB.1
  have hal := ats_len B
  unfold sp_at at hq
  have no : ∀ ls, (msg B = false ∨ i < 0 ∨ nI (ats B).length ≤ i) → am_V 54 am_c54 (d + 2) sh Q 6 ls [] (sh, I, L, R) := by
    intro ls hy
    rw [if_pos hy] at hq
    refine w_ic (k := 6) (x := (-1)) rfl (by decide) ?_
    refine w_ri (k := 7) rfl rfl rfl rfl ?_
    exact hq
  refine am_enter (ls := [some _, some _, some _]) (cs := am_c54) rfl rfl (Nat.le_of_ble_eq_true rfl) rfl ?_
  refine wp_iload (k := 0) rfl rfl ?_
  refine w_z_lt (k := 1) (t' := 6) rfl rfl (fun c1 => ?_) (fun c1 => ?_)
  · exact no _ (Or.inr (Or.inl c1))
  · obtain ⟨j, hj, rfl⟩ := nI_of c1
    cases hm : msg B with
    | false =>
      rw [hm, if_neg (by decide)] at h2
      refine wp_iload (k := 2) rfl rfl ?_
      refine wp_aload (k := 3) rfl rfl ?_
      refine w_gi (k := 4) (s := 6) rfl rfl (by first | assumption | rfl) h2 ?_
      refine w_n_lt (k := 5) (t' := 8) rfl rfl (by omega) (fun zq => absurd zq (by omega)) (fun zq => ?_)
      exact no _ (Or.inl hm)
    | true =>
      rw [if_pos hm] at h2
      refine wp_iload (k := 2) rfl rfl ?_
      refine wp_aload (k := 3) rfl rfl ?_
      refine w_gi (k := 4) (s := 6) rfl rfl (by first | assumption | rfl) h2 ?_
      refine w_n_lt (k := 5) (t' := 8) rfl rfl (by omega) (fun c2 => ?_) (fun c2 => ?_)
      · rw [if_neg (fun z => z.elim (fun y => by rw [hm] at y; cases y) (fun z => z.elim c1 (nI_ge c2 (by omega)))), nI_clamp (by omega)] at hq
        obtain ⟨-, -, ha⟩ := h4 hm
        obtain ⟨v1, v2, v3, v4⟩ := ha j c2
        obtain ⟨b1, b2, b3, b4⟩ := ats_at hB.2.2.2 c2
        unfold tlt at hq
        refine wp_iload (k := 8) rfl rfl ?_
        by_cases k0 : x = nI 0
        · rw [if_pos k0] at hq
          subst k0
          refine w_sw (k := 9) (t' := 10) rfl (by decide) ?_
          refine wp_aload (k := 10) rfl rfl ?_
          refine w_gr (k := 11) (s := 1) rfl rfl (by first | assumption | rfl) (by first | assumption | rfl) ?_
          refine wp_iload (k := 12) rfl rfl ?_
          refine w_iald (k := 13) rfl rfl (by first | assumption | rfl) (by omega) v1 ?_
          refine w_ri (k := 14) rfl rfl rfl rfl ?_
          exact hq
        · rw [if_neg k0] at hq
          by_cases k1 : x = nI 1
          · rw [if_pos k1] at hq
            subst k1
            refine w_sw (k := 9) (t' := 15) rfl (by decide) ?_
            refine wp_aload (k := 15) rfl rfl ?_
            refine w_gr (k := 16) (s := 2) rfl rfl (by first | assumption | rfl) (by first | assumption | rfl) ?_
            refine wp_iload (k := 17) rfl rfl ?_
            refine w_iald (k := 18) rfl rfl (by first | assumption | rfl) (by omega) v2 ?_
            refine w_ri (k := 19) rfl rfl rfl rfl ?_
            exact hq
          · rw [if_neg k1] at hq
            by_cases k2 : x = nI 2
            · rw [if_pos k2] at hq
              subst k2
              refine w_sw (k := 9) (t' := 20) rfl (by decide) ?_
              refine wp_aload (k := 20) rfl rfl ?_
              refine w_gr (k := 21) (s := 3) rfl rfl (by first | assumption | rfl) (by first | assumption | rfl) ?_
              refine wp_iload (k := 22) rfl rfl ?_
              refine w_iald (k := 23) rfl rfl (by first | assumption | rfl) (by omega) v3 ?_
              refine w_ri (k := 24) rfl rfl rfl rfl ?_
              exact hq
            · rw [if_neg k2] at hq
              by_cases k3 : x = nI 3
              · rw [if_pos k3] at hq
                subst k3
                have e : (if nI ((ats B).getD j a0).2.1 < nI 4 then nI ((ats B).getD j a0).2.1 else nI 4) = nI (min 4 ((ats B).getD j a0).2.1) := by
                  by_cases c : ((ats B).getD j a0).2.1 < 4
                  · rw [if_pos (nI_lt c (by omega)), Nat.min_eq_right (by omega)]
                  · rw [if_neg (nI_nlt (by omega) (by omega)), Nat.min_eq_left (by omega)]
                refine w_sw (k := 9) (t' := 25) rfl (by decide) ?_
                refine wp_aload (k := 25) rfl rfl ?_
                refine w_gr (k := 26) (s := 0) rfl rfl (by first | assumption | rfl) (by first | assumption | rfl) ?_
                refine wp_aload (k := 27) rfl rfl ?_
                refine w_gr (k := 28) (s := 3) rfl rfl (by first | assumption | rfl) (by first | assumption | rfl) ?_
                refine wp_iload (k := 29) rfl rfl ?_
                refine w_iald (k := 30) rfl rfl (by first | assumption | rfl) (by omega) v3 ?_
                refine w_ic (k := 31) (x := nI 4) rfl (oi_nI 4) ?_
                refine wp_aload (k := 32) rfl rfl ?_
                refine w_gr (k := 33) (s := 2) rfl rfl (by first | assumption | rfl) (by first | assumption | rfl) ?_
                refine wp_iload (k := 34) rfl rfl ?_
                refine w_iald (k := 35) rfl rfl (by first | assumption | rfl) (by omega) v2 ?_
                refine wp_mm1 (k := 36) rfl (Nat.le_of_ble_eq_true rfl) ?_
                rw [e]
                refine w_Vl (k := 37) [_, _] rfl rfl rfl (Nat.le_of_ble_eq_true rfl) (by first | assumption | rfl) (Or.inl ⟨rfl, rfl⟩) ?_
                refine (c_90 hr hB (by omega) ?_)
                refine ⟨_, rfl, ?_⟩
                refine wp_l2i (k := 38) rfl ?_
                rw [lN_i]
                refine w_ri (k := 39) rfl rfl rfl rfl ?_
                exact hq
              · rw [if_neg k3] at hq
                by_cases k4 : x = nI 4
                · rw [if_pos k4] at hq
                  subst k4
                  refine w_sw (k := 9) (t' := 40) rfl (by decide) ?_
                  refine wp_aload (k := 40) rfl rfl ?_
                  refine wp_iload (k := 41) rfl rfl ?_
                  refine w_Vi (k := 42) [_] rfl rfl rfl (Nat.le_of_ble_eq_true rfl) (by first | assumption | rfl) (Or.inl ⟨rfl, rfl⟩) ?_
                  refine (c_55 hl hB.2.2.2 h hm c2 ?_)
                  refine ⟨_, rfl, ?_⟩
                  refine w_b_eq (k := 43) (t' := 48) rfl rfl (fun c => ?_) (fun c => ?_)
                  · rw [if_neg (by rw [c]; decide)] at hq
                    refine w_ic (k := 48) (x := nI 0) rfl (oi_nI 0) ?_
                    refine w_ri (k := 49) rfl rfl rfl rfl ?_
                    exact hq
                  · rw [if_pos c] at hq
                    refine wp_aload (k := 44) rfl rfl ?_
                    refine wp_iload (k := 45) rfl rfl ?_
                    refine w_Vi (k := 46) [_] rfl rfl rfl (Nat.le_of_ble_eq_true rfl) (by first | assumption | rfl) (Or.inl ⟨rfl, rfl⟩) ?_
                    refine (c_47 hl hr hB h hm c2 ?_)
                    refine ⟨_, rfl, ?_⟩
                    refine w_goto (k := 47) (t' := 49) rfl rfl ?_
                    refine w_ri (k := 49) rfl rfl rfl rfl ?_
                    exact hq
                · rw [if_neg k4] at hq
                  by_cases k5 : x = nI 5
                  · rw [if_pos k5] at hq
                    subst k5
                    refine w_sw (k := 9) (t' := 50) rfl (by decide) ?_
                    refine wp_aload (k := 50) rfl rfl ?_
                    refine wp_iload (k := 51) rfl rfl ?_
                    refine w_Vi (k := 52) [_] rfl rfl rfl (Nat.le_of_ble_eq_true rfl) (by first | assumption | rfl) (Or.inl ⟨rfl, rfl⟩) ?_
                    refine (c_55 hl hB.2.2.2 h hm c2 ?_)
                    refine ⟨_, rfl, ?_⟩
                    refine w_b_eq (k := 53) (t' := 58) rfl rfl (fun c => ?_) (fun c => ?_)
                    · rw [if_neg (by rw [c]; decide)] at hq
                      refine w_ic (k := 58) (x := nI 0) rfl (oi_nI 0) ?_
                      refine w_ri (k := 59) rfl rfl rfl rfl ?_
                      exact hq
                    · rw [if_pos c] at hq
                      refine wp_aload (k := 54) rfl rfl ?_
                      refine wp_iload (k := 55) rfl rfl ?_
                      refine w_Vi (k := 56) [_] rfl rfl rfl (Nat.le_of_ble_eq_true rfl) (by first | assumption | rfl) (Or.inl ⟨rfl, rfl⟩) ?_
                      refine (c_46 hl hr hB h hm c2 ?_)
                      refine ⟨_, rfl, ?_⟩
                      refine w_goto (k := 57) (t' := 59) rfl rfl ?_
                      refine w_ri (k := 59) rfl rfl rfl rfl ?_
                      exact hq
                  · rw [if_neg k5] at hq
                    by_cases k6 : x = nI 6
                    · rw [if_pos k6] at hq
                      subst k6
                      refine w_sw (k := 9) (t' := 60) rfl (by decide) ?_
                      refine wp_aload (k := 60) rfl rfl ?_
                      refine w_gr (k := 61) (s := 1) rfl rfl (by first | assumption | rfl) (by first | assumption | rfl) ?_
                      refine wp_iload (k := 62) rfl rfl ?_
                      refine w_iald (k := 63) rfl rfl (by first | assumption | rfl) (by omega) v1 ?_
                      refine w_ic (k := 64) (x := nI 9) rfl (oi_nI 9) ?_
                      refine w_n_ne (k := 65) (t' := 75) rfl rfl (by omega) (fun c => ?_) (fun c => ?_)
                      · rw [if_neg (by rw [decide_eq_false c]; simp)] at hq
                        refine w_ic (k := 75) (x := nI 0) rfl (oi_nI 0) ?_
                        refine w_ri (k := 76) rfl rfl rfl rfl ?_
                        exact hq
                      · refine wp_aload (k := 66) rfl rfl ?_
                        refine w_gr (k := 67) (s := 4) rfl rfl (by first | assumption | rfl) (by first | assumption | rfl) ?_
                        refine wp_iload (k := 68) rfl rfl ?_
                        refine w_cald (k := 69) rfl rfl (by first | assumption | rfl) (by omega) v4 ?_
                        refine w_b_eq (k := 70) (t' := 75) rfl rfl (fun c5 => ?_) (fun c5 => ?_)
                        · rw [if_neg (by rw [c5]; simp)] at hq
                          refine w_ic (k := 75) (x := nI 0) rfl (oi_nI 0) ?_
                          refine w_ri (k := 76) rfl rfl rfl rfl ?_
                          exact hq
                        · rw [if_pos (by rw [c5, decide_eq_true c]; rfl)] at hq
                          refine wp_aload (k := 71) rfl rfl ?_
                          refine wp_iload (k := 72) rfl rfl ?_
                          refine w_Vi (k := 73) [_] rfl rfl rfl (Nat.le_of_ble_eq_true rfl) (by first | assumption | rfl) (Or.inl ⟨rfl, rfl⟩) ?_
                          refine am_enter (ls := [some _, some _]) (cs := am_c56) rfl rfl (Nat.le_of_ble_eq_true rfl) rfl ?_
                          refine wp_aload (k := 0) rfl rfl ?_
                          refine w_gr (k := 1) (s := 0) rfl rfl (by first | assumption | rfl) (by first | assumption | rfl) ?_
                          refine wp_aload (k := 2) rfl rfl ?_
                          refine w_gr (k := 3) (s := 3) rfl rfl (by first | assumption | rfl) (by first | assumption | rfl) ?_
                          refine wp_iload (k := 4) rfl rfl ?_
                          refine w_iald (k := 5) rfl rfl (by first | assumption | rfl) (by omega) v3 ?_
                          refine w_ic (k := 6) (x := nI 2) rfl (oi_nI 2) ?_
                          refine w_addN (k := 7) rfl ?_
                          refine w_Vi (k := 8) [_] rfl rfl rfl (Nat.le_of_ble_eq_true rfl) (by first | assumption | rfl) (Or.inl ⟨rfl, rfl⟩) ?_
                          refine (c_84 hr hB ?_)
                          refine ⟨_, rfl, ?_⟩
                          refine w_ic (k := 9) (x := nI 100) rfl (oi_nI 100) ?_
                          refine wp_imul (k := 10) rfl ?_
                          refine wp_aload (k := 11) rfl rfl ?_
                          refine w_gr (k := 12) (s := 0) rfl rfl (by first | assumption | rfl) (by first | assumption | rfl) ?_
                          refine wp_aload (k := 13) rfl rfl ?_
                          refine w_gr (k := 14) (s := 3) rfl rfl (by first | assumption | rfl) (by first | assumption | rfl) ?_
                          refine wp_iload (k := 15) rfl rfl ?_
                          refine w_iald (k := 16) rfl rfl (by first | assumption | rfl) (by omega) v3 ?_
                          refine w_ic (k := 17) (x := nI 3) rfl (oi_nI 3) ?_
                          refine w_addN (k := 18) rfl ?_
                          refine w_Vi (k := 19) [_] rfl rfl rfl (Nat.le_of_ble_eq_true rfl) (by first | assumption | rfl) (Or.inl ⟨rfl, rfl⟩) ?_
                          refine (c_84 hr hB ?_)
                          refine ⟨_, rfl, ?_⟩
                          refine wp_iadd (k := 20) rfl ?_
                          refine w_ri (k := 21) rfl rfl rfl rfl ?_
                          refine ⟨_, rfl, ?_⟩
                          refine w_goto (k := 74) (t' := 76) rfl rfl ?_
                          refine w_ri (k := 76) rfl rfl rfl rfl ?_
                          exact hq
                    · rw [if_neg k6] at hq
                      have e : am_sw 77 x [(0, 10), (1, 15), (2, 20), (3, 25), (4, 40), (5, 50), (6, 60)] = 77 := am_sw_no (by
                        intro p hp
                        simp only [List.mem_cons, List.not_mem_nil, or_false] at hp
                        rcases hp with rfl | rfl | rfl | rfl | rfl | rfl | rfl
                        · exact k0
                        · exact k1
                        · exact k2
                        · exact k3
                        · exact k4
                        · exact k5
                        · exact k6)
                      refine w_sw (k := 9) (t' := 77) rfl (by show (am_sw 77 x [(0, 10), (1, 15), (2, 20), (3, 25), (4, 40), (5, 50), (6, 60)]).toNat = 77; rw [e]; rfl) ?_
                      refine w_ic (k := 77) (x := (-1)) rfl (by decide) ?_
                      refine w_ri (k := 78) rfl rfl rfl rfl ?_
                      exact hq
      · exact no _ (Or.inr (Or.inr (nI_le c2 (by omega))))
end LF
