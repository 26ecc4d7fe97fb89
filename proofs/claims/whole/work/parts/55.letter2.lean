/-! ===== letters: read, find and the like ===== -/
section LB
variable {d : Nat} {sh : List (Nat × Nat)} {I : Nat → Nat → Int32} {L : Nat → Nat → Int64} {R : Nat → Nat → Option Nat} {Q : am_Q} {l p b n : Nat} {B : List Nat}
theorem fin_lt {D : List AT} {j : Nat} (h : fin_ B D = some j) : j < D.length := by obtain ⟨-, h2, -⟩ := ff_some h; omega
theorem fgi_lt {D : List AT} {j : Nat} (h : fgi B D = some j) : j < D.length := by obtain ⟨-, h2, -⟩ := ff_some h; omega
theorem ats_len (B : List Nat) : (ats B).length ≤ 104 := ps_len B 104 20
theorem cng_le (B : List Nat) : cng B ≤ (ats B).length := by
  unfold cng
  cases h : fin_ B (ats B) with
  | none => exact Nat.le_refl _
  | some j => exact fin_lt h
theorem c_35 (hl : lq sh R l p) (hr : rw_at sh R p b n) (hB : rw_B I p b n B) (hb : b < l ∨ l + 4 < b) (hn : n ≤ 436) (hq : ∀ I', lr_ I' l B → (∀ x, x < l ∨ l + 4 < x → I' x = I x) → Q (some (.int (bI (msg B)))) (sh, I', L, R)) : am_call (d + 3) 35 [.ref l] (sh, I, L, R) Q := by
  obtain ⟨l0, l1, l2, l3, l4, r0, r1, r2, r3, r4, l5, lp⟩ := id hl
  have rp := hr.1
  have hBl := hB.1
  have hal := ats_len B
  have cnt_ : ∀ (I2 : Nat → Nat → Int32) (m : Nat) (o : Option Nat), m ≤ 104 → I2 l 6 = nI m → I2 l 7 = oI o → (∀ j, o = some j → j < 104) → I2 l 5 = bI (msg B) → (∀ I', I' = am_u I2 l 9 (nI (match o with | none => m | some j => min m (j + 1))) → Q (some (.int (bI (msg B)))) (sh, I', L, R)) → am_V 35 am_c35 (d + 2) sh Q 55 [some (.ref l)] [] (sh, I2, L, R) := by
    intro I2 m o hm h6 h7 ho h5 hc
    cases o with
    | none =>
      refine wp_aload (k := 55) rfl rfl ?_
      refine wp_aload (k := 56) rfl rfl ?_
      refine w_gi (k := 57) (s := 7) rfl rfl (by first | assumption | rfl) h7 ?_
      refine w_ic (k := 58) (x := (-1)) rfl (by decide) ?_
      refine w_c_ne (k := 59) (t' := 63) rfl rfl (fun zq => absurd rfl zq) (fun zq => ?_)
      refine wp_aload (k := 60) rfl rfl ?_
      refine w_gi (k := 61) (s := 6) rfl rfl (by first | assumption | rfl) (by first | assumption | rfl) ?_
      refine w_goto (k := 62) (t' := 70) rfl rfl ?_
      refine w_pi (k := 70) (s := 9) rfl rfl (by first | assumption | rfl) ?_
      refine wp_aload (k := 71) rfl rfl ?_
      refine w_gi (k := 72) (s := 5) rfl rfl (by first | assumption | rfl) (am_uw (by decide) h5) ?_
      refine w_rz (k := 73) rfl rfl rfl ?_
      exact hc _ rfl
    | some j =>
      have hj := ho j rfl
      refine wp_aload (k := 55) rfl rfl ?_
      refine wp_aload (k := 56) rfl rfl ?_
      refine w_gi (k := 57) (s := 7) rfl rfl (by first | assumption | rfl) h7 ?_
      refine w_ic (k := 58) (x := (-1)) rfl (by decide) ?_
      refine w_c_ne (k := 59) (t' := 63) rfl rfl (fun zq => ?_) (fun zq => absurd zq (nI_ne1 (by omega)))
      refine wp_aload (k := 63) rfl rfl ?_
      refine w_gi (k := 64) (s := 6) rfl rfl (by first | assumption | rfl) (by first | assumption | rfl) ?_
      refine wp_aload (k := 65) rfl rfl ?_
      refine w_gi (k := 66) (s := 7) rfl rfl (by first | assumption | rfl) h7 ?_
      refine w_ic (k := 67) (x := nI 1) rfl (oi_nI 1) ?_
      refine w_addN (k := 68) rfl ?_
      refine wp_mm1 (k := 69) rfl (Nat.le_of_ble_eq_true rfl) ?_
      have e : (if nI (j + 1) < nI m then nI (j + 1) else nI m) = nI (min m (j + 1)) := by
        by_cases c : j + 1 < m
        · rw [if_pos (nI_lt c (by omega)), Nat.min_eq_right (by omega)]
        · rw [if_neg (nI_nlt (by omega) (by omega)), Nat.min_eq_left (by omega)]
      rw [e]
      refine w_pi (k := 70) (s := 9) rfl rfl (by first | assumption | rfl) ?_
      refine wp_aload (k := 71) rfl rfl ?_
      refine w_gi (k := 72) (s := 5) rfl rfl (by first | assumption | rfl) (am_uw (by decide) h5) ?_
      refine w_rz (k := 73) rfl rfl rfl ?_
      exact hc _ rfl
  have bad : ∀ (I1 : Nat → Nat → Int32) (o : Option Nat), msg B = false → I1 l 7 = oI o → (∀ j, o = some j → j < 104) → (∀ x, x < l ∨ l + 4 < x → I1 x = I x) → am_V 35 am_c35 (d + 2) sh Q 47 [some (.ref l)] [.ref l] (sh, I1, L, R) := by
    intro I1 o hm h7 ho f1
    refine w_ic (k := 47) (x := bI false) rfl rfl ?_
    refine w_pz (k := 48) (s := 5) rfl rfl (by first | assumption | rfl) (bI_01 _) ?_
    refine wp_aload (k := 49) rfl rfl ?_
    refine w_gi (k := 50) (s := 5) rfl rfl (by first | assumption | rfl) am_us ?_
    refine w_b_ne (k := 51) (t' := 55) rfl rfl (fun zq => absurd (zq.symm.trans rfl) (by decide)) (fun zq => ?_)
    refine wp_aload (k := 52) rfl rfl ?_
    refine w_ic (k := 53) (x := nI 0) rfl (oi_nI 0) ?_
    refine w_pi (k := 54) (s := 6) rfl rfl (by first | assumption | rfl) ?_
    refine cnt_ _ 0 o (by decide) am_us (by rw [am_uw (by decide) rfl, am_uw (by decide) rfl]; exact h7) ho (by rw [am_uw (by decide) rfl, am_us, hm]) (fun I' e => ?_)
    subst e
    refine hq _ ⟨?_, ?_, ?_, fun h => by rw [hm] at h; cases h⟩ (fun x hx => by rw [am_uR (by omega), am_uR (by omega), am_uR (by omega), f1 x hx])
    · rw [am_uw (by decide) rfl, am_uw (by decide) rfl, am_us, hm]
    · rw [am_uw (by decide) rfl, am_us, if_neg (by rw [hm]; decide)]
    · rw [am_us, if_neg (by rw [hm]; decide)]
      cases o with
      | none => rfl
      | some j => simp
  refine am_enter (ls := [some _]) (cs := am_c35) rfl rfl (Nat.le_of_ble_eq_true rfl) rfl ?_
  refine wp_aload (k := 0) rfl rfl ?_
  refine w_ic (k := 1) (x := nI 0) rfl (oi_nI 0) ?_
  refine w_pi (k := 2) (s := 6) rfl rfl (by first | assumption | rfl) ?_
  refine wp_aload (k := 3) rfl rfl ?_
  refine w_ic (k := 4) (x := (-1)) rfl (by decide) ?_
  refine w_pi (k := 5) (s := 7) rfl rfl (by first | assumption | rfl) ?_
  refine wp_aload (k := 6) rfl rfl ?_
  refine w_ic (k := 7) (x := (-1)) rfl (by decide) ?_
  refine w_pi (k := 8) (s := 8) rfl rfl (by first | assumption | rfl) ?_
  generalize hI0 : am_u (am_u (am_u I l 6 (nI 0)) l 7 (-1)) l 8 (-1) = I0
  have f0 : ∀ x, x ≠ l → I0 x = I x := fun x hx => by rw [← hI0, am_uR hx, am_uR hx, am_uR hx]
  have z6 : I0 l 6 = nI 0 := by rw [← hI0]; exact am_uw (by decide) (am_uw (by decide) am_us)
  have z7 : I0 l 7 = -1 := by rw [← hI0]; exact am_uw (by decide) am_us
  have z8 : I0 l 8 = -1 := by rw [← hI0]; exact am_us
  have hB0 : rw_B I0 p b n B := rw_keep hB (f0 p (by omega)) (f0 b (by omega))
  have no : hdk B = false → am_V 35 am_c35 (d + 2) sh Q 47 [some (.ref l)] [.ref l] (sh, I0, L, R) := fun h => bad I0 none (by unfold msg; rw [h]; rfl) z7 (fun j hj => by cases hj) (fun x hx => f0 x (by omega))
  refine wp_aload (k := 9) rfl rfl ?_
  refine wp_aload (k := 10) rfl rfl ?_
  refine w_gr (k := 11) (s := 0) rfl rfl (by first | assumption | rfl) (by first | assumption | rfl) ?_
  refine w_Vi (k := 12) [] rfl rfl rfl (Nat.le_of_ble_eq_true rfl) (by first | assumption | rfl) (Or.inl ⟨rfl, rfl⟩) ?_
  refine (c_82 hr hB0 ?_)
  refine ⟨_, rfl, ?_⟩
  refine w_ic (k := 13) (x := nI 20) rfl (oi_nI 20) ?_
  refine w_n_lt (k := 14) (t' := 47) rfl rfl (by omega) (fun c1 => ?_) (fun c1 => ?_)
  · exact no (decide_eq_false (fun z => absurd z.1 (by omega)))
  · have hg0 := gd_lt hB.2.2.2 0
    refine wp_aload (k := 15) rfl rfl ?_
    refine w_gr (k := 16) (s := 0) rfl rfl (by first | assumption | rfl) (by first | assumption | rfl) ?_
    refine w_ic (k := 17) (x := nI 0) rfl (oi_nI 0) ?_
    refine w_Vi (k := 18) [_] rfl rfl rfl (Nat.le_of_ble_eq_true rfl) (by first | assumption | rfl) (Or.inl ⟨rfl, rfl⟩) ?_
    refine (c_84 hr hB0 ?_)
    refine ⟨_, rfl, ?_⟩
    rw [byA_n (by omega) (by omega)]
    refine w_ic (k := 19) (x := nI 64) rfl (oi_nI 64) ?_
    refine w_n_ge (k := 20) (t' := 47) rfl rfl (by omega) (fun c2 => ?_) (fun c2 => ?_)
    · exact no (decide_eq_false (fun z => absurd z.2.1 (by omega)))
    · have hb22 := nb_lt hB.2.2.2 2 2
      have hb44 := nb_lt hB.2.2.2 4 4
      refine wp_aload (k := 21) rfl rfl ?_
      refine w_gr (k := 22) (s := 0) rfl rfl (by first | assumption | rfl) (by first | assumption | rfl) ?_
      refine w_ic (k := 23) (x := nI 2) rfl (oi_nI 2) ?_
      refine w_ic (k := 24) (x := nI 2) rfl (oi_nI 2) ?_
      refine w_Vl (k := 25) [_, _] rfl rfl rfl (Nat.le_of_ble_eq_true rfl) (by first | assumption | rfl) (Or.inl ⟨rfl, rfl⟩) ?_
      refine (c_90 hr hB0 (by decide) ?_)
      refine ⟨_, rfl, ?_⟩
      refine wp_aload (k := 26) rfl rfl ?_
      refine w_gr (k := 27) (s := 0) rfl rfl (by first | assumption | rfl) (by first | assumption | rfl) ?_
      refine w_Vi (k := 28) [] rfl rfl rfl (Nat.le_of_ble_eq_true rfl) (by first | assumption | rfl) (Or.inl ⟨rfl, rfl⟩) ?_
      refine (c_82 hr hB0 ?_)
      refine ⟨_, rfl, ?_⟩
      refine w_ic (k := 29) (x := nI 20) rfl (oi_nI 20) ?_
      refine w_subN (k := 30) rfl (by omega) ?_
      refine wp_i2l (k := 31) rfl ?_
      rw [nI_l (by omega)]
      refine w_L_ne (k := 32) (t' := 47) rfl rfl rfl (fun c3 => ?_) (fun c3 => ?_)
      · exact no (decide_eq_false (fun z => c3 (by rw [z.2.2.1])))
      · have c3 := (pk_lEQ (by omega) (by omega)).mp c3
        refine wp_aload (k := 34) rfl rfl ?_
        refine w_gr (k := 35) (s := 0) rfl rfl (by first | assumption | rfl) (by first | assumption | rfl) ?_
        refine w_ic (k := 36) (x := nI 4) rfl (oi_nI 4) ?_
        refine w_ic (k := 37) (x := nI 4) rfl (oi_nI 4) ?_
        refine w_Vl (k := 38) [_, _] rfl rfl rfl (Nat.le_of_ble_eq_true rfl) (by first | assumption | rfl) (Or.inl ⟨rfl, rfl⟩) ?_
        refine (c_90 hr hB0 (by decide) ?_)
        refine ⟨_, rfl, ?_⟩
        refine w_lc (k := 39) (x := lN 554869826) rfl (ol_lN 554869826) ?_
        refine w_L_ne (k := 40) (t' := 47) rfl rfl rfl (fun c4 => ?_) (fun c4 => ?_)
        · exact no (decide_eq_false (fun z => c4 (by rw [z.2.2.2])))
        · have c4 := (pk_lEQ (by omega) (by omega)).mp c4
          have hk : hdk B = true := decide_eq_true ⟨c1, c2, c3, c4⟩
          refine wp_aload (k := 42) rfl rfl ?_
          refine w_Vi (k := 43) [] rfl rfl rfl (Nat.le_of_ble_eq_true rfl) (by first | assumption | rfl) (Or.inl ⟨rfl, rfl⟩) ?_
          refine (c_36 hl hr hB0 hb hn z6 z7 z8 (fun I1 y6 y7 y8 ya f1 s1 => ⟨_, rfl, ?_⟩))
          have f1' : ∀ x, x < l ∨ l + 4 < x → I1 x = I x := fun x hx => by rw [f1 x hx, f0 x (by omega)]
          refine w_b_eq (k := 44) (t' := 47) rfl rfl (fun c5 => ?_) (fun c5 => ?_)
          · exact bad I1 (fin_ B (ats B)) (by unfold msg; rw [c5]; simp) y7 (fun j hj => Nat.lt_of_lt_of_le (fin_lt hj) hal) f1'
          · have hm : msg B = true := by unfold msg; rw [hk, c5]; rfl
            refine w_ic (k := 45) (x := bI true) rfl rfl ?_
            refine w_goto (k := 46) (t' := 48) rfl rfl ?_
            refine w_pz (k := 48) (s := 5) rfl rfl (by first | assumption | rfl) (bI_01 _) ?_
            refine wp_aload (k := 49) rfl rfl ?_
            refine w_gi (k := 50) (s := 5) rfl rfl (by first | assumption | rfl) am_us ?_
            refine w_b_ne (k := 51) (t' := 55) rfl rfl (fun zq => ?_) (fun zq => absurd (zq.symm.trans rfl) (by decide))
            refine cnt_ _ (ats B).length (fin_ B (ats B)) hal (by rw [am_uw (by decide) rfl]; exact y6) (by rw [am_uw (by decide) rfl]; exact y7) (fun j hj => Nat.lt_of_lt_of_le (fin_lt hj) hal) (by rw [am_us, hm]) (fun I' e => ?_)
            subst e
            refine hq _ ⟨?_, ?_, ?_, fun _ => ⟨?_, ?_, fun i hi => ?_⟩⟩ (fun x hx => by rw [am_uR (by omega), am_uR (by omega), f1' x hx])
            · rw [am_uw (by decide) rfl, am_us, hm]
            · rw [am_uw (by decide) rfl, am_uw (by decide) rfl, if_pos hm]; exact y6
            · rw [am_us, if_pos hm]
              unfold cng
              cases hf : fin_ B (ats B) with
              | none => rfl
              | some j =>
                have := fin_lt hf
                show nI (min _ _) = nI (j + 1)
                rw [Nat.min_eq_right (by omega)]
            · rw [am_uw (by decide) rfl, am_uw (by decide) rfl]; exact y7
            · rw [am_uw (by decide) rfl, am_uw (by decide) rfl]; exact y8
            · have := ya i hi
              unfold hat at this ⊢
              rw [am_uR (by omega), am_uR (by omega), am_uR (by omega), am_uR (by omega), am_uR (by omega), am_uR (by omega), am_uR (by omega), am_uR (by omega)]
              exact this
/-- the attributes that count -/
def cts (B : List Nat) : List AT := (ats B).take (cng B)
def fnd (B : List Nat) (k : Nat) : Option Nat := ff (fun i => decide (((ats B).getD i a0).1 = k) && snd_ B ((ats B).getD i a0)) 0 (cng B)
theorem fnd_lt {k i : Nat} (h : fnd B k = some i) : i < cng B ∧ i < (ats B).length ∧ ((ats B).getD i a0).1 = k ∧ snd_ B ((ats B).getD i a0) = true := by
  obtain ⟨-, h2, h3, -⟩ := ff_some h
  have := cng_le B
  rw [Bool.and_eq_true] at h3
  exact ⟨by omega, by omega, of_decide_eq_true h3.1, h3.2⟩
theorem ats_at (hB : ∀ c ∈ B, c < 256) {i : Nat} (hi : i < (ats B).length) : ((ats B).getD i a0).1 < 65536 ∧ ((ats B).getD i a0).2.1 < 65536 ∧ 24 ≤ ((ats B).getD i a0).2.2 ∧ ((ats B).getD i a0).2.2 ≤ B.length := ps_mem hB 104 20 _ (gD_mem hi)
theorem c_38 (hl : lq sh R l p) (hB : ∀ c ∈ B, c < 256) (h : lr_ I l B) (hm : msg B = true) {k : Nat} (hk : k < 65536) (hq : Q (some (.int (oI (fnd B k)))) (sh, I, L, R)) : am_call (d + 1) 38 [.ref l, .int (nI k)] (sh, I, L, R) Q := by
  obtain ⟨l0, l1, l2, l3, l4, r0, r1, r2, r3, r4, l5, lp⟩ := hl
  obtain ⟨h1, h2, h3, h4⟩ := h
  obtain ⟨-, -, ha⟩ := h4 hm
  rw [if_pos hm] at h3
  have hc := cng_le B
  have hal := ats_len B
  have loop : ∀ (r i : Nat), i + r = cng B → fnd B k = ff (fun i => decide (((ats B).getD i a0).1 = k) && snd_ B ((ats B).getD i a0)) i r → am_V 38 am_c38 d sh Q 2 [some (.ref l), some (.int (nI k)), some (.int (nI i))] [] (sh, I, L, R) := by
    intro r
    induction r with
    | zero =>
      intro i hi e
      refine wp_iload (k := 2) rfl rfl ?_
      refine wp_aload (k := 3) rfl rfl ?_
      refine w_gi (k := 4) (s := 9) rfl rfl (by first | assumption | rfl) h3 ?_
      refine w_n_ge (k := 5) (t' := 21) rfl rfl (by omega) (fun zq => ?_) (fun zq => absurd zq (by omega))
      refine w_ic (k := 21) (x := (-1)) rfl (by decide) ?_
      refine w_ri (k := 22) rfl rfl rfl rfl ?_
      rw [e] at hq
      exact hq
    | succ r ih =>
      intro i hi e
      obtain ⟨v1, v2, v3, v4⟩ := ha i (by omega)
      have hb := (ats_at hB (show i < (ats B).length by omega)).1
      rw [ff] at e
      refine wp_iload (k := 2) rfl rfl ?_
      refine wp_aload (k := 3) rfl rfl ?_
      refine w_gi (k := 4) (s := 9) rfl rfl (by first | assumption | rfl) h3 ?_
      refine w_n_ge (k := 5) (t' := 21) rfl rfl (by omega) (fun zq => absurd zq (by omega)) (fun zq => ?_)
      refine wp_aload (k := 6) rfl rfl ?_
      refine w_gr (k := 7) (s := 1) rfl rfl (by first | assumption | rfl) (by first | assumption | rfl) ?_
      refine wp_iload (k := 8) rfl rfl ?_
      refine w_iald (k := 9) rfl rfl (by first | assumption | rfl) (by omega) v1 ?_
      refine wp_iload (k := 10) rfl rfl ?_
      refine w_n_ne (k := 11) (t' := 19) rfl rfl (by omega) (fun c => ?_) (fun c => ?_)
      · rw [if_neg (by rw [decide_eq_false c]; simp)] at e
        refine w_incN (k := 19) (m := 1) rfl (oi_nI 1) rfl ?_
        refine w_goto (k := 20) (t' := 2) rfl rfl ?_
        exact ih (i + 1) (by omega) e
      · refine wp_aload (k := 12) rfl rfl ?_
        refine w_gr (k := 13) (s := 4) rfl rfl (by first | assumption | rfl) (by first | assumption | rfl) ?_
        refine wp_iload (k := 14) rfl rfl ?_
        refine w_cald (k := 15) rfl rfl (by first | assumption | rfl) (by omega) v4 ?_
        refine w_b_eq (k := 16) (t' := 19) rfl rfl (fun c2 => ?_) (fun c2 => ?_)
        · rw [if_neg (by rw [c2]; simp)] at e
          refine w_incN (k := 19) (m := 1) rfl (oi_nI 1) rfl ?_
          refine w_goto (k := 20) (t' := 2) rfl rfl ?_
          exact ih (i + 1) (by omega) e
        · rw [if_pos (by rw [c2, decide_eq_true c]; rfl)] at e
          refine wp_iload (k := 17) rfl rfl ?_
          refine w_ri (k := 18) rfl rfl rfl rfl ?_
          rw [e] at hq
          exact hq
  refine am_enter (ls := [some _, some _, none]) (cs := am_c38) rfl rfl (Nat.le_of_ble_eq_true rfl) rfl ?_
  refine w_ic (k := 0) (x := nI 0) rfl (oi_nI 0) ?_
  refine wp_istore (k := 1) rfl rfl ?_
  exact loop _ 0 (Nat.zero_add _) rfl
theorem c_43 (hl : lq sh R l p) (h : lr_ I l B) (hm : msg B = true) {i : Nat} (hi : i < (ats B).length) (hq : Q (some (.int (nI ((ats B).getD i a0).2.1))) (sh, I, L, R)) : am_call (d + 1) 43 [.ref l, .int (nI i)] (sh, I, L, R) Q := by
  obtain ⟨l0, l1, l2, l3, l4, r0, r1, r2, r3, r4, l5, lp⟩ := hl
  obtain ⟨h1, h2, h3, h4⟩ := h
  obtain ⟨-, -, ha⟩ := h4 hm
  rw [if_pos hm] at h2
  have hal := ats_len B
  obtain ⟨v1, v2, v3, v4⟩ := ha i hi
  refine am_enter (ls := [some _, some _]) (cs := am_c43) rfl rfl (Nat.le_of_ble_eq_true rfl) rfl ?_
  refine wp_iload (k := 0) rfl rfl ?_
  refine w_m_lt (k := 1) (t' := 11) rfl rfl (by omega) (fun zq => absurd zq (by omega)) (fun zq => ?_)
  refine wp_iload (k := 2) rfl rfl ?_
  refine wp_aload (k := 3) rfl rfl ?_
  refine w_gi (k := 4) (s := 6) rfl rfl (by first | assumption | rfl) h2 ?_
  refine w_n_ge (k := 5) (t' := 11) rfl rfl (by omega) (fun zq => absurd zq (by omega)) (fun zq => ?_)
  refine wp_aload (k := 6) rfl rfl ?_
  refine w_gr (k := 7) (s := 2) rfl rfl (by first | assumption | rfl) (by first | assumption | rfl) ?_
  refine wp_iload (k := 8) rfl rfl ?_
  refine w_iald (k := 9) rfl rfl (by first | assumption | rfl) (by omega) v2 ?_
  refine w_goto (k := 10) (t' := 12) rfl rfl ?_
  refine w_ri (k := 12) rfl rfl rfl rfl ?_
  exact hq
theorem c_44 (hl : lq sh R l p) (h : lr_ I l B) (hm : msg B = true) {i : Nat} (hi : i < (ats B).length) (hq : Q (some (.int (nI ((ats B).getD i a0).2.2))) (sh, I, L, R)) : am_call (d + 1) 44 [.ref l, .int (nI i)] (sh, I, L, R) Q := by
  obtain ⟨l0, l1, l2, l3, l4, r0, r1, r2, r3, r4, l5, lp⟩ := hl
  obtain ⟨h1, h2, h3, h4⟩ := h
  obtain ⟨-, -, ha⟩ := h4 hm
  rw [if_pos hm] at h2
  have hal := ats_len B
  obtain ⟨v1, v2, v3, v4⟩ := ha i hi
  refine am_enter (ls := [some _, some _]) (cs := am_c44) rfl rfl (Nat.le_of_ble_eq_true rfl) rfl ?_
  refine wp_iload (k := 0) rfl rfl ?_
  refine w_m_lt (k := 1) (t' := 11) rfl rfl (by omega) (fun zq => absurd zq (by omega)) (fun zq => ?_)
  refine wp_iload (k := 2) rfl rfl ?_
  refine wp_aload (k := 3) rfl rfl ?_
  refine w_gi (k := 4) (s := 6) rfl rfl (by first | assumption | rfl) h2 ?_
  refine w_n_ge (k := 5) (t' := 11) rfl rfl (by omega) (fun zq => absurd zq (by omega)) (fun zq => ?_)
  refine wp_aload (k := 6) rfl rfl ?_
  refine w_gr (k := 7) (s := 3) rfl rfl (by first | assumption | rfl) (by first | assumption | rfl) ?_
  refine wp_iload (k := 8) rfl rfl ?_
  refine w_iald (k := 9) rfl rfl (by first | assumption | rfl) (by omega) v3 ?_
  refine w_goto (k := 10) (t' := 12) rfl rfl ?_
  refine w_ri (k := 12) rfl rfl rfl rfl ?_
  exact hq
/-- the values of an attribute -/
def vlo (B : List Nat) (i : Nat) : Nat := nb B ((ats B).getD i a0).2.2 (min 8 ((ats B).getD i a0).2.1)
def ipo (B : List Nat) (i : Nat) : Int32 := nI (nb B (((ats B).getD i a0).2.2 + 4) 4) ^^^ nI 554869826
def poo (B : List Nat) (i : Nat) : Int32 := nI (nb B (((ats B).getD i a0).2.2 + 2) 2) ^^^ nI 8466
theorem c_45 (hl : lq sh R l p) (hr : rw_at sh R p b n) (hB : rw_B I p b n B) (h : lr_ I l B) (hm : msg B = true) {i : Nat} (hi : i < (ats B).length) (hq : Q (some (.long (lN (vlo B i)))) (sh, I, L, R)) : am_call (d + 2) 45 [.ref l, .int (nI i)] (sh, I, L, R) Q := by
  obtain ⟨l0, l1, l2, l3, l4, r0, r1, r2, r3, r4, l5, lp⟩ := id hl
  have rp := hr.1
  have hn := hr.2.2.2.2
  have hBl := hB.1
  have hat := ats_at hB.2.2.2 hi
  refine am_enter (ls := [some _, some _]) (cs := am_c45) rfl rfl (Nat.le_of_ble_eq_true rfl) rfl ?_
  refine wp_aload (k := 0) rfl rfl ?_
  refine w_gr (k := 1) (s := 0) rfl rfl (by first | assumption | rfl) (by first | assumption | rfl) ?_
  refine wp_aload (k := 2) rfl rfl ?_
  refine wp_iload (k := 3) rfl rfl ?_
  refine w_Vi (k := 4) [_] rfl rfl rfl (Nat.le_of_ble_eq_true rfl) (by first | assumption | rfl) (Or.inl ⟨rfl, rfl⟩) ?_
  refine (c_44 hl h hm hi ?_)
  refine ⟨_, rfl, ?_⟩
  refine w_ic (k := 5) (x := nI 8) rfl (oi_nI 8) ?_
  refine wp_aload (k := 6) rfl rfl ?_
  refine wp_iload (k := 7) rfl rfl ?_
  refine w_Vi (k := 8) [_] rfl rfl rfl (Nat.le_of_ble_eq_true rfl) (by first | assumption | rfl) (Or.inl ⟨rfl, rfl⟩) ?_
  refine (c_43 hl h hm hi ?_)
  refine ⟨_, rfl, ?_⟩
  refine wp_mm1 (k := 9) rfl (Nat.le_of_ble_eq_true rfl) ?_
  have e : (if nI ((ats B).getD i a0).2.1 < nI 8 then nI ((ats B).getD i a0).2.1 else nI 8) = nI (min 8 ((ats B).getD i a0).2.1) := by
    by_cases c : ((ats B).getD i a0).2.1 < 8
    · rw [if_pos (nI_lt c (by omega)), Nat.min_eq_right (by omega)]
    · rw [if_neg (nI_nlt (by omega) (by omega)), Nat.min_eq_left (by omega)]
  rw [e]
  refine w_Vl (k := 10) [_, _] rfl rfl rfl (Nat.le_of_ble_eq_true rfl) (by first | assumption | rfl) (Or.inl ⟨rfl, rfl⟩) ?_
  refine (c_90 hr hB (by omega) ?_)
  refine ⟨_, rfl, ?_⟩
  refine w_rl (k := 11) rfl rfl rfl rfl ?_
  exact hq
theorem c_46 (hl : lq sh R l p) (hr : rw_at sh R p b n) (hB : rw_B I p b n B) (h : lr_ I l B) (hm : msg B = true) {i : Nat} (hi : i < (ats B).length) (hq : Q (some (.int (ipo B i))) (sh, I, L, R)) : am_call (d + 2) 46 [.ref l, .int (nI i)] (sh, I, L, R) Q := by
  obtain ⟨l0, l1, l2, l3, l4, r0, r1, r2, r3, r4, l5, lp⟩ := id hl
  have rp := hr.1
  have hn := hr.2.2.2.2
  have hBl := hB.1
  have hat := ats_at hB.2.2.2 hi
  refine am_enter (ls := [some _, some _]) (cs := am_c46) rfl rfl (Nat.le_of_ble_eq_true rfl) rfl ?_
  refine wp_aload (k := 0) rfl rfl ?_
  refine w_gr (k := 1) (s := 0) rfl rfl (by first | assumption | rfl) (by first | assumption | rfl) ?_
  refine wp_aload (k := 2) rfl rfl ?_
  refine wp_iload (k := 3) rfl rfl ?_
  refine w_Vi (k := 4) [_] rfl rfl rfl (Nat.le_of_ble_eq_true rfl) (by first | assumption | rfl) (Or.inl ⟨rfl, rfl⟩) ?_
  refine (c_44 hl h hm hi ?_)
  refine ⟨_, rfl, ?_⟩
  refine w_ic (k := 5) (x := nI 4) rfl (oi_nI 4) ?_
  refine w_addN (k := 6) rfl ?_
  refine w_ic (k := 7) (x := nI 4) rfl (oi_nI 4) ?_
  refine w_Vl (k := 8) [_, _] rfl rfl rfl (Nat.le_of_ble_eq_true rfl) (by first | assumption | rfl) (Or.inl ⟨rfl, rfl⟩) ?_
  refine (c_90 hr hB (by omega) ?_)
  refine ⟨_, rfl, ?_⟩
  refine wp_l2i (k := 9) rfl ?_
  rw [lN_i]
  refine w_ic (k := 10) (x := nI 554869826) rfl (oi_nI 554869826) ?_
  refine wp_ixor (k := 11) rfl ?_
  refine w_ri (k := 12) rfl rfl rfl rfl ?_
  exact hq
theorem c_47 (hl : lq sh R l p) (hr : rw_at sh R p b n) (hB : rw_B I p b n B) (h : lr_ I l B) (hm : msg B = true) {i : Nat} (hi : i < (ats B).length) (hq : Q (some (.int (poo B i))) (sh, I, L, R)) : am_call (d + 2) 47 [.ref l, .int (nI i)] (sh, I, L, R) Q := by
  obtain ⟨l0, l1, l2, l3, l4, r0, r1, r2, r3, r4, l5, lp⟩ := id hl
  have rp := hr.1
  have hn := hr.2.2.2.2
  have hBl := hB.1
  have hat := ats_at hB.2.2.2 hi
  refine am_enter (ls := [some _, some _]) (cs := am_c47) rfl rfl (Nat.le_of_ble_eq_true rfl) rfl ?_
  refine wp_aload (k := 0) rfl rfl ?_
  refine w_gr (k := 1) (s := 0) rfl rfl (by first | assumption | rfl) (by first | assumption | rfl) ?_
  refine wp_aload (k := 2) rfl rfl ?_
  refine wp_iload (k := 3) rfl rfl ?_
  refine w_Vi (k := 4) [_] rfl rfl rfl (Nat.le_of_ble_eq_true rfl) (by first | assumption | rfl) (Or.inl ⟨rfl, rfl⟩) ?_
  refine (c_44 hl h hm hi ?_)
  refine ⟨_, rfl, ?_⟩
  refine w_ic (k := 5) (x := nI 2) rfl (oi_nI 2) ?_
  refine w_addN (k := 6) rfl ?_
  refine w_ic (k := 7) (x := nI 2) rfl (oi_nI 2) ?_
  refine w_Vl (k := 8) [_, _] rfl rfl rfl (Nat.le_of_ble_eq_true rfl) (by first | assumption | rfl) (Or.inl ⟨rfl, rfl⟩) ?_
  refine (c_90 hr hB (by omega) ?_)
  refine ⟨_, rfl, ?_⟩
  refine wp_l2i (k := 9) rfl ?_
  rw [lN_i]
  refine w_ic (k := 10) (x := nI 8466) rfl (oi_nI 8466) ?_
  refine wp_ixor (k := 11) rfl ?_
  refine w_ri (k := 12) rfl rfl rfl rfl ?_
  exact hq
/-- method and rank, out of the type -/
def mth (ty : Nat) : Int32 := (nI ty &&& nI 15) ||| (nI ty >>> (nI 1 &&& 31) &&& nI 112) ||| (nI ty >>> (nI 2 &&& 31) &&& nI 3968)
def rnk (ty : Nat) : Int32 := (nI ty >>> (nI 4 &&& 31) &&& nI 1) ||| (nI ty >>> (nI 7 &&& 31) &&& nI 2)
theorem c_41 (hl : lq sh R l p) (hr : rw_at sh R p b n) (hB : rw_B I p b n B) (hq : Q (some (.int (mth (nb B 0 2)))) (sh, I, L, R)) : am_call (d + 2) 41 [.ref l] (sh, I, L, R) Q := by
  obtain ⟨l0, l1, l2, l3, l4, r0, r1, r2, r3, r4, l5, lp⟩ := id hl
  have rp := hr.1
  refine am_enter (ls := [some _, none]) (cs := am_c41) rfl rfl (Nat.le_of_ble_eq_true rfl) rfl ?_
  refine wp_aload (k := 0) rfl rfl ?_
  refine w_gr (k := 1) (s := 0) rfl rfl (by first | assumption | rfl) (by first | assumption | rfl) ?_
  refine w_ic (k := 2) (x := nI 0) rfl (oi_nI 0) ?_
  refine w_ic (k := 3) (x := nI 2) rfl (oi_nI 2) ?_
  refine w_Vl (k := 4) [_, _] rfl rfl rfl (Nat.le_of_ble_eq_true rfl) (by first | assumption | rfl) (Or.inl ⟨rfl, rfl⟩) ?_
  refine (c_90 hr hB (by decide) ?_)
  refine ⟨_, rfl, ?_⟩
  refine wp_l2i (k := 5) rfl ?_
  rw [lN_i]
  refine wp_istore (k := 6) rfl rfl ?_
  refine wp_iload (k := 7) rfl rfl ?_
  refine w_ic (k := 8) (x := nI 15) rfl (oi_nI 15) ?_
  refine wp_iand (k := 9) rfl ?_
  refine wp_iload (k := 10) rfl rfl ?_
  refine w_ic (k := 11) (x := nI 1) rfl (oi_nI 1) ?_
  refine wp_ishr (k := 12) rfl ?_
  refine w_ic (k := 13) (x := nI 112) rfl (oi_nI 112) ?_
  refine wp_iand (k := 14) rfl ?_
  refine wp_ior (k := 15) rfl ?_
  refine wp_iload (k := 16) rfl rfl ?_
  refine w_ic (k := 17) (x := nI 2) rfl (oi_nI 2) ?_
  refine wp_ishr (k := 18) rfl ?_
  refine w_ic (k := 19) (x := nI 3968) rfl (oi_nI 3968) ?_
  refine wp_iand (k := 20) rfl ?_
  refine wp_ior (k := 21) rfl ?_
  refine w_ri (k := 22) rfl rfl rfl rfl ?_
  exact hq
theorem c_42 (hl : lq sh R l p) (hr : rw_at sh R p b n) (hB : rw_B I p b n B) (hq : Q (some (.int (rnk (nb B 0 2)))) (sh, I, L, R)) : am_call (d + 2) 42 [.ref l] (sh, I, L, R) Q := by
  obtain ⟨l0, l1, l2, l3, l4, r0, r1, r2, r3, r4, l5, lp⟩ := id hl
  have rp := hr.1
  refine am_enter (ls := [some _, none]) (cs := am_c42) rfl rfl (Nat.le_of_ble_eq_true rfl) rfl ?_
  refine wp_aload (k := 0) rfl rfl ?_
  refine w_gr (k := 1) (s := 0) rfl rfl (by first | assumption | rfl) (by first | assumption | rfl) ?_
  refine w_ic (k := 2) (x := nI 0) rfl (oi_nI 0) ?_
  refine w_ic (k := 3) (x := nI 2) rfl (oi_nI 2) ?_
  refine w_Vl (k := 4) [_, _] rfl rfl rfl (Nat.le_of_ble_eq_true rfl) (by first | assumption | rfl) (Or.inl ⟨rfl, rfl⟩) ?_
  refine (c_90 hr hB (by decide) ?_)
  refine ⟨_, rfl, ?_⟩
  refine wp_l2i (k := 5) rfl ?_
  rw [lN_i]
  refine wp_istore (k := 6) rfl rfl ?_
  refine wp_iload (k := 7) rfl rfl ?_
  refine w_ic (k := 8) (x := nI 4) rfl (oi_nI 4) ?_
  refine wp_ishr (k := 9) rfl ?_
  refine w_ic (k := 10) (x := nI 1) rfl (oi_nI 1) ?_
  refine wp_iand (k := 11) rfl ?_
  refine wp_iload (k := 12) rfl rfl ?_
  refine w_ic (k := 13) (x := nI 7) rfl (oi_nI 7) ?_
  refine wp_ishr (k := 14) rfl ?_
  refine w_ic (k := 15) (x := nI 2) rfl (oi_nI 2) ?_
  refine wp_iand (k := 16) rfl ?_
  refine wp_ior (k := 17) rfl ?_
  refine w_ri (k := 18) rfl rfl rfl rfl ?_
  exact hq
theorem c_48 (hl : lq sh R l p) (h : lr_ I l B) (hm : msg B = true) (hq : Q (some (.int (bI (fgi B (ats B)).isSome))) (sh, I, L, R)) : am_call (d + 1) 48 [.ref l] (sh, I, L, R) Q := by
  obtain ⟨l0, l1, l2, l3, l4, r0, r1, r2, r3, r4, l5, lp⟩ := hl
  obtain ⟨h1, h2, h3, h4⟩ := h
  obtain ⟨-, h8, -⟩ := h4 hm
  have hal := ats_len B
  refine am_enter (ls := [some _]) (cs := am_c48) rfl rfl (Nat.le_of_ble_eq_true rfl) rfl ?_
  cases hf : fgi B (ats B) with
  | none =>
    rw [hf] at hq h8
    refine wp_aload (k := 0) rfl rfl ?_
    refine w_gi (k := 1) (s := 8) rfl rfl (by first | assumption | rfl) h8 ?_
    refine w_ic (k := 2) (x := (-1)) rfl (by decide) ?_
    refine w_c_eq (k := 3) (t' := 6) rfl rfl (fun zq => ?_) (fun zq => absurd rfl zq)
    refine w_ic (k := 6) (x := bI false) rfl rfl ?_
    refine w_rz (k := 7) rfl rfl rfl ?_
    exact hq
  | some j =>
    have := fgi_lt hf
    rw [hf] at hq h8
    refine wp_aload (k := 0) rfl rfl ?_
    refine w_gi (k := 1) (s := 8) rfl rfl (by first | assumption | rfl) h8 ?_
    refine w_ic (k := 2) (x := (-1)) rfl (by decide) ?_
    refine w_c_eq (k := 3) (t' := 6) rfl rfl (fun zq => absurd zq (nI_ne1 (by omega))) (fun zq => ?_)
    refine w_ic (k := 4) (x := bI true) rfl rfl ?_
    refine w_goto (k := 5) (t' := 7) rfl rfl ?_
    refine w_rz (k := 7) rfl rfl rfl ?_
    exact hq
end LB
