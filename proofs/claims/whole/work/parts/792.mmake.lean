/-! ===== make of the reference ===== -/
section MM
variable {d N : Nat} {I : Nat → Nat → Int32} {L : Nat → Nat → Int64} {w : Option Nat} {Q : am_Q} {A : List Nat} {al : Nat → Option AL} {U : UR} {rl : List Nat} {fr t : Int64} {n : Int32} {F : FR} {T : Nat → Int32} {s : SN} {ip port : Int32} {sg : Option Nat}
theorem ptf_r (hok : tok al) {p : Nat} (hp : p < 2 ^ 31) (h : (ptf al (nI p)).isSome = true) : p < 49160 := by
  cases hf : ptf al (nI p) with
  | none => rw [hf] at h; cases h
  | some j =>
    obtain ⟨-, h2, h3, -⟩ := ff_some hf
    unfold isp at h3
    cases ha : al j with
    | none => rw [ha] at h3; cases h3
    | some a =>
      rw [ha] at h3
      have e := of_decide_eq_true h3
      obtain ⟨r, r1, r2, r3⟩ := (hok.1 j a (by omega) ha).2.2.2.2
      rw [r3] at e
      have := congrArg uI e
      rw [uI_nI (by omega), uI_nI (by omega)] at this
      omega
theorem fpl_no {p : Nat} (h : (ptf al (nI p)).isSome = false) : ∀ r, fpl al r p = p
  | 0 => rfl
  | r + 1 => by rw [show fpl al (r + 1) p = if (ptf al (nI p)).isSome then fpl al r (p + 1) else p from rfl, if_neg (by rw [h]; decide)]
theorem c_248 (h : CX I L A U rl fr t n F T s ip port sg) (hb : tbm I L al) (hok : tok al) {k : Nat} (hk8 : k < 8) (hq : ∀ I' L', tbm I' L' (upa al k (some ((ip, port, oI sg, nI (fpl al 8 49152)), t + lN (lfe A), idB A, [], []))) → (∀ x, x < 120 ∨ 134 < x → I' x = I x) → (∀ x, x < 120 ∨ 134 < x → L' x = L x) → Q none (am_SH N, I', L', am_RR w)) : am_call (d + 5) 248 [.ref 100, .int (nI k)] (am_SH N, I, L, am_RR w) Q := by
  obtain ⟨⟨hA, hm, hD⟩, ⟨hp, hT⟩, ⟨h65, h66, h67, hsg⟩, ⟨hk, hr, hrl⟩, ⟨hokU, hu⟩, ⟨hfr, hX⟩, ⟨hfk, hF⟩, ht, hn⟩ := h
  have h20 := msg20 hm
  have t2 := hA.2.1
  have t3 := hA.2.2
  -- the identifier, and the end
  have ids : ∀ (r i : Nat) (I3 : Nat → Nat → Int32) (L3 : Nat → Nat → Int64) (o3 : Int32), i + r = 3 → (I3 120 k = bI true ∧ I3 121 k = ip ∧ I3 122 k = port ∧ I3 123 k = oI sg ∧ I3 124 k = nI (fpl al 8 49152)) → L3 125 k = t + lN (lfe A) → (∀ j, j < i → I3 126 (3 * k + j) = nI (nb A (8 + 4 * j) 4)) → fs k I I3 → fs k L L3 → am_V 248 am_c248 (d + 4) (am_SH N) Q 80 [some (.ref 100), some (.int (nI k)), some (.int (nI (fpl al 8 49152))), some (.int o3), some (.int (nI i))] [] (am_SH N, I3, L3, am_RR w) := by
    intro r
    induction r with
    | zero =>
      intro i I3 L3 o3 hi hv hl hid f3 g3
      obtain rfl : i = 3 := by omega
      refine wp_iload (k := 80) rfl rfl ?_
      refine w_ic (k := 81) (x := nI 3) rfl (oi_nI 3) ?_
      refine w_n_ge (k := 82) (t' := 101) rfl rfl (by omega) (fun zq => ?_) (fun zq => absurd zq (by omega))
      refine wp_aload (k := 101) rfl rfl ?_
      refine w_gr (k := 102) (s := 42) rfl rfl (by first | assumption | rfl) (by first | assumption | rfl) ?_
      refine wp_iload (k := 103) rfl rfl ?_
      refine w_ic (k := 104) (x := nI 0) rfl (oi_nI 0) ?_
      refine w_iast (k := 105) rfl rfl (by omega) (by first | assumption | rfl) (by omega) ?_
      refine wp_aload (k := 106) rfl rfl ?_
      refine w_gr (k := 107) (s := 45) rfl rfl (by first | assumption | rfl) (by first | assumption | rfl) ?_
      refine wp_iload (k := 108) rfl rfl ?_
      refine w_ic (k := 109) (x := nI 0) rfl (oi_nI 0) ?_
      refine w_iast (k := 110) rfl rfl (by omega) (by first | assumption | rfl) (by omega) ?_
      refine w_rv (k := 111) rfl rfl rfl rfl ?_
      refine hq _ L3 (tbm_u (k := k) (o := some _) hb (fs_t f3 (fs_t (fs_u (so_1 (by omega))) (fs_u (so_1 (by omega))))) g3 ?_) (fun x hx => by rw [am_uR (by omega), am_uR (by omega)]; exact fs_p f3 hx) (fun x hx => fs_p g3 hx)
      obtain ⟨v1, v2, v3, v4, v5⟩ := hv
      have hk' : ∀ p q, p ≠ 127 → p ≠ 130 → am_u (am_u I3 127 k (nI 0)) 130 k (nI 0) p q = I3 p q := fun p q h1 h2 => by rw [am_uR h2, am_uR h1]
      refine ⟨by rw [hk' _ _ (by decide) (by decide)]; exact v1, by rw [hk' _ _ (by decide) (by decide)]; exact v2, by rw [hk' _ _ (by decide) (by decide)]; exact v3, by rw [hk' _ _ (by decide) (by decide)]; exact v4, by rw [hk' _ _ (by decide) (by decide)]; exact v5, hl, ⟨by rw [hk' _ _ (by decide) (by decide)]; exact hid 0 (by decide), by rw [hk' _ _ (by decide) (by decide)]; exact hid 1 (by decide), by rw [hk' _ _ (by decide) (by decide)]; exact hid 2 (by decide)⟩, ⟨by rw [am_uR (by decide), am_us]; rfl, Nat.zero_le _, fun j hj => absurd hj (Nat.not_lt_zero _)⟩, ⟨by rw [am_us]; rfl, Nat.zero_le _, fun j hj => absurd hj (Nat.not_lt_zero _)⟩⟩
    | succ r ih =>
      intro i I3 L3 o3 hi hv hl hid f3 g3
      have t23 : av I3 112 A := av_keep t2 (fs_p f3 (by omega))
      refine wp_iload (k := 80) rfl rfl ?_
      refine w_ic (k := 81) (x := nI 3) rfl (oi_nI 3) ?_
      refine w_n_ge (k := 82) (t' := 101) rfl rfl (by omega) (fun zq => absurd zq (by omega)) (fun zq => ?_)
      refine wp_aload (k := 83) rfl rfl ?_
      refine w_gr (k := 84) (s := 41) rfl rfl (by first | assumption | rfl) (by first | assumption | rfl) ?_
      refine w_ic (k := 85) (x := nI 3) rfl (oi_nI 3) ?_
      refine wp_iload (k := 86) rfl rfl ?_
      refine w_mulN (k := 87) rfl ?_
      refine wp_iload (k := 88) rfl rfl ?_
      refine w_addN (k := 89) rfl ?_
      refine wp_aload (k := 90) rfl rfl ?_
      refine w_gr (k := 91) (s := 14) rfl rfl (by first | assumption | rfl) (by first | assumption | rfl) ?_
      refine w_ic (k := 92) (x := nI 8) rfl (oi_nI 8) ?_
      refine w_ic (k := 93) (x := nI 4) rfl (oi_nI 4) ?_
      refine wp_iload (k := 94) rfl rfl ?_
      refine w_mulN (k := 95) rfl ?_
      refine w_addN (k := 96) rfl ?_
      refine w_Si (k := 97) [_, _] rfl rfl rfl (Nat.le_of_ble_eq_true rfl) (Or.inl ⟨rfl, rfl⟩) ?_
      refine (c_180 rfl (by decide) t23 (by omega) (by omega) ?_)
      refine ⟨_, rfl, ?_⟩
      refine w_iast (k := 98) rfl rfl (by omega) (by first | assumption | rfl) (by omega) ?_
      refine w_incN (k := 99) (m := 1) rfl (oi_nI 1) rfl ?_
      refine w_ls (ls2 := [some _, some _, some _, some _, some _]) rfl ?_
      refine w_goto (k := 100) (t' := 80) rfl rfl ?_
      refine ih (i + 1) _ L3 o3 (by omega) ?_ hl ?_ (fs_t f3 (fs_u (so_3 (by omega)))) g3
      · obtain ⟨v1, v2, v3, v4, v5⟩ := hv
        exact ⟨by rw [am_uR (by decide)]; exact v1, by rw [am_uR (by decide)]; exact v2, by rw [am_uR (by decide)]; exact v3, by rw [am_uR (by decide)]; exact v4, by rw [am_uR (by decide)]; exact v5⟩
      · intro j hj
        by_cases e : j = i
        · rw [e, am_us]
        · rw [am_uw (by omega) rfl]; exact hid j (by omega)
  -- the port
  have outer : ∀ (r j : Nat) (b : Bool) (o4 : Option Value), j + r = 8 → (b = true → fpl al 8 49152 = fpl al r (49152 + j)) → (b = false → fpl al 8 49152 = 49152 + j) → am_V 248 am_c248 (d + 4) (am_SH N) Q 4 [some (.ref 100), some (.int (nI k)), some (.int (nI (49152 + j))), some (.int (bI b)), o4] [] (am_SH N, I, L, am_RR w) := by
    have done : ∀ (o3 : Int32) (o4 : Option Value), am_V 248 am_c248 (d + 4) (am_SH N) Q 41 [some (.ref 100), some (.int (nI k)), some (.int (nI (fpl al 8 49152))), some (.int o3), o4] [] (am_SH N, I, L, am_RR w) := by
      intro o3 o4
      refine wp_aload (k := 41) rfl rfl ?_
      refine w_gr (k := 42) (s := 35) rfl rfl (by first | assumption | rfl) (by first | assumption | rfl) ?_
      refine wp_iload (k := 43) rfl rfl ?_
      refine w_ic (k := 44) (x := bI true) rfl rfl ?_
      refine w_cast (k := 45) rfl rfl (by first | assumption | rfl) (by omega) (nar_b true) ?_
      refine wp_aload (k := 46) rfl rfl ?_
      refine w_gr (k := 47) (s := 36) rfl rfl (by first | assumption | rfl) (by first | assumption | rfl) ?_
      refine wp_iload (k := 48) rfl rfl ?_
      refine wp_aload (k := 49) rfl rfl ?_
      refine w_gi (k := 50) (s := 65) rfl rfl (by first | assumption | rfl) (am_uv (by decide) h65) ?_
      refine w_iast (k := 51) rfl rfl (by omega) (by first | assumption | rfl) (by omega) ?_
      refine wp_aload (k := 52) rfl rfl ?_
      refine w_gr (k := 53) (s := 37) rfl rfl (by first | assumption | rfl) (by first | assumption | rfl) ?_
      refine wp_iload (k := 54) rfl rfl ?_
      refine wp_aload (k := 55) rfl rfl ?_
      refine w_gi (k := 56) (s := 66) rfl rfl (by first | assumption | rfl) (am_uv (by decide) (am_uv (by decide) h66)) ?_
      refine w_iast (k := 57) rfl rfl (by omega) (by first | assumption | rfl) (by omega) ?_
      refine wp_aload (k := 58) rfl rfl ?_
      refine w_gr (k := 59) (s := 38) rfl rfl (by first | assumption | rfl) (by first | assumption | rfl) ?_
      refine wp_iload (k := 60) rfl rfl ?_
      refine wp_aload (k := 61) rfl rfl ?_
      refine w_gi (k := 62) (s := 67) rfl rfl (by first | assumption | rfl) (am_uv (by decide) (am_uv (by decide) (am_uv (by decide) h67))) ?_
      refine w_iast (k := 63) rfl rfl (by omega) (by first | assumption | rfl) (by omega) ?_
      refine wp_aload (k := 64) rfl rfl ?_
      refine w_gr (k := 65) (s := 39) rfl rfl (by first | assumption | rfl) (by first | assumption | rfl) ?_
      refine wp_iload (k := 66) rfl rfl ?_
      refine wp_iload (k := 67) rfl rfl ?_
      refine w_iast (k := 68) rfl rfl (by omega) (by first | assumption | rfl) (by omega) ?_
      refine wp_aload (k := 69) rfl rfl ?_
      refine w_gr (k := 70) (s := 40) rfl rfl (by first | assumption | rfl) (by first | assumption | rfl) ?_
      refine wp_iload (k := 71) rfl rfl ?_
      refine wp_aload (k := 72) rfl rfl ?_
      generalize hI1 : am_u (am_u (am_u (am_u (am_u I 120 k (bI true)) 121 k ip) 122 k port) 123 k (oI sg)) 124 k (nI (fpl al 8 49152)) = I1
      have f1 : ∀ x, x < 120 ∨ 134 < x → I1 x = I x := fun x hx => by rw [← hI1, am_uR (by omega), am_uR (by omega), am_uR (by omega), am_uR (by omega), am_uR (by omega)]
      have F1 : fs k I I1 := by rw [← hI1]; exact fs_t (fs_t (fs_t (fs_t (fs_u (so_1 (by omega))) (fs_u (so_1 (by omega)))) (fs_u (so_1 (by omega)))) (fs_u (so_1 (by omega)))) (fs_u (so_1 (by omega)))
      have hA1 : mT I1 A := ⟨by rw [f1 100 (by omega)]; exact hA.1, av_keep t2 (f1 112 (by omega)), t3⟩
      have hD1 : mD I1 A (ats A) := ⟨by rw [f1 100 (by omega)]; exact hD.1, by rw [f1 100 (by omega)]; exact hD.2.1, by rw [f1 100 (by omega)]; exact hD.2.2.1, by rw [f1 100 (by omega)]; exact hD.2.2.2.1, fun i hi => by rw [f1 135 (by omega), f1 136 (by omega), f1 137 (by omega)]; exact hD.2.2.2.2 i hi⟩
      refine w_gl (k := 73) (s := 34) rfl rfl (by first | assumption | rfl) ht ?_
      refine wp_aload (k := 74) rfl rfl ?_
      refine w_Vl (k := 75) [] rfl rfl rfl (Nat.le_of_ble_eq_true rfl) (by first | assumption | rfl) (Or.inl ⟨rfl, rfl⟩) ?_
      refine (c_246 hA1 hm hD1 ?_)
      refine ⟨_, rfl, ?_⟩
      refine wp_ladd (k := 76) rfl ?_
      refine w_last (k := 77) rfl rfl (by first | assumption | rfl) (by omega) ?_
      refine w_ic (k := 78) (x := nI 0) rfl (oi_nI 0) ?_
      refine wp_istore (k := 79) (ls2 := [some _, some _, some _, some _, some _]) rfl rfl ?_
      refine ids 3 0 I1 _ _ rfl ?_ am_us (fun j hj => absurd hj (Nat.not_lt_zero _)) F1 (fs_u (so_1 (by omega)))
      rw [← hI1]
      exact ⟨am_uv (by decide) (am_uv (by decide) (am_uv (by decide) (am_uv (by decide) am_us))), am_uv (by decide) (am_uv (by decide) (am_uv (by decide) am_us)), am_uv (by decide) (am_uv (by decide) am_us), am_uv (by decide) am_us, am_us⟩
    -- one round: is the port taken?
    have inner : ∀ (j : Nat), j ≤ 8 → (∀ b : Bool, b = (ptf al (nI (49152 + j))).isSome → ∀ o4, am_V 248 am_c248 (d + 4) (am_SH N) Q 32 [some (.ref 100), some (.int (nI k)), some (.int (nI (49152 + j))), some (.int (bI b)), o4] [] (am_SH N, I, L, am_RR w)) → ∀ (r' i : Nat) (b : Bool), i + r' = 8 → b = (ff (isp al (nI (49152 + j))) 0 i).isSome → am_V 248 am_c248 (d + 4) (am_SH N) Q 10 [some (.ref 100), some (.int (nI k)), some (.int (nI (49152 + j))), some (.int (bI b)), some (.int (nI i))] [] (am_SH N, I, L, am_RR w) := by
      intro j hj hout r'
      induction r' with
      | zero =>
        intro i b hi hbb
        obtain rfl : i = 8 := by omega
        refine wp_iload (k := 10) rfl rfl ?_
        refine w_ic (k := 11) (x := nI 8) rfl (oi_nI 8) ?_
        refine w_n_ge (k := 12) (t' := 32) rfl rfl (by omega) (fun zq => ?_) (fun zq => absurd zq (by omega))
        exact hout b hbb _
      | succ r' ih =>
        intro i b hi hbb
        have ho := hb i (by omega)
        have th := om_th ho
        have hs : (ff (isp al (nI (49152 + j))) 0 (i + 1)).isSome = (b || isp al (nI (49152 + j)) i) := by
          rw [ff_snoc, hbb, Nat.zero_add]
          cases ff (isp al (nI (49152 + j))) 0 i with
          | some x => rfl
          | none => simp only; cases isp al (nI (49152 + j)) i <;> rfl
        have no : b = false → isp al (nI (49152 + j)) i = false → am_V 248 am_c248 (d + 4) (am_SH N) Q 28 [some (.ref 100), some (.int (nI k)), some (.int (nI (49152 + j))), some (.int (bI b)), some (.int (nI i))] [] (am_SH N, I, L, am_RR w) := fun e1 e2 => by
          refine w_ic (k := 28) (x := bI false) rfl rfl ?_
          refine wp_istore (k := 29) (ls2 := [some _, some _, some _, some _, some _]) rfl rfl ?_
          refine w_incN (k := 30) (m := 1) rfl (oi_nI 1) rfl ?_
          refine w_ls (ls2 := [some _, some _, some _, some _, some _]) rfl ?_
          refine w_goto (k := 31) (t' := 10) rfl rfl ?_
          exact ih (i + 1) false (by omega) (by rw [hs, e1, e2]; rfl)
        have yes : (b = true ∨ isp al (nI (49152 + j)) i = true) → am_V 248 am_c248 (d + 4) (am_SH N) Q 26 [some (.ref 100), some (.int (nI k)), some (.int (nI (49152 + j))), some (.int (bI b)), some (.int (nI i))] [] (am_SH N, I, L, am_RR w) := fun e1 => by
          refine w_ic (k := 26) (x := bI true) rfl rfl ?_
          refine w_goto (k := 27) (t' := 29) rfl rfl ?_
          refine wp_istore (k := 29) (ls2 := [some _, some _, some _, some _, some _]) rfl rfl ?_
          refine w_incN (k := 30) (m := 1) rfl (oi_nI 1) rfl ?_
          refine w_ls (ls2 := [some _, some _, some _, some _, some _]) rfl ?_
          refine w_goto (k := 31) (t' := 10) rfl rfl ?_
          exact ih (i + 1) true (by omega) (by rw [hs]; rcases e1 with e | e <;> rw [e] <;> simp)
        refine wp_iload (k := 10) rfl rfl ?_
        refine w_ic (k := 11) (x := nI 8) rfl (oi_nI 8) ?_
        refine w_n_ge (k := 12) (t' := 32) rfl rfl (by omega) (fun zq => absurd zq (by omega)) (fun zq => ?_)
        refine wp_iload (k := 13) rfl rfl ?_
        refine w_b_ne (k := 14) (t' := 26) rfl rfl (fun k1 => ?_) (fun k1 => ?_)
        · exact yes (Or.inl k1)
        · refine wp_aload (k := 15) rfl rfl ?_
          refine w_gr (k := 16) (s := 35) rfl rfl (by first | assumption | rfl) (by first | assumption | rfl) ?_
          refine wp_iload (k := 17) rfl rfl ?_
          refine w_cald (k := 18) rfl rfl (by first | assumption | rfl) (by omega) th ?_
          refine w_b_eq (k := 19) (t' := 28) rfl rfl (fun k2 => ?_) (fun k2 => ?_)
          · exact no k1 (by unfold isp; cases ha : al i with | none => rfl | some a => rw [ha] at k2; cases k2)
          · cases ha : al i with
            | none => rw [ha] at k2; cases k2
            | some a =>
              rw [ha] at ho
              obtain ⟨a1, a2, a3, a4, a5, -⟩ := ho
              refine wp_aload (k := 20) rfl rfl ?_
              refine w_gr (k := 21) (s := 39) rfl rfl (by first | assumption | rfl) (by first | assumption | rfl) ?_
              refine wp_iload (k := 22) rfl rfl ?_
              refine w_iald (k := 23) rfl rfl (by first | assumption | rfl) (by omega) a5 ?_
              refine wp_iload (k := 24) rfl rfl ?_
              refine w_c_ne (k := 25) (t' := 28) rfl rfl (fun k3 => ?_) (fun k3 => ?_)
              · exact no k1 (by unfold isp; rw [ha]; exact decide_eq_false k3)
              · exact yes (Or.inr (by unfold isp; rw [ha]; exact decide_eq_true k3))
    intro r
    induction r with
    | zero =>
      intro j b o4 hj h1 h2
      obtain rfl : j = 8 := by omega
      cases b with
      | false =>
        rw [h2 rfl] at done
        refine wp_iload (k := 4) rfl rfl ?_
        refine w_b_eq (k := 5) (t' := 41) rfl rfl (fun zq => ?_) (fun zq => absurd (zq.symm.trans rfl) (by decide))
        exact done _ _
      | true =>
        have e : fpl al 8 49152 = 49152 + 8 := h1 rfl
        have hno : (ptf al (nI (49152 + 8))).isSome = false := by
          cases hc : (ptf al (nI (49152 + 8))).isSome with
          | false => rfl
          | true => exact absurd (ptf_r hok (by decide) hc) (by decide)
        rw [e] at done
        refine wp_iload (k := 4) rfl rfl ?_
        refine w_b_eq (k := 5) (t' := 41) rfl rfl (fun zq => absurd (zq.symm.trans rfl) (by decide)) (fun zq => ?_)
        refine w_ic (k := 6) (x := bI false) rfl rfl ?_
        refine wp_istore (k := 7) (ls2 := [some _, some _, some _, some _, _]) rfl rfl ?_
        refine w_ic (k := 8) (x := nI 0) rfl (oi_nI 0) ?_
        refine wp_istore (k := 9) (ls2 := [some _, some _, some _, some _, some _]) rfl rfl ?_
        refine inner 8 (Nat.le_refl _) (fun b' hb' o4' => ?_) 8 0 false rfl rfl
        rw [hno] at hb'
        subst hb'
        refine wp_iload (k := 32) rfl rfl ?_
        refine wp_iload (k := 33) rfl rfl ?_
        refine w_b_eq (k := 34) (t' := 37) rfl rfl (fun zq => ?_) (fun zq => absurd (zq.symm.trans rfl) (by decide))
        refine w_ic (k := 37) (x := nI 0) rfl (oi_nI 0) ?_
        refine w_addN (k := 38) rfl ?_
        refine wp_istore (k := 39) (ls2 := [some _, some _, some _, some _, _]) rfl rfl ?_
        refine w_goto (k := 40) (t' := 4) rfl rfl ?_
        refine wp_iload (k := 4) rfl rfl ?_
        refine w_b_eq (k := 5) (t' := 41) rfl rfl (fun zq => ?_) (fun zq => absurd (zq.symm.trans rfl) (by decide))
        exact done _ _
    | succ r ih =>
      intro j b o4 hj h1 h2
      cases b with
      | false =>
        rw [h2 rfl] at done
        refine wp_iload (k := 4) rfl rfl ?_
        refine w_b_eq (k := 5) (t' := 41) rfl rfl (fun zq => ?_) (fun zq => absurd (zq.symm.trans rfl) (by decide))
        exact done _ _
      | true =>
        have e := h1 rfl
        rw [show fpl al (r + 1) (49152 + j) = if (ptf al (nI (49152 + j))).isSome then fpl al r (49152 + j + 1) else 49152 + j from rfl] at e
        refine wp_iload (k := 4) rfl rfl ?_
        refine w_b_eq (k := 5) (t' := 41) rfl rfl (fun zq => absurd (zq.symm.trans rfl) (by decide)) (fun zq => ?_)
        refine w_ic (k := 6) (x := bI false) rfl rfl ?_
        refine wp_istore (k := 7) (ls2 := [some _, some _, some _, some _, _]) rfl rfl ?_
        refine w_ic (k := 8) (x := nI 0) rfl (oi_nI 0) ?_
        refine wp_istore (k := 9) (ls2 := [some _, some _, some _, some _, some _]) rfl rfl ?_
        refine inner j (by omega) (fun b' hb' o4' => ?_) 8 0 false rfl rfl
        cases hc : (ptf al (nI (49152 + j))).isSome with
        | true =>
          rw [hc] at hb'
          subst hb'
          rw [if_pos hc] at e
          refine wp_iload (k := 32) rfl rfl ?_
          refine wp_iload (k := 33) rfl rfl ?_
          refine w_b_eq (k := 34) (t' := 37) rfl rfl (fun zq => absurd (zq.symm.trans rfl) (by decide)) (fun zq => ?_)
          refine w_ic (k := 35) (x := nI 1) rfl (oi_nI 1) ?_
          refine w_goto (k := 36) (t' := 38) rfl rfl ?_
          refine w_addN (k := 38) rfl ?_
          refine wp_istore (k := 39) (ls2 := [some _, some _, some _, some _, _]) rfl rfl ?_
          refine w_goto (k := 40) (t' := 4) rfl rfl ?_
          exact ih (j + 1) true _ (by omega) (fun _ => e) (fun z => by cases z)
        | false =>
          rw [hc] at hb'
          subst hb'
          rw [if_neg (by rw [hc]; decide)] at e
          refine wp_iload (k := 32) rfl rfl ?_
          refine wp_iload (k := 33) rfl rfl ?_
          refine w_b_eq (k := 34) (t' := 37) rfl rfl (fun zq => ?_) (fun zq => absurd (zq.symm.trans rfl) (by decide))
          refine w_ic (k := 37) (x := nI 0) rfl (oi_nI 0) ?_
          refine w_addN (k := 38) rfl ?_
          refine wp_istore (k := 39) (ls2 := [some _, some _, some _, some _, _]) rfl rfl ?_
          refine w_goto (k := 40) (t' := 4) rfl rfl ?_
          refine wp_iload (k := 4) rfl rfl ?_
          refine w_b_eq (k := 5) (t' := 41) rfl rfl (fun zq => ?_) (fun zq => absurd (zq.symm.trans rfl) (by decide))
          rw [e] at done
          exact done _ _
  refine am_enter (ls := [some _, some _, none, none, none]) (cs := am_c248) rfl rfl (Nat.le_of_ble_eq_true rfl) rfl ?_
  refine w_ic (k := 0) (x := nI 49152) rfl (oi_nI 49152) ?_
  refine wp_istore (k := 1) (ls2 := [some _, some _, some _, none, none]) rfl rfl ?_
  refine w_ic (k := 2) (x := bI true) rfl rfl ?_
  refine wp_istore (k := 3) (ls2 := [some _, some _, some _, some _, none]) rfl rfl ?_
  exact outer 8 0 true _ rfl (fun _ => rfl) (fun z => by cases z)
end MM
