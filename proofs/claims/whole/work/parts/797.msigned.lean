/-! ===== isSigned, asked, binds of the reference ===== -/
theorem ff_cut {p : Nat → Bool} {n j : Nat} (h : ff p 0 n = some j) : ff p 0 (j + 1) = some j := by
  obtain ⟨-, h2, h3, h4⟩ := ff_some h
  cases e : ff p 0 (j + 1) with
  | none =>
    have := ff_none e j (Nat.zero_le _) (by omega)
    rw [h3] at this; cases this
  | some i =>
    obtain ⟨-, i2, i3, i4⟩ := ff_some e
    by_cases c : i < j
    · have := h4 i (Nat.zero_le _) c
      rw [i3] at this; cases this
    · congr 1; omega
theorem fnd28 (B : List Nat) : fnd B 28 = fin_ B (ats B) := by
  have e : ∀ n, ff (fun i => decide (((ats B).getD i a0).1 = 28) && snd_ B ((ats B).getD i a0)) 0 n = ff (fun i => snd_ B ((ats B).getD i a0) && decide (((ats B).getD i a0).1 = 28)) 0 n := fun n => ff_cong (fun k _ _ => Bool.and_comm _ _)
  unfold fnd
  rw [e]
  cases h : fin_ B (ats B) with
  | none =>
    have : cng B = (ats B).length := by unfold cng; rw [h]
    rw [this]; exact h
  | some j =>
    have : cng B = j + 1 := by unfold cng; rw [h]
    rw [this]; exact ff_cut h
theorem nce_eq {A : List Nat} (hA : ∀ c ∈ A, c < 256) (st : Nat) (fr : Int64) : lN (nb A st 8) = fr ↔ nI (nb A st 4) = (fr >>> ((nI 32).toInt64 &&& 63)).toInt32 ∧ nI (nb A (st + 4) 4) = fr.toInt32 := by
  rw [l_hi, l_lo]
  have e : nb A st 8 = nb A st 4 * 256 ^ 4 + nb A (st + 4) 4 := nb_add A st 4 4
  have b1 := nb_lt hA st 4
  have b2 := nb_lt hA (st + 4) 4
  have u := uN_lt fr
  constructor
  · intro h
    have h := congrArg uN h
    rw [uN_lN (by omega)] at h
    have e1 : nb A st 4 = uN fr / 2 ^ 32 := by omega
    have e2 : nb A (st + 4) 4 = uN fr % 2 ^ 32 := by omega
    rw [e1, e2]
    exact ⟨rfl, rfl⟩
  · rintro ⟨h1, h2⟩
    have h1 := congrArg uI h1
    have h2 := congrArg uI h2
    rw [uI_nI (by omega), uI_nI (by omega)] at h1 h2
    apply uN_inj
    rw [uN_lN (by omega)]
    omega
section MS
variable {d N : Nat} {I : Nat → Nat → Int32} {L : Nat → Nat → Int64} {w : Option Nat} {Q : am_Q} {A : List Nat} {al : Nat → Option AL} {U : UR} {rl : List Nat} {fr t : Int64} {n : Int32} {F : FR} {T : Nat → Int32} {s : SN} {ip port : Int32} {sg : Option Nat} {I0 : Nat → Nat → Int32} {L0 : Nat → Nat → Int64}
theorem cx_h {I' : Nat → Nat → Int32} {L' : Nat → Nat → Int64} (h : CX I L A U rl fr t n F T s ip port sg) (f : fx [103, 104, 105, 108, 109, 110, 111] [6] I I') (g : fl [7] L L') (hk' : mk I') : CX I' L' A U rl fr t n F T s ip port sg := by
  obtain ⟨⟨hA, hm, hD⟩, ⟨hp, hT⟩, ⟨h65, h66, h67, hsg⟩, ⟨hk, hr, hrl⟩, ⟨hok, hu⟩, ⟨hfr, hX⟩, ⟨hfk, hF⟩, ht, hn⟩ := h
  obtain ⟨d1, d2, d3, d4, d5⟩ := hD
  obtain ⟨p1, p2, p3, p4, p5⟩ := hp
  exact ⟨⟨mT_k hA f (by decide) (by decide), hm, ⟨by rw [f.2 53 (by decide)]; exact d1, by rw [f.2 54 (by decide)]; exact d2, by rw [f.2 55 (by decide)]; exact d3, by rw [f.2 56 (by decide)]; exact d4, fun i hi => by rw [f.1 135 (by decide) (by decide), f.1 136 (by decide) (by decide), f.1 137 (by decide) (by decide)]; exact d5 i hi⟩⟩, ⟨⟨by rw [f.2 18 (by decide)]; exact p1, by rw [f.2 19 (by decide)]; exact p2, by rw [f.2 20 (by decide)]; exact p3, by rw [f.2 21 (by decide)]; exact p4, mS_k p5 f (by decide) (by decide)⟩, tl_k hT f (fun j hj => by simp; omega)⟩, ⟨by rw [f.2 65 (by decide)]; exact h65, by rw [f.2 66 (by decide)]; exact h66, by rw [f.2 67 (by decide)]; exact h67, hsg⟩, ⟨hk', ⟨by rw [f.2 28 (by decide)]; exact hr.1, av_keep hr.2 (f.1 117 (by decide) (by decide))⟩, hrl⟩, ⟨hok, us_m_k hu f (by decide) (g.1 115 (by decide)) (g.1 116 (by decide))⟩, ⟨by rw [g.2 29 (by decide)]; exact hfr, ⟨by rw [f.2 58 (by decide)]; exact hX.1, fun i hi => by rw [f.1 138 (by decide) (by decide)]; exact hX.2 i hi⟩⟩, ⟨hfk, fn_m_k hF f (by decide) (by decide) (by decide)⟩, by rw [g.2 34 (by decide)]; exact ht, by rw [f.2 30 (by decide)]; exact hn⟩
theorem cx_sg (h : CX I L A U rl fr t n F T s ip port sg) {sg' : Option Nat} (hs : ∀ k, sg' = some k → k < U.length) : CX (am_u I 100 67 (oI sg')) L A U rl fr t n F T s ip port sg' := by
  obtain ⟨⟨hA, hm, hD⟩, ⟨hp, hT⟩, ⟨h65, h66, h67, hsg⟩, ⟨hk, hr, hrl⟩, ⟨hok, hu⟩, ⟨hfr, hX⟩, ⟨hfk, hF⟩, ht, hn⟩ := h
  have f : fx [] [67] I (am_u I 100 67 (oI sg')) := fx_s (by decide)
  obtain ⟨d1, d2, d3, d4, d5⟩ := hD
  obtain ⟨p1, p2, p3, p4, p5⟩ := hp
  exact ⟨⟨mT_k hA f (by decide) (by decide), hm, ⟨by rw [f.2 53 (by decide)]; exact d1, by rw [f.2 54 (by decide)]; exact d2, by rw [f.2 55 (by decide)]; exact d3, by rw [f.2 56 (by decide)]; exact d4, fun i hi => by rw [f.1 135 (by decide) (by decide), f.1 136 (by decide) (by decide), f.1 137 (by decide) (by decide)]; exact d5 i hi⟩⟩, ⟨⟨by rw [f.2 18 (by decide)]; exact p1, by rw [f.2 19 (by decide)]; exact p2, by rw [f.2 20 (by decide)]; exact p3, by rw [f.2 21 (by decide)]; exact p4, mS_k p5 f (by decide) (by decide)⟩, tl_k hT f (fun j hj => by simp; omega)⟩, ⟨by rw [f.2 65 (by decide)]; exact h65, by rw [f.2 66 (by decide)]; exact h66, am_us, hs⟩, ⟨mk_k hk (f.1 101 (by decide) (by decide)) (f.1 102 (by decide) (by decide)), ⟨by rw [f.2 28 (by decide)]; exact hr.1, av_keep hr.2 (f.1 117 (by decide) (by decide))⟩, hrl⟩, ⟨hok, us_m_k hu f (by decide) rfl rfl⟩, ⟨hfr, ⟨by rw [f.2 58 (by decide)]; exact hX.1, fun i hi => by rw [f.1 138 (by decide) (by decide)]; exact hX.2 i hi⟩⟩, ⟨hfk, fn_m_k hF f (by decide) (by decide) (by decide)⟩, ht, by rw [f.2 30 (by decide)]; exact hn⟩
theorem c_244 (h : CX I L A U rl fr t n F T s ip port sg) {k i : Nat} (hkl : k < U.length) (hi : fin_ A (ats A) = some i) (h28 : ((ats A).getD i a0).2.1 = 32) (hq : ∀ I' L', mk I' → fx [103, 104, 105, 108, 109, 110, 111] [6] I I' → fl [7] L L' → Q (some (.int (bI (decide (vl A i = mcy (kyu U rl k) (A.take (((ats A).getD i a0).2.2 - 4))))))) (am_SH N, I', L', am_RR w)) : am_call (d + 6) 244 [.ref 100, .int (nI k)] (am_SH N, I, L, am_RR w) Q := by
  obtain ⟨⟨hA, hm, hD⟩, ⟨hp, hT⟩, ⟨h65, h66, h67, hsg⟩, ⟨hk, hr, hrl⟩, ⟨hok, hu⟩, ⟨hfr, hX⟩, ⟨hfk, hF⟩, ht, hn⟩ := h
  have hU8 := hok.1
  have hil := fin_lt hi
  have h20 := msg20 hm
  have fit := ats_fit hm hil
  have ati := ats_at hA.2.1.2 hil
  have vln := vl_len hm hil
  have vg : ∀ j, j < ((ats A).getD i a0).2.1 → (vl A i).getD j 0 = A.getD (((ats A).getD i a0).2.2 + j) 0 := fun j hj => gd_dropTake hj
  have vlt := vl_lt hA.2.1.2 i
  have t3 := hA.2.2
  have h54 : I 100 54 = nI (((ats A).getD i a0).2.2 - 4) := by have := hD.2.1; rw [hi] at this; exact this
  rw [h28] at fit vln vg
  generalize ((ats A).getD i a0).2.2 = st at *
  generalize vl A i = V at *
  refine am_enter (ls := [some _, some _, none, none]) (cs := am_c244) rfl rfl (Nat.le_of_ble_eq_true rfl) rfl ?_
  refine wp_aload (k := 0) rfl rfl ?_
  refine wp_aload (k := 1) rfl rfl ?_
  refine w_gr (k := 2) (s := 24) rfl rfl (by first | assumption | rfl) (by first | assumption | rfl) ?_
  refine wp_iload (k := 3) rfl rfl ?_
  refine w_lald (k := 4) rfl rfl (by first | assumption | rfl) (by omega) (by first | assumption | rfl) ?_
  refine wp_aload (k := 5) rfl rfl ?_
  refine w_gr (k := 6) (s := 25) rfl rfl (by first | assumption | rfl) (by first | assumption | rfl) ?_
  refine wp_iload (k := 7) rfl rfl ?_
  refine w_lald (k := 8) rfl rfl (by first | assumption | rfl) (by omega) (by first | assumption | rfl) ?_
  refine w_Vv (k := 9) [_, _] rfl rfl rfl (Nat.le_of_ble_eq_true rfl) (by first | assumption | rfl) (Or.inl ⟨rfl, rfl⟩) ?_
  refine (c_176 hk hr hrl (fun I1 L1 h1 k1 f1 g1 => ⟨rfl, ?_⟩))
  rw [ky_m hok hu hkl rfl rfl] at h1
  have A1 := mT_k hA f1 (by decide) (by decide)
  have hKl : (kyu U rl k).length = 32 := sha_len _
  have v54 : I1 100 54 = nI (st - 4) := by rw [f1.2 54 (by decide)]; exact h54
  refine wp_aload (k := 10) rfl rfl ?_
  refine wp_aload (k := 11) rfl rfl ?_
  refine w_gr (k := 12) (s := 14) rfl rfl (by first | assumption | rfl) (by first | assumption | rfl) ?_
  refine wp_aload (k := 13) rfl rfl ?_
  refine w_gi (k := 14) (s := 54) rfl rfl (by first | assumption | rfl) v54 ?_
  refine w_Vv (k := 15) [_, _] rfl rfl rfl (Nat.le_of_ble_eq_true rfl) (by first | assumption | rfl) (Or.inl ⟨rfl, rfl⟩) ?_
  refine (c_177 k1 h1 hKl (a := 112) (m := 400) rfl (by decide) (Or.inl rfl) A1.2.1 ⟨by omega, by omega, t3⟩ (fun I2 L2 h2 k2 f2 g2 => ⟨rfl, ?_⟩))
  have A2 := mT_k A1 f2 (by decide) (by decide)
  have w54 : I2 100 54 = nI (st - 4) := by rw [f2.2 54 (by decide)]; exact v54
  have hDl : (mcy (kyu U rl k) (A.take (st - 4))).length = 32 := mcy_len _ _
  have hq2 := hq I2 L2 k2 (fx_t (fx_mo f1 (by decide) (by decide)) (fx_mo f2 (by decide) (by decide))) (fl_t g1 g2)
  generalize mcy (kyu U rl k) (A.take (st - 4)) = D at *
  have loop : ∀ (r j : Nat) (b : Bool), j + r = 32 → (b = true ↔ ∀ i', i' < j → V.getD i' 0 = D.getD i' 0) → am_V 244 am_c244 (d + 5) (am_SH N) Q 20 [some (.ref 100), some (.int (nI k)), some (.int (bI b)), some (.int (nI j))] [] (am_SH N, I2, L2, am_RR w) := by
    intro r
    induction r with
    | zero =>
      intro j b hj hbb
      have e : decide (V = D) = b := by
        cases b with
        | true =>
          have hb := hbb.mp rfl
          exact decide_eq_true (gd_ext (by omega) (fun i' hi' => hb i' (by omega)))
        | false =>
          refine decide_eq_false (fun e => ?_)
          have := hbb.mpr (fun i' hi' => by rw [e])
          cases this
      rw [e] at hq2
      refine wp_iload (k := 20) rfl rfl ?_
      refine w_ic (k := 21) (x := nI 32) rfl (oi_nI 32) ?_
      refine w_n_ge (k := 22) (t' := 45) rfl rfl (by omega) (fun zq => ?_) (fun zq => absurd zq (by omega))
      refine wp_iload (k := 45) rfl rfl ?_
      refine w_rz (k := 46) rfl rfl rfl ?_
      exact hq2
    | succ r ih =>
      intro j b hj hbb
      have hv : I2 112 (st - 4 + 4 + j) = nI (V.getD j 0) := by rw [vg j (by omega), show st - 4 + 4 + j = st + j by omega]; exact A2.2.1.1 (st + j) (by omega)
      have hw : I2 109 j = nI (D.getD j 0) := h2.1 j (by omega)
      have b1 := gd_lt vlt j
      have b2 := gd_lt h2.2 j
      have no : (b = false ∨ ¬ V.getD j 0 = D.getD j 0) → am_V 244 am_c244 (d + 5) (am_SH N) Q 41 [some (.ref 100), some (.int (nI k)), some (.int (bI b)), some (.int (nI j))] [] (am_SH N, I2, L2, am_RR w) := fun e => by
        refine w_ic (k := 41) (x := bI false) rfl rfl ?_
        refine wp_istore (k := 42) (ls2 := [some _, some _, some _, some _]) rfl rfl ?_
        refine w_incN (k := 43) (m := 1) rfl (oi_nI 1) rfl ?_
        refine w_ls (ls2 := [some _, some _, some _, some _]) rfl ?_
        refine w_goto (k := 44) (t' := 20) rfl rfl ?_
        refine ih (j + 1) false (by omega) ⟨fun z => absurd z (by decide), fun z => ?_⟩
        rcases e with e | e
        · have := hbb.mpr (fun i' hi' => z i' (by omega))
          rw [this] at e; cases e
        · exact absurd (z j (by omega)) e
      refine wp_iload (k := 20) rfl rfl ?_
      refine w_ic (k := 21) (x := nI 32) rfl (oi_nI 32) ?_
      refine w_n_ge (k := 22) (t' := 45) rfl rfl (by omega) (fun zq => absurd zq (by omega)) (fun zq => ?_)
      refine wp_iload (k := 23) rfl rfl ?_
      refine w_b_eq (k := 24) (t' := 41) rfl rfl (fun e1 => ?_) (fun e1 => ?_)
      · exact no (Or.inl e1)
      · refine wp_aload (k := 25) rfl rfl ?_
        refine w_gr (k := 26) (s := 14) rfl rfl (by first | assumption | rfl) (by first | assumption | rfl) ?_
        refine wp_aload (k := 27) rfl rfl ?_
        refine w_gi (k := 28) (s := 54) rfl rfl (by first | assumption | rfl) w54 ?_
        refine w_ic (k := 29) (x := nI 4) rfl (oi_nI 4) ?_
        refine w_addN (k := 30) rfl ?_
        refine wp_iload (k := 31) rfl rfl ?_
        refine w_addN (k := 32) rfl ?_
        refine w_iald (k := 33) rfl rfl (by first | assumption | rfl) (by omega) hv ?_
        refine wp_aload (k := 34) rfl rfl ?_
        refine w_gr (k := 35) (s := 11) rfl rfl (by first | assumption | rfl) (by first | assumption | rfl) ?_
        refine wp_iload (k := 36) rfl rfl ?_
        refine w_iald (k := 37) rfl rfl (by first | assumption | rfl) (by omega) hw ?_
        refine w_n_ne (k := 38) (t' := 41) rfl rfl (by omega) (fun e2 => ?_) (fun e2 => ?_)
        · exact no (Or.inr e2)
        · refine w_ic (k := 39) (x := bI true) rfl rfl ?_
          refine w_goto (k := 40) (t' := 42) rfl rfl ?_
          refine wp_istore (k := 42) (ls2 := [some _, some _, some _, some _]) rfl rfl ?_
          refine w_incN (k := 43) (m := 1) rfl (oi_nI 1) rfl ?_
          refine w_ls (ls2 := [some _, some _, some _, some _]) rfl ?_
          refine w_goto (k := 44) (t' := 20) rfl rfl ?_
          refine ih (j + 1) true (by omega) ⟨fun _ i' hi' => ?_, fun _ => rfl⟩
          by_cases ej : i' = j
          · rw [ej]; exact e2
          · exact hbb.mp e1 i' (by omega)
  refine w_ic (k := 16) (x := bI true) rfl rfl ?_
  refine wp_istore (k := 17) (ls2 := [some _, some _, some _, none]) rfl rfl ?_
  refine w_ic (k := 18) (x := nI 0) rfl (oi_nI 0) ?_
  refine wp_istore (k := 19) (ls2 := [some _, some _, some _, some _]) rfl rfl ?_
  exact loop 32 0 true rfl ⟨fun _ i' hi' => absurd hi' (Nat.not_lt_zero _), fun _ => rfl⟩
def fz (I I' : Nat → Nat → Int32) : Prop := (∀ x, x ≠ 100 → x ∉ PA → (x < 120 ∨ 134 < x) → I' x = I x) ∧ ∀ s, s ∉ SA → s ≠ 67 → I' 100 s = I 100 s
theorem fz_y {I I1 I2 : Nat → Nat → Int32} (h1 : fz I I1) (h2 : fy I1 I2) : fz I I2 := ⟨fun x a b c => by rw [h2.1 x a b c, h1.1 x a b c], fun s h h' => by rw [h2.2 s h, h1.2 s h h']⟩
theorem fz_of {I I1 : Nat → Nat → Int32} (h : fy I I1) : fz I I1 := ⟨h.1, fun s a _ => h.2 s a⟩
theorem c_245t {k : Nat} (hx2 : CX I L A U rl fr t n F T s ip port (some k)) (b2 : tbm I L al) (hok : tok al) {m : Int32} (hmm : m = mth (nb A 0 2)) (hm4 : m = nI 3 ∨ m = nI 4 ∨ m = nI 8 ∨ m = nI 9) {o2 o3 o4 : Option Value} (hq : ∀ I' L', res I I' L L' A U rl fr T ip port (some k) (mth (nb A 0 2)) (pfm al t n (oI (some k)) F A ip port m) → Q none (am_SH N, I', L', am_RR w)) : am_V 245 am_c245 (d + 8) (am_SH N) Q 87 [some (.ref 100), some (.int m), o2, o3, o4, some (.int (oI (some k))), none] [] (am_SH N, I, L, am_RR w) := by
  have v65 : I 100 65 = ip := hx2.2.2.1.1
  have v66 : I 100 66 = port := hx2.2.2.1.2.1
  refine wp_aload (k := 87) rfl rfl ?_
  refine wp_aload (k := 88) rfl rfl ?_
  refine w_gi (k := 89) (s := 65) rfl rfl (by first | assumption | rfl) v65 ?_
  refine wp_aload (k := 90) rfl rfl ?_
  refine w_gi (k := 91) (s := 66) rfl rfl (by first | assumption | rfl) v66 ?_
  refine w_Vi (k := 92) [_, _] rfl rfl rfl (Nat.le_of_ble_eq_true rfl) (by first | assumption | rfl) (Or.inl ⟨rfl, rfl⟩) ?_
  refine (c_209 b2 hok ?_)
  refine ⟨_, rfl, ?_⟩
  refine wp_istore (k := 93) (ls2 := [some _, some _, _, _, _, some _, some _]) rfl rfl ?_
  refine wp_iload (k := 94) rfl rfl ?_
  refine w_ic (k := 95) (x := nI 3) rfl (oi_nI 3) ?_
  refine w_c_ne (k := 96) (t' := 101) rfl rfl (fun m3 => ?_) (fun m3 => ?_)
  · have px : pfm al t n (oI (some k)) F A ip port m = (match clf al ip port with
      | none => (437, al, 0, 0)
      | some k' => match al k' with
        | none => (437, al, 0, 0)
        | some a => if a.1.2.2.1 = oI (some k) then (if m = nI 4 then rfr al t A k' a else if m = nI 8 then ppr al t F A k' a else bch al t F A k' a) else (441, al, 0, 0)) := by
      unfold pfm
      rw [if_neg (fun q => by rw [q] at hm4; revert hm4; decide), if_neg m3]
      rfl
    cases hc : clf al ip port with
    | none =>
      rw [hc] at px
      refine wp_iload (k := 101) rfl rfl ?_
      refine w_z_ge (k := 102) (t' := 107) rfl rfl (fun zq => absurd zq (by decide)) (fun zq => ?_)
      refine wp_aload (k := 103) rfl rfl ?_
      refine w_ic (k := 104) (x := nI 437) rfl (oi_nI 437) ?_
      refine w_Vv (k := 105) [_] rfl rfl rfl (Nat.le_of_ble_eq_true rfl) (by first | assumption | rfl) (Or.inl ⟨rfl, rfl⟩) ?_
      refine (c_233r hx2 b2 fy_rf fyl_rf (by decide) px (fun I' L' r' => ⟨rfl, ?_⟩))
      refine w_goto (k := 106) (t' := 134) rfl rfl ?_
      refine w_rv (k := 134) rfl rfl rfl rfl ?_
      exact hq I' L' r'
    | some k' =>
      obtain ⟨hk8, a, ha, -⟩ := clf_lt hc
      rw [hc] at px
      simp only [ha] at px
      have hmb := b2 k' hk8
      rw [ha] at hmb
      have hmb : sm I L k' a := hmb
      refine wp_iload (k := 101) rfl rfl ?_
      refine w_z_ge (k := 102) (t' := 107) rfl rfl (fun zq => ?_) (fun zq => absurd (nI_pos' (by omega)) zq)
      refine wp_aload (k := 107) rfl rfl ?_
      refine w_gr (k := 108) (s := 38) rfl rfl (by first | assumption | rfl) (by first | assumption | rfl) ?_
      refine wp_iload (k := 109) rfl rfl ?_
      refine w_iald (k := 110) rfl (show oI (some k') = nI k' from rfl) (by first | assumption | rfl) (by omega) hmb.2.2.2.1 ?_
      refine wp_iload (k := 111) rfl rfl ?_
      refine w_c_eq (k := 112) (t' := 117) rfl rfl (fun u1 => ?_) (fun u1 => ?_)
      · rw [if_pos u1] at px
        refine wp_iload (k := 117) rfl rfl ?_
        refine w_ic (k := 118) (x := nI 4) rfl (oi_nI 4) ?_
        refine w_c_ne (k := 119) (t' := 124) rfl rfl (fun m4 => ?_) (fun m4 => ?_)
        · rw [if_neg m4] at px
          refine wp_iload (k := 124) rfl rfl ?_
          refine w_ic (k := 125) (x := nI 8) rfl (oi_nI 8) ?_
          refine w_c_ne (k := 126) (t' := 131) rfl rfl (fun m8 => ?_) (fun m8 => ?_)
          · rw [if_neg m8] at px
            have m9 : m = nI 9 := by rcases hm4 with q | q | q | q <;> first | exact absurd q ‹_› | exact q
            refine wp_aload (k := 131) rfl rfl ?_
            refine wp_iload (k := 132) rfl rfl ?_
            refine w_Vv (k := 133) [_] rfl rfl rfl (Nat.le_of_ble_eq_true rfl) (by first | assumption | rfl) (Or.inl ⟨rfl, rfl⟩) ?_
            refine (c_252 hx2 b2 hok fy_rf fyl_rf (by rw [← hmm]; exact m9) hk8 ha px (fun I' L' r' => ⟨rfl, ?_⟩))
            refine w_rv (k := 134) rfl rfl rfl rfl ?_
            exact hq I' L' r'
          · rw [if_pos m8] at px
            refine wp_aload (k := 127) rfl rfl ?_
            refine wp_iload (k := 128) rfl rfl ?_
            refine w_Vv (k := 129) [_] rfl rfl rfl (Nat.le_of_ble_eq_true rfl) (by first | assumption | rfl) (Or.inl ⟨rfl, rfl⟩) ?_
            refine (c_251 hx2 b2 hok fy_rf fyl_rf (by rw [← hmm]; exact m8) hk8 ha px (fun I' L' r' => ⟨rfl, ?_⟩))
            refine w_goto (k := 130) (t' := 134) rfl rfl ?_
            refine w_rv (k := 134) rfl rfl rfl rfl ?_
            exact hq I' L' r'
        · rw [if_pos m4] at px
          refine wp_aload (k := 120) rfl rfl ?_
          refine wp_iload (k := 121) rfl rfl ?_
          refine w_Vv (k := 122) [_] rfl rfl rfl (Nat.le_of_ble_eq_true rfl) (by first | assumption | rfl) (Or.inl ⟨rfl, rfl⟩) ?_
          refine (c_250 hx2 b2 fy_rf fyl_rf (by rw [← hmm]; exact m4) hk8 ha px (fun I' L' r' => ⟨rfl, ?_⟩))
          refine w_goto (k := 123) (t' := 134) rfl rfl ?_
          refine w_rv (k := 134) rfl rfl rfl rfl ?_
          exact hq I' L' r'
      · rw [if_neg u1] at px
        refine wp_aload (k := 113) rfl rfl ?_
        refine w_ic (k := 114) (x := nI 441) rfl (oi_nI 441) ?_
        refine w_Vv (k := 115) [_] rfl rfl rfl (Nat.le_of_ble_eq_true rfl) (by first | assumption | rfl) (Or.inl ⟨rfl, rfl⟩) ?_
        refine (c_233r hx2 b2 fy_rf fyl_rf (by decide) px (fun I' L' r' => ⟨rfl, ?_⟩))
        refine w_goto (k := 116) (t' := 134) rfl rfl ?_
        refine w_rv (k := 134) rfl rfl rfl rfl ?_
        exact hq I' L' r'
  · have px : pfm al t n (oI (some k)) F A ip port m = alc al t n (oI (some k)) A ip port := by
      unfold pfm
      rw [if_neg (by rw [m3]; decide), if_pos m3]
    refine wp_aload (k := 97) rfl rfl ?_
    refine wp_iload (k := 98) rfl rfl ?_
    refine w_Vv (k := 99) [_] rfl rfl rfl (Nat.le_of_ble_eq_true rfl) (by first | assumption | rfl) (Or.inl ⟨rfl, rfl⟩) ?_
    refine (c_247 hx2 b2 hok fy_rf fyl_rf (by rw [← hmm]; exact m3) px (fun I' L' r' => ⟨rfl, ?_⟩))
    refine w_goto (k := 100) (t' := 134) rfl rfl ?_
    refine w_rv (k := 134) rfl rfl rfl rfl ?_
    exact hq I' L' r'
theorem c_245 (h : CX I L A U rl fr t n F T s ip port none) (hb : tbm I L al) (hok : tok al) {m : Int32} (hmm : m = mth (nb A 0 2)) (hm4 : m = nI 3 ∨ m = nI 4 ∨ m = nI 8 ∨ m = nI 9) (hq : ∀ I' L', tbm I' L' (ans U rl fr n F al t A T ip port m).2 → po_m I' (ans U rl fr n F al t A T ip port m).1.1 → tl_m I' (ans U rl fr n F al t A T ip port m).1.2 → mk I' → fz I I' → fyl L L' → Q none (am_SH N, I', L', am_RR w)) : am_call (d + 9) 245 [.ref 100, .int m] (am_SH N, I, L, am_RR w) Q := by
  have hh := h
  obtain ⟨⟨hA, hm, hD⟩, ⟨hp, hT⟩, ⟨h65, h66, h67, hsg⟩, ⟨hk, hr, hrl⟩, ⟨hokU, hu⟩, ⟨hfr, hX⟩, ⟨hfk, hF⟩, ht, hn⟩ := h
  have h20 := msg20 hm
  have l96 := ats_100 hA.2.2 hm
  have cl := cng_le A
  have st8 := strg_len (cts A)
  have t2 := hA.2.1
  have t3 := hA.2.2
  have hU8 := hokU.1
  have outE : ∀ (I1 : Nat → Nat → Int32) (L1 : Nat → Nat → Int64) (e : Nat), fz I I1 → fyl L L1 → acs U rl fr A m = (e, none) → e ∈ errs → ∀ I' L', res I1 I' L1 L' A U rl fr T ip port none (mth (nb A 0 2)) (e, al, 0, 0) → Q none (am_SH N, I', L', am_RR w) := by
    intro I1 L1 e f1 g1 ea he I' L' ⟨r1, r2, r3, r4, r5, r6⟩
    have hel := errs_lt e he
    have px : prf U rl fr n F al t A ip port m = (e, al, 0, 0) := by unfold prf; rw [ea]; simp only; rw [if_neg (by omega)]
    have ex : ans U rl fr n F al t A T ip port m = (((true, ip, port, nI 3478, fgb A (sgb U rl none (bod rl fr A m ip port e 0 0))), if e = 0 then inc T 0 else inc (inc T 0) 4), al) := by unfold ans; rw [px, ea]
    rw [ex] at hq
    rw [← hmm] at r2
    exact hq I' L' r1 r2 r3 r4 (fz_y f1 r5) (fyl_t g1 r6)
  have outS : ∀ (I1 : Nat → Nat → Int32) (L1 : Nat → Nat → Int64) (k : Nat), fz I I1 → fyl L L1 → acs U rl fr A m = (0, some k) → ∀ I' L', res I1 I' L1 L' A U rl fr T ip port (some k) (mth (nb A 0 2)) (pfm al t n (oI (some k)) F A ip port m) → Q none (am_SH N, I', L', am_RR w) := by
    intro I1 L1 k f1 g1 ea I' L' ⟨r1, r2, r3, r4, r5, r6⟩
    have px : prf U rl fr n F al t A ip port m = pfm al t n (oI (some k)) F A ip port m := by unfold prf; rw [ea]; exact if_pos rfl
    have ex : ans U rl fr n F al t A T ip port m = (((true, ip, port, nI 3478, fgb A (sgb U rl (some k) (bod rl fr A m ip port (pfm al t n (oI (some k)) F A ip port m).1 (pfm al t n (oI (some k)) F A ip port m).2.2.1 (pfm al t n (oI (some k)) F A ip port m).2.2.2))), if (pfm al t n (oI (some k)) F A ip port m).1 = 0 then inc T 0 else inc (inc T 0) 4), (pfm al t n (oI (some k)) F A ip port m).2.1) := by unfold ans; rw [px, ea]
    rw [ex] at hq
    rw [← hmm] at r2
    exact hq I' L' r1 r2 r3 r4 (fz_y f1 r5) (fyl_t g1 r6)
  have ax : acs U rl fr A m = (match fnd A 28 with
    | none => (401, none)
    | some i => match fnd A 6 with
      | none => (400, none)
      | some u => match fnd A 20 with
        | none => (400, none)
        | some r => match fnd A 21 with
          | none => (400, none)
          | some n => if lN (vlo A n) = fr then (match uf U (vl A u) with
              | none => (401, none)
              | some k => if vl A r = rl ∧ vl A i = mcy (kyu U rl k) (A.take (((ats A).getD i a0).2.2 - 4)) then (if 0 < (strg (cts A)).length then (420, none) else (0, some k)) else (401, none))
            else (438, none)) := by unfold acs; rw [if_pos hm4]; rfl
  have h54 := hD.2.1
  have e28 := fnd28 A
  refine am_enter (ls := [some _, some _, none, none, none, none, none]) (cs := am_c245) rfl rfl (Nat.le_of_ble_eq_true rfl) rfl ?_
  cases hfi : fin_ A (ats A) with
  | none =>
    rw [hfi] at h54
    rw [e28, hfi] at ax
    refine wp_aload (k := 0) rfl rfl ?_
    refine w_gi (k := 1) (s := 54) rfl rfl (by first | assumption | rfl) h54 ?_
    refine w_z_ge (k := 2) (t' := 7) rfl rfl (fun zq => absurd zq (show ¬ (0 : Int32) ≤ -1 by decide)) (fun zq => ?_)
    refine wp_aload (k := 3) rfl rfl ?_
    refine w_ic (k := 4) (x := nI 401) rfl (oi_nI 401) ?_
    refine w_Vv (k := 5) [_] rfl rfl rfl (Nat.le_of_ble_eq_true rfl) (by first | assumption | rfl) (Or.inl ⟨rfl, rfl⟩) ?_
    refine (c_233r hh hb fy_rf fyl_rf (by decide) rfl (fun I' L' r' => ⟨rfl, ?_⟩))
    refine w_rv (k := 6) rfl rfl rfl rfl ?_
    exact outE I L 401 (fz_of fy_rf) fyl_rf ax (by decide) I' L' r'
  | some i =>
    rw [hfi] at h54
    rw [hfi] at e28
    rw [e28] at ax
    simp only at ax
    have f28 := fnd_lt e28
    have ati := ats_at t2.2 f28.2.1
    have z28 := z_28 f28.2.2.1 f28.2.2.2
    have h54 : I 100 54 = nI (((ats A).getD i a0).2.2 - 4) := h54
    have bad400 : ∀ (o2 o3 o4 : Option Value), acs U rl fr A m = (400, none) → am_V 245 am_c245 (d + 8) (am_SH N) Q 25 [some (.ref 100), some (.int m), o2, o3, o4, none, none] [] (am_SH N, I, L, am_RR w) := fun o2 o3 o4 e => by
      refine wp_aload (k := 25) rfl rfl ?_
      refine w_ic (k := 26) (x := nI 400) rfl (oi_nI 400) ?_
      refine w_Vv (k := 27) [_] rfl rfl rfl (Nat.le_of_ble_eq_true rfl) (by first | assumption | rfl) (Or.inl ⟨rfl, rfl⟩) ?_
      refine (c_233r hh hb fy_rf fyl_rf (by decide) rfl (fun I' L' r' => ⟨rfl, ?_⟩))
      refine w_rv (k := 28) rfl rfl rfl rfl ?_
      exact outE I L 400 (fz_of fy_rf) fyl_rf e (by decide) I' L' r'
    refine wp_aload (k := 0) rfl rfl ?_
    refine w_gi (k := 1) (s := 54) rfl rfl (by first | assumption | rfl) h54 ?_
    refine w_z_ge (k := 2) (t' := 7) rfl rfl (fun zq => ?_) (fun zq => absurd (nI_pos' (by omega)) zq)
    refine wp_aload (k := 7) rfl rfl ?_
    refine w_ic (k := 8) (x := nI 6) rfl (oi_nI 6) ?_
    refine w_Vi (k := 9) [_] rfl rfl rfl (Nat.le_of_ble_eq_true rfl) (by first | assumption | rfl) (Or.inl ⟨rfl, rfl⟩) ?_
    refine (c_218 hA hm hD (by unfold kfs; omega) ?_)
    refine ⟨_, rfl, ?_⟩
    refine wp_istore (k := 10) (ls2 := [some _, some _, some _, none, none, none, none]) rfl rfl ?_
    refine wp_aload (k := 11) rfl rfl ?_
    refine w_ic (k := 12) (x := nI 20) rfl (oi_nI 20) ?_
    refine w_Vi (k := 13) [_] rfl rfl rfl (Nat.le_of_ble_eq_true rfl) (by first | assumption | rfl) (Or.inl ⟨rfl, rfl⟩) ?_
    refine (c_218 hA hm hD (by unfold kfs; omega) ?_)
    refine ⟨_, rfl, ?_⟩
    refine wp_istore (k := 14) (ls2 := [some _, some _, some _, some _, none, none, none]) rfl rfl ?_
    refine wp_aload (k := 15) rfl rfl ?_
    refine w_ic (k := 16) (x := nI 21) rfl (oi_nI 21) ?_
    refine w_Vi (k := 17) [_] rfl rfl rfl (Nat.le_of_ble_eq_true rfl) (by first | assumption | rfl) (Or.inl ⟨rfl, rfl⟩) ?_
    refine (c_218 hA hm hD (by unfold kfs; omega) ?_)
    refine ⟨_, rfl, ?_⟩
    refine wp_istore (k := 18) (ls2 := [some _, some _, some _, some _, some _, none, none]) rfl rfl ?_
    cases h6 : fnd A 6 with
    | none =>
      rw [h6] at ax
      refine wp_iload (k := 19) rfl rfl ?_
      refine w_z_lt (k := 20) (t' := 25) rfl rfl (fun zq => ?_) (fun zq => absurd (by decide) zq)
      exact bad400 _ _ _ ax
    | some u =>
      have e6 := fnd_lt h6
      rw [h6] at ax
      simp only at ax
      refine wp_iload (k := 19) rfl rfl ?_
      refine w_z_lt (k := 20) (t' := 25) rfl rfl (fun zq => absurd zq (nI_pos (by omega))) (fun zq => ?_)
      cases h20' : fnd A 20 with
      | none =>
        rw [h20'] at ax
        refine wp_iload (k := 21) rfl rfl ?_
        refine w_z_lt (k := 22) (t' := 25) rfl rfl (fun zq => ?_) (fun zq => absurd (by decide) zq)
        exact bad400 _ _ _ ax
      | some r =>
        have e20 := fnd_lt h20'
        rw [h20'] at ax
        simp only at ax
        refine wp_iload (k := 21) rfl rfl ?_
        refine w_z_lt (k := 22) (t' := 25) rfl rfl (fun zq => absurd zq (nI_pos (by omega))) (fun zq => ?_)
        cases h21 : fnd A 21 with
        | none =>
          rw [h21] at ax
          refine wp_iload (k := 23) rfl rfl ?_
          refine w_z_ge (k := 24) (t' := 29) rfl rfl (fun zq => absurd zq (by decide)) (fun zq => ?_)
          exact bad400 _ _ _ ax
        | some n' =>
          have e21 := fnd_lt h21
          rw [h21] at ax
          simp only at ax
          have z6 := z_word (Or.inl e6.2.2.1) e6.2.2.2
          have z20 := z_word (Or.inr e20.2.2.1) e20.2.2.2
          have z21 := z_21 e21.2.2.1 e21.2.2.2
          have fit21 := ats_fit hm e21.2.1
          have fit21 : stA A n' + _ ≤ A.length := fit21
          have q21 := mD_at hD e21.1
          have hnc : lN (vlo A n') = fr ↔ nI (nb A (stA A n') 4) = (fr >>> ((nI 32).toInt64 &&& 63)).toInt32 ∧ nI (nb A (stA A n' + 4) 4) = fr.toInt32 := by
            unfold vlo; rw [z21]; exact nce_eq t2.2 (stA A n') fr
          have bad438 : acs U rl fr A m = (438, none) → am_V 245 am_c245 (d + 8) (am_SH N) Q 55 [some (.ref 100), some (.int m), some (.int (oI (some u))), some (.int (oI (some r))), some (.int (oI (some n'))), none, none] [] (am_SH N, I, L, am_RR w) := fun e => by
            refine wp_aload (k := 55) rfl rfl ?_
            refine w_ic (k := 56) (x := nI 438) rfl (oi_nI 438) ?_
            refine w_Vv (k := 57) [_] rfl rfl rfl (Nat.le_of_ble_eq_true rfl) (by first | assumption | rfl) (Or.inl ⟨rfl, rfl⟩) ?_
            refine (c_233r hh hb fy_rf fyl_rf (by decide) rfl (fun I' L' r' => ⟨rfl, ?_⟩))
            refine w_rv (k := 58) rfl rfl rfl rfl ?_
            exact outE I L 438 (fz_of fy_rf) fyl_rf e (by decide) I' L' r'
          refine wp_iload (k := 23) rfl rfl ?_
          refine w_z_ge (k := 24) (t' := 29) rfl rfl (fun zq => ?_) (fun zq => absurd (nI_pos' (by omega)) zq)
          refine wp_aload (k := 29) rfl rfl ?_
          refine w_gr (k := 30) (s := 14) rfl rfl (by first | assumption | rfl) (by first | assumption | rfl) ?_
          refine wp_aload (k := 31) rfl rfl ?_
          refine w_gr (k := 32) (s := 52) rfl rfl (by first | assumption | rfl) (by first | assumption | rfl) ?_
          refine wp_iload (k := 33) rfl rfl ?_
          refine w_iald (k := 34) rfl rfl (by first | assumption | rfl) (by omega) q21.2.2 ?_
          refine w_Si (k := 35) [_, _] rfl rfl rfl (Nat.le_of_ble_eq_true rfl) (Or.inl ⟨rfl, rfl⟩) ?_
          refine (c_180 rfl (by decide) t2 (by omega) (by omega) ?_)
          refine ⟨_, rfl, ?_⟩
          refine wp_aload (k := 36) rfl rfl ?_
          refine w_gl (k := 37) (s := 29) rfl rfl (by first | assumption | rfl) hfr ?_
          refine w_ic (k := 38) (x := nI 32) rfl (oi_nI 32) ?_
          refine wp_lshr (k := 39) rfl ?_
          refine wp_l2i (k := 40) rfl ?_
          refine w_c_ne (k := 41) (t' := 55) rfl rfl (fun k1 => ?_) (fun k1 => ?_)
          · rw [if_neg (fun q => k1 (hnc.mp q).1)] at ax
            exact bad438 ax
          · refine wp_aload (k := 42) rfl rfl ?_
            refine w_gr (k := 43) (s := 14) rfl rfl (by first | assumption | rfl) (by first | assumption | rfl) ?_
            refine wp_aload (k := 44) rfl rfl ?_
            refine w_gr (k := 45) (s := 52) rfl rfl (by first | assumption | rfl) (by first | assumption | rfl) ?_
            refine wp_iload (k := 46) rfl rfl ?_
            refine w_iald (k := 47) rfl rfl (by first | assumption | rfl) (by omega) q21.2.2 ?_
            refine w_ic (k := 48) (x := nI 4) rfl (oi_nI 4) ?_
            refine w_addN (k := 49) rfl ?_
            refine w_Si (k := 50) [_, _] rfl rfl rfl (Nat.le_of_ble_eq_true rfl) (Or.inl ⟨rfl, rfl⟩) ?_
            refine (c_180 rfl (by decide) t2 (by omega) (by omega) ?_)
            refine ⟨_, rfl, ?_⟩
            refine wp_aload (k := 51) rfl rfl ?_
            refine w_gl (k := 52) (s := 29) rfl rfl (by first | assumption | rfl) hfr ?_
            refine wp_l2i (k := 53) rfl ?_
            refine w_c_eq (k := 54) (t' := 59) rfl rfl (fun k2 => ?_) (fun k2 => ?_)
            · rw [if_pos (hnc.mpr ⟨k1, k2⟩)] at ax
              have bad401 : ∀ (I1 : Nat → Nat → Int32) (L1 : Nat → Nat → Int64) (o5 : Option Value), acs U rl fr A m = (401, none) → CX I1 L1 A U rl fr t n F T s ip port none → tbm I1 L1 al → fz I I1 → fyl L L1 → am_V 245 am_c245 (d + 8) (am_SH N) Q 73 [some (.ref 100), some (.int m), some (.int (oI (some u))), some (.int (oI (some r))), some (.int (oI (some n'))), o5, none] [] (am_SH N, I1, L1, am_RR w) := fun I1 L1 o5 e hx b1 f1 g1 => by
                refine wp_aload (k := 73) rfl rfl ?_
                refine w_ic (k := 74) (x := nI 401) rfl (oi_nI 401) ?_
                refine w_Vv (k := 75) [_] rfl rfl rfl (Nat.le_of_ble_eq_true rfl) (by first | assumption | rfl) (Or.inl ⟨rfl, rfl⟩) ?_
                refine (c_233r hx b1 fy_rf fyl_rf (by decide) rfl (fun I' L' r' => ⟨rfl, ?_⟩))
                refine w_rv (k := 76) rfl rfl rfl rfl ?_
                exact outE I1 L1 401 f1 g1 e (by decide) I' L' r'
              refine wp_aload (k := 59) rfl rfl ?_
              refine wp_iload (k := 60) rfl rfl ?_
              refine w_Vi (k := 61) [_] rfl rfl rfl (Nat.le_of_ble_eq_true rfl) (by first | assumption | rfl) (Or.inl ⟨rfl, rfl⟩) ?_
              refine (c_243 hA hm hD hokU hu e6.1 z6.2 ?_)
              refine ⟨_, rfl, ?_⟩
              refine wp_istore (k := 62) (ls2 := [some _, some _, some _, some _, some _, some _, none]) rfl rfl ?_
              cases hfu : uf U (vl A u) with
              | none =>
                rw [hfu] at ax
                refine wp_iload (k := 63) rfl rfl ?_
                refine w_z_lt (k := 64) (t' := 73) rfl rfl (fun zq => ?_) (fun zq => absurd (by decide) zq)
                exact bad401 I L _ ax hh hb (fz_of fy_rf) fyl_rf
              | some k =>
                rw [hfu] at ax
                simp only at ax
                have hkl : k < U.length := by obtain ⟨-, y2, -⟩ := ff_some hfu; omega
                refine wp_iload (k := 63) rfl rfl ?_
                refine w_z_lt (k := 64) (t' := 73) rfl rfl (fun zq => absurd zq (nI_pos (by omega))) (fun zq => ?_)
                refine wp_aload (k := 65) rfl rfl ?_
                refine wp_iload (k := 66) rfl rfl ?_
                refine w_Vi (k := 67) [_] rfl rfl rfl (Nat.le_of_ble_eq_true rfl) (by first | assumption | rfl) (Or.inl ⟨rfl, rfl⟩) ?_
                refine (c_242 hA hm hD hr hrl e20.1 z20.2 ?_)
                refine ⟨_, rfl, ?_⟩
                refine w_b_eq (k := 68) (t' := 73) rfl rfl (fun k3 => ?_) (fun k3 => ?_)
                · rw [if_neg (fun q => of_decide_eq_false k3 q.1)] at ax
                  exact bad401 I L _ ax hh hb (fz_of fy_rf) fyl_rf
                · have k3 := of_decide_eq_true k3
                  refine wp_aload (k := 69) rfl rfl ?_
                  refine wp_iload (k := 70) rfl rfl ?_
                  refine w_Vi (k := 71) [_] rfl rfl rfl (Nat.le_of_ble_eq_true rfl) (by first | assumption | rfl) (Or.inl ⟨rfl, rfl⟩) ?_
                  refine (c_244 hh hkl hfi z28 (fun I1 L1 m1 f1 g1 => ⟨_, rfl, ?_⟩))
                  have hx1 := cx_h hh f1 g1 m1
                  have b1 : tbm I1 L1 al := tbm_x hb f1 g1 (fun x y1 y2 => by simp; omega)
                  have F1 : fz I I1 := fz_of (fy_x f1 (by decide) (by decide))
                  have G1 : fyl L L1 := fyl_x g1
                  have v58 : I1 100 58 = nI (strg (cts A)).length := by rw [f1.2 58 (by decide)]; exact hX.1
                  refine w_b_ne (k := 72) (t' := 77) rfl rfl (fun k4 => ?_) (fun k4 => ?_)
                  · have k4 := of_decide_eq_true k4
                    rw [if_pos ⟨k3, k4⟩] at ax
                    refine wp_aload (k := 77) rfl rfl ?_
                    refine w_gi (k := 78) (s := 58) rfl rfl (by first | assumption | rfl) v58 ?_
                    refine w_m_le (k := 79) (t' := 84) rfl rfl (by omega) (fun k5 => ?_) (fun k5 => ?_)
                    · rw [if_neg (by omega)] at ax
                      have hx2 := cx_sg hx1 (sg' := some k) (fun k' e => by cases e; exact hkl)
                      refine wp_aload (k := 84) rfl rfl ?_
                      refine wp_iload (k := 85) rfl rfl ?_
                      refine w_pi (k := 86) (s := 67) rfl rfl (by first | assumption | rfl) ?_
                      generalize hI2 : am_u I1 100 67 (oI (some k)) = I2 at *
                      have f2 : fx [] [67] I1 I2 := by rw [← hI2]; exact fx_s (by decide)
                      have b2 : tbm I2 L1 al := tbm_x b1 f2 fl_rf (fun x y1 y2 => by simp)
                      have F2 : fz I I2 := ⟨fun x a b c => by rw [f2.1 x a (by simp), F1.1 x a b c], fun s a b => by rw [f2.2 s (by simpa using b), F1.2 s a b]⟩
                      exact c_245t hx2 b2 hok hmm hm4 (fun I' L' r' => outS I2 L1 k F2 G1 ax I' L' r')
                    · rw [if_pos (by omega)] at ax
                      refine wp_aload (k := 80) rfl rfl ?_
                      refine w_ic (k := 81) (x := nI 420) rfl (oi_nI 420) ?_
                      refine w_Vv (k := 82) [_] rfl rfl rfl (Nat.le_of_ble_eq_true rfl) (by first | assumption | rfl) (Or.inl ⟨rfl, rfl⟩) ?_
                      refine (c_233r hx1 b1 fy_rf fyl_rf (by decide) rfl (fun I' L' r' => ⟨rfl, ?_⟩))
                      refine w_rv (k := 83) rfl rfl rfl rfl ?_
                      exact outE I1 L1 420 F1 G1 ax (by decide) I' L' r'
                  · rw [if_neg (fun q => of_decide_eq_false k4 q.2)] at ax
                    exact bad401 I1 L1 _ ax hx1 b1 F1 G1
            · rw [if_neg (fun q => k2 (hnc.mp q).2)] at ax
              exact bad438 ax
end MS
