/-! ===== allocate of the reference ===== -/
section MA2
variable {d N : Nat} {I : Nat → Nat → Int32} {L : Nat → Nat → Int64} {w : Option Nat} {Q : am_Q} {A : List Nat} {al : Nat → Option AL} {U : UR} {rl : List Nat} {fr t : Int64} {n : Int32} {F : FR} {T : Nat → Int32} {s : SN} {ip port : Int32} {sg : Option Nat} {I0 : Nat → Nat → Int32} {L0 : Nat → Nat → Int64}
theorem c_247 (h : CX I L A U rl fr t n F T s ip port sg) (hb : tbm I L al) (hok : tok al) (f0 : fy I0 I) (g0 : fyl L0 L) (hm3 : mth (nb A 0 2) = nI 3) {pr : PR} (hpr : pr = alc al t n (oI sg) A ip port) (hq : ∀ I' L', res I0 I' L0 L' A U rl fr T ip port sg (mth (nb A 0 2)) pr → Q none (am_SH N, I', L', am_RR w)) : am_call (d + 8) 247 [.ref 100, .int (oI (clf al ip port))] (am_SH N, I, L, am_RR w) Q := by
  have hh := h
  obtain ⟨⟨hA, hm, hD⟩, ⟨hp, hT⟩, ⟨h65, h66, h67, hsg⟩, ⟨hk, hr, hrl⟩, ⟨hokU, hu⟩, ⟨hfr, hX⟩, ⟨hfk, hF⟩, ht, hn⟩ := h
  have h20 := msg20 hm
  have l96 := ats_100 hA.2.2 hm
  have t2 := hA.2.1
  have t3 := hA.2.2
  refine am_enter (ls := [some _, some _, none, none, none, none]) (cs := am_c247) rfl rfl (Nat.le_of_ble_eq_true rfl) rfl ?_
  cases hc : clf al ip port with
  | some k =>
    obtain ⟨hk8, a, ha, -⟩ := clf_lt hc
    have hmm := hb k hk8
    rw [ha] at hmm
    have hmm : sm I L k a := hmm
    obtain ⟨a1, a2, a3, a4, a5, a6, ⟨i0, i1, i2⟩, a8, a9⟩ := id hmm
    have hid : ∀ i, i < 3 → I 126 (3 * k + i) = (if i = 0 then a.2.2.1.1 else if i = 1 then a.2.2.1.2.1 else a.2.2.1.2.2) := fun i hi => by
      have : i = 0 ∨ i = 1 ∨ i = 2 := by omega
      rcases this with rfl | rfl | rfl
      · exact i0
      · exact i1
      · exact i2
    have ax : pr = if a.2.2.1 = idB A then (0, al, a.1.2.2.2, (a.2.1 - t).toInt32) else (437, al, 0, 0) := by rw [hpr]; unfold alc; rw [hc]; simp only; rw [ha]
    have loop : ∀ (r i : Nat) (b : Bool), i + r = 3 → (b = true ↔ ∀ j, j < i → I 126 (3 * k + j) = nI (nb A (8 + 4 * j) 4)) → am_V 247 am_c247 (d + 7) (am_SH N) Q 6 [some (.ref 100), some (.int (oI (some k))), some (.int (bI b)), some (.int (nI i)), none, none] [] (am_SH N, I, L, am_RR w) := by
      intro r
      induction r with
      | zero =>
        intro i b hi hbb
        obtain rfl : i = 3 := by omega
        have e : b = true ↔ a.2.2.1 = idB A := by
          rw [hbb]
          constructor
          · intro q
            have q0 := q 0 (by decide)
            have q1 := q 1 (by decide)
            have q2 := q 2 (by decide)
            rw [i0] at q0
            rw [i1] at q1
            rw [i2] at q2
            exact Prod.ext q0 (Prod.ext q1 q2)
          · intro q j hj
            rw [hid j hj, q]
            have : j = 0 ∨ j = 1 ∨ j = 2 := by omega
            rcases this with rfl | rfl | rfl <;> rfl
        refine wp_iload (k := 6) rfl rfl ?_
        refine w_ic (k := 7) (x := nI 3) rfl (oi_nI 3) ?_
        refine w_n_ge (k := 8) (t' := 34) rfl rfl (by omega) (fun zq => ?_) (fun zq => absurd zq (by omega))
        refine wp_iload (k := 34) rfl rfl ?_
        refine w_b_eq (k := 35) (t' := 40) rfl rfl (fun k1 => ?_) (fun k1 => ?_)
        · rw [if_neg (fun q => by rw [e.mpr q] at k1; cases k1)] at ax
          refine wp_aload (k := 40) rfl rfl ?_
          refine w_ic (k := 41) (x := nI 437) rfl (oi_nI 437) ?_
          refine w_Vv (k := 42) [_] rfl rfl rfl (Nat.le_of_ble_eq_true rfl) (by first | assumption | rfl) (Or.inl ⟨rfl, rfl⟩) ?_
          refine (c_233r hh hb f0 g0 (by decide) ax (fun I' L' r' => ⟨rfl, ?_⟩))
          refine w_rv (k := 43) rfl rfl rfl rfl ?_
          exact hq I' L' r'
        · rw [if_pos (e.mp k1)] at ax
          refine wp_aload (k := 36) rfl rfl ?_
          refine wp_iload (k := 37) rfl rfl ?_
          refine w_Vv (k := 38) [_] rfl rfl rfl (Nat.le_of_ble_eq_true rfl) (by first | assumption | rfl) (Or.inl ⟨rfl, rfl⟩) ?_
          refine (c_249 hh hb f0 g0 hm3 hk8 ha ax (fun I' L' r' => ⟨rfl, ?_⟩))
          refine w_goto (k := 39) (t' := 43) rfl rfl ?_
          refine w_rv (k := 43) rfl rfl rfl rfl ?_
          exact hq I' L' r'
      | succ r ih =>
        intro i b hi hbb
        have no : (b = false ∨ ¬ I 126 (3 * k + i) = nI (nb A (8 + 4 * i) 4)) → am_V 247 am_c247 (d + 7) (am_SH N) Q 30 [some (.ref 100), some (.int (oI (some k))), some (.int (bI b)), some (.int (nI i)), none, none] [] (am_SH N, I, L, am_RR w) := fun e => by
          refine w_ic (k := 30) (x := bI false) rfl rfl ?_
          refine wp_istore (k := 31) (ls2 := [some _, some _, some _, some _, none, none]) rfl rfl ?_
          refine w_incN (k := 32) (m := 1) rfl (oi_nI 1) rfl ?_
          refine w_ls (ls2 := [some _, some _, some _, some _, none, none]) rfl ?_
          refine w_goto (k := 33) (t' := 6) rfl rfl ?_
          refine ih (i + 1) false (by omega) ⟨fun z => absurd z (by decide), fun z => ?_⟩
          rcases e with e | e
          · have := hbb.mpr (fun j hj => z j (by omega))
            rw [this] at e
            cases e
          · exact absurd (z i (by omega)) e
        refine wp_iload (k := 6) rfl rfl ?_
        refine w_ic (k := 7) (x := nI 3) rfl (oi_nI 3) ?_
        refine w_n_ge (k := 8) (t' := 34) rfl rfl (by omega) (fun zq => absurd zq (by omega)) (fun zq => ?_)
        refine wp_iload (k := 9) rfl rfl ?_
        refine w_b_eq (k := 10) (t' := 30) rfl rfl (fun k1 => ?_) (fun k1 => ?_)
        · exact no (Or.inl k1)
        · refine wp_aload (k := 11) rfl rfl ?_
          refine w_gr (k := 12) (s := 41) rfl rfl (by first | assumption | rfl) (by first | assumption | rfl) ?_
          refine w_ic (k := 13) (x := nI 3) rfl (oi_nI 3) ?_
          refine wp_iload (k := 14) rfl rfl ?_
          rw [show oI (some k) = nI k from rfl]
          refine w_mulN (k := 15) rfl ?_
          refine wp_iload (k := 16) rfl rfl ?_
          refine w_addN (k := 17) rfl ?_
          refine w_iald (k := 18) rfl rfl (by first | assumption | rfl) (by omega) (by first | assumption | rfl) ?_
          refine wp_aload (k := 19) rfl rfl ?_
          refine w_gr (k := 20) (s := 14) rfl rfl (by first | assumption | rfl) (by first | assumption | rfl) ?_
          refine w_ic (k := 21) (x := nI 8) rfl (oi_nI 8) ?_
          refine w_ic (k := 22) (x := nI 4) rfl (oi_nI 4) ?_
          refine wp_iload (k := 23) rfl rfl ?_
          refine w_mulN (k := 24) rfl ?_
          refine w_addN (k := 25) rfl ?_
          refine w_Si (k := 26) [_, _] rfl rfl rfl (Nat.le_of_ble_eq_true rfl) (Or.inl ⟨rfl, rfl⟩) ?_
          refine (c_180 rfl (by decide) t2 (by omega) (by omega) ?_)
          refine ⟨_, rfl, ?_⟩
          refine w_c_ne (k := 27) (t' := 30) rfl rfl (fun k2 => ?_) (fun k2 => ?_)
          · exact no (Or.inr k2)
          · refine w_ic (k := 28) (x := bI true) rfl rfl ?_
            refine w_goto (k := 29) (t' := 31) rfl rfl ?_
            refine wp_istore (k := 31) (ls2 := [some _, some _, some _, some _, none, none]) rfl rfl ?_
            refine w_incN (k := 32) (m := 1) rfl (oi_nI 1) rfl ?_
            refine w_ls (ls2 := [some _, some _, some _, some _, none, none]) rfl ?_
            refine w_goto (k := 33) (t' := 6) rfl rfl ?_
            refine ih (i + 1) true (by omega) ⟨fun _ j hj => ?_, fun _ => rfl⟩
            by_cases e : j = i
            · rw [e]; exact k2
            · exact hbb.mp k1 j (by omega)
    refine wp_iload (k := 0) rfl rfl ?_
    refine w_z_lt (k := 1) (t' := 44) rfl rfl (fun zq => absurd zq (nI_pos (by omega))) (fun zq => ?_)
    refine w_ic (k := 2) (x := bI true) rfl rfl ?_
    refine wp_istore (k := 3) (ls2 := [some _, some _, some _, none, none, none]) rfl rfl ?_
    refine w_ic (k := 4) (x := nI 0) rfl (oi_nI 0) ?_
    refine wp_istore (k := 5) (ls2 := [some _, some _, some _, some _, none, none]) rfl rfl ?_
    exact loop 3 0 true rfl ⟨fun _ j hj => absurd hj (Nat.not_lt_zero _), fun _ => rfl⟩
  | none =>
    have ax : pr = (match fnd A 25 with
    | none => (400, al, 0, 0)
    | some i => if A.getD (stA A i) 0 = 17 then (if nI (ctu al (oI sg) 8) < n then (match frf al with
        | none => (508, al, 0, 0)
        | some k => (0, upa al k (some ((ip, port, oI sg, nI (fpl al 8 49152)), t + lN (lfe A), idB A, [], [])), nI (fpl al 8 49152), (t + lN (lfe A) - t).toInt32)) else (486, al, 0, 0)) else (442, al, 0, 0)) := by rw [hpr]; unfold alc; rw [hc]; rfl
    refine wp_iload (k := 0) rfl rfl ?_
    refine w_z_lt (k := 1) (t' := 44) rfl rfl (fun zq => ?_) (fun zq => absurd (by decide) zq)
    refine wp_aload (k := 44) rfl rfl ?_
    refine w_ic (k := 45) (x := nI 25) rfl (oi_nI 25) ?_
    refine w_Vi (k := 46) [_] rfl rfl rfl (Nat.le_of_ble_eq_true rfl) (by first | assumption | rfl) (Or.inl ⟨rfl, rfl⟩) ?_
    refine (c_218 hA hm hD (by unfold kfs; omega) ?_)
    refine ⟨_, rfl, ?_⟩
    refine wp_istore (k := 47) (ls2 := [some _, some _, some _, none, none, none]) rfl rfl ?_
    cases h25 : fnd A 25 with
    | none =>
      rw [h25] at ax
      refine wp_iload (k := 48) rfl rfl ?_
      refine w_z_ge (k := 49) (t' := 54) rfl rfl (fun zq => absurd zq (by decide)) (fun zq => ?_)
      refine wp_aload (k := 50) rfl rfl ?_
      refine w_ic (k := 51) (x := nI 400) rfl (oi_nI 400) ?_
      refine w_Vv (k := 52) [_] rfl rfl rfl (Nat.le_of_ble_eq_true rfl) (by first | assumption | rfl) (Or.inl ⟨rfl, rfl⟩) ?_
      refine (c_233r hh hb f0 g0 (by decide) ax (fun I' L' r' => ⟨rfl, ?_⟩))
      refine w_rv (k := 53) rfl rfl rfl rfl ?_
      exact hq I' L' r'
    | some i =>
      rw [h25] at ax
      simp only at ax
      have e25 := fnd_lt h25
      have fit := ats_fit hm e25.2.1
      have z25 := z_4 (Or.inr (Or.inr e25.2.2.1)) e25.2.2.2
      have q25 := mD_at hD e25.1
      have fit : stA A i + _ ≤ A.length := fit
      have v25 : I 112 (stA A i) = nI (A.getD (stA A i) 0) := t2.1 _ (by omega)
      have b25 := gd_lt t2.2 (stA A i)
      refine wp_iload (k := 48) rfl rfl ?_
      refine w_z_ge (k := 49) (t' := 54) rfl rfl (fun zq => ?_) (fun zq => absurd (nI_pos' (by omega)) zq)
      refine wp_aload (k := 54) rfl rfl ?_
      refine w_gr (k := 55) (s := 14) rfl rfl (by first | assumption | rfl) (by first | assumption | rfl) ?_
      refine wp_aload (k := 56) rfl rfl ?_
      refine w_gr (k := 57) (s := 52) rfl rfl (by first | assumption | rfl) (by first | assumption | rfl) ?_
      refine wp_iload (k := 58) rfl rfl ?_
      refine w_iald (k := 59) rfl rfl (by first | assumption | rfl) (by omega) q25.2.2 ?_
      refine w_iald (k := 60) rfl rfl (by first | assumption | rfl) (by omega) v25 ?_
      refine w_ic (k := 61) (x := nI 17) rfl (oi_nI 17) ?_
      refine w_n_eq (k := 62) (t' := 67) rfl rfl (by omega) (fun k1 => ?_) (fun k1 => ?_)
      · rw [if_pos k1] at ax
        have hct := fb_ct_le (isu al (oI sg)) 8
        have loop : ∀ (m : Nat) (c : Nat), m ≤ 8 → c + ctu al (oI sg) m = ctu al (oI sg) 8 → am_V 247 am_c247 (d + 7) (am_SH N) Q 73 [some (.ref 100), some (.int (oI none)), some (.int (oI (some i))), some (.int (nI c)), some (.int (oI (ff (fun k => (al k).isNone) m (8 - m)))), some (.int (nI m - nI 1))] [] (am_SH N, I, L, am_RR w) := by
          intro m
          induction m with
          | zero =>
            intro c hm8 hcc
            obtain rfl : c = ctu al (oI sg) 8 := by rw [← hcc]; rfl
            refine wp_iload (k := 73) rfl rfl ?_
            refine w_z_lt (k := 74) (t' := 104) rfl rfl (fun zq => ?_) (fun zq => absurd (by decide) zq)
            refine wp_iload (k := 104) rfl rfl ?_
            refine wp_aload (k := 105) rfl rfl ?_
            refine w_gi (k := 106) (s := 30) rfl rfl (by first | assumption | rfl) hn ?_
            refine w_c_lt (k := 107) (t' := 112) rfl rfl (fun k2 => ?_) (fun k2 => ?_)
            · rw [if_pos k2] at ax
              cases hf : frf al with
              | none =>
                rw [hf] at ax
                have hf' : ff (fun k => (al k).isNone) 0 (8 - 0) = none := hf
                rw [hf']
                refine wp_iload (k := 112) rfl rfl ?_
                refine w_z_ge (k := 113) (t' := 118) rfl rfl (fun zq => absurd zq (by decide)) (fun zq => ?_)
                refine wp_aload (k := 114) rfl rfl ?_
                refine w_ic (k := 115) (x := nI 508) rfl (oi_nI 508) ?_
                refine w_Vv (k := 116) [_] rfl rfl rfl (Nat.le_of_ble_eq_true rfl) (by first | assumption | rfl) (Or.inl ⟨rfl, rfl⟩) ?_
                refine (c_233r hh hb f0 g0 (by decide) ax (fun I' L' r' => ⟨rfl, ?_⟩))
                refine w_goto (k := 117) (t' := 124) rfl rfl ?_
                refine w_rv (k := 124) rfl rfl rfl rfl ?_
                exact hq I' L' r'
              | some k =>
                rw [hf] at ax
                simp only at ax
                have hf' : ff (fun k => (al k).isNone) 0 (8 - 0) = some k := hf
                rw [hf']
                obtain ⟨-, hk8, -, -⟩ := ff_some hf
                have hk8 : k < 8 := by omega
                refine wp_iload (k := 112) rfl rfl ?_
                refine w_z_ge (k := 113) (t' := 118) rfl rfl (fun zq => ?_) (fun zq => absurd (nI_pos' (by omega)) zq)
                refine wp_aload (k := 118) rfl rfl ?_
                refine wp_iload (k := 119) rfl rfl ?_
                refine w_Vv (k := 120) [_] rfl rfl rfl (Nat.le_of_ble_eq_true rfl) (by first | assumption | rfl) (Or.inl ⟨rfl, rfl⟩) ?_
                refine (c_248 hh hb hok hk8 (fun I1 L1 b1 f1 g1 => ⟨rfl, ?_⟩))
                refine wp_aload (k := 121) rfl rfl ?_
                refine wp_iload (k := 122) rfl rfl ?_
                have h1 := cx_k hh f1 g1
                have ha1 : upa al k (some ((ip, port, oI sg, nI (fpl al 8 49152)), t + lN (lfe A), idB A, [], [])) k = some ((ip, port, oI sg, nI (fpl al 8 49152)), t + lN (lfe A), idB A, [], []) := by unfold upa; rw [if_pos rfl]
                refine w_Vv (k := 123) [_] rfl rfl rfl (Nat.le_of_ble_eq_true rfl) (by first | assumption | rfl) (Or.inl ⟨rfl, rfl⟩) ?_
                refine (c_249 h1 b1 (fy_t f0 (fy_a f1)) (fyl_t g0 (fyl_a g1)) hm3 hk8 ha1 ax (fun I' L' r' => ⟨rfl, ?_⟩))
                refine w_rv (k := 124) rfl rfl rfl rfl ?_
                exact hq I' L' r'
            · rw [if_neg k2] at ax
              refine wp_aload (k := 108) rfl rfl ?_
              refine w_ic (k := 109) (x := nI 486) rfl (oi_nI 486) ?_
              refine w_Vv (k := 110) [_] rfl rfl rfl (Nat.le_of_ble_eq_true rfl) (by first | assumption | rfl) (Or.inl ⟨rfl, rfl⟩) ?_
              refine (c_233r hh hb f0 g0 (by decide) ax (fun I' L' r' => ⟨rfl, ?_⟩))
              refine w_goto (k := 111) (t' := 124) rfl rfl ?_
              refine w_rv (k := 124) rfl rfl rfl rfl ?_
              exact hq I' L' r'
          | succ m ih =>
            intro c hm8 hcc
            have er : nI (m + 1) - nI 1 = nI m := by rw [pk_sub (by omega)]; congr 1
            rw [er]
            have hmb := hb m (by omega)
            have th := om_th hmb
            have hcs : ctu al (oI sg) (m + 1) = ctu al (oI sg) m + if isu al (oI sg) m then 1 else 0 := fb_ct_succ _ _
            have hfs : ff (fun k => (al k).isNone) m (8 - m) = if (al m).isNone then some m else ff (fun k => (al k).isNone) (m + 1) (8 - (m + 1)) := by
              rw [show 8 - m = (8 - (m + 1)) + 1 by omega]; rfl
            have hc8 : c + 1 ≤ 9 := by
              have := fb_ct_le (isu al (oI sg)) 8
              unfold ctu at hcc
              omega
            -- behind the count
            have snd2 : ∀ c', c' + ctu al (oI sg) m = ctu al (oI sg) 8 → am_V 247 am_c247 (d + 7) (am_SH N) Q 93 [some (.ref 100), some (.int (oI none)), some (.int (oI (some i))), some (.int (nI c')), some (.int (oI (ff (fun k => (al k).isNone) (m + 1) (8 - (m + 1))))), some (.int (nI m))] [] (am_SH N, I, L, am_RR w) := fun c' hc' => by
              have ih := ih c' (by omega) hc'
              rw [hfs] at ih
              cases ha : al m with
              | none =>
                rw [ha] at th ih
                refine wp_aload (k := 93) rfl rfl ?_
                refine w_gr (k := 94) (s := 35) rfl rfl (by first | assumption | rfl) (by first | assumption | rfl) ?_
                refine wp_iload (k := 95) rfl rfl ?_
                refine w_cald (k := 96) rfl rfl (by first | assumption | rfl) (by omega) th ?_
                refine w_b_eq (k := 97) (t' := 100) rfl rfl (fun zq => ?_) (fun zq => absurd (zq.symm.trans rfl) (by decide))
                refine wp_iload (k := 100) rfl rfl ?_
                refine wp_istore (k := 101) (ls2 := [some _, some _, some _, some _, some _, some _]) rfl rfl ?_
                refine w_incX (k := 102) rfl rfl (m1 m) ?_
                refine w_goto (k := 103) (t' := 73) rfl rfl ?_
                exact ih
              | some a =>
                rw [ha] at th ih
                have th : I 120 m = bI true := th
                refine wp_aload (k := 93) rfl rfl ?_
                refine w_gr (k := 94) (s := 35) rfl rfl (by first | assumption | rfl) (by first | assumption | rfl) ?_
                refine wp_iload (k := 95) rfl rfl ?_
                refine w_cald (k := 96) rfl rfl (by first | assumption | rfl) (by omega) th ?_
                refine w_b_eq (k := 97) (t' := 100) rfl rfl (fun zq => absurd (zq.symm.trans rfl) (by decide)) (fun zq => ?_)
                refine wp_iload (k := 98) rfl rfl ?_
                refine w_goto (k := 99) (t' := 101) rfl rfl ?_
                refine wp_istore (k := 101) (ls2 := [some _, some _, some _, some _, some _, some _]) rfl rfl ?_
                refine w_incX (k := 102) rfl rfl (m1 m) ?_
                refine w_goto (k := 103) (t' := 73) rfl rfl ?_
                exact ih
            cases ha : al m with
            | none =>
              rw [ha] at th
              have eu : isu al (oI sg) m = false := by unfold isu; rw [ha]
              rw [eu] at hcs
              refine wp_iload (k := 73) rfl rfl ?_
              refine w_m_lt (k := 74) (t' := 104) rfl rfl (by omega) (fun zq => absurd zq (by omega)) (fun zq => ?_)
              refine wp_iload (k := 75) rfl rfl ?_
              refine wp_aload (k := 76) rfl rfl ?_
              refine w_gr (k := 77) (s := 35) rfl rfl (by first | assumption | rfl) (by first | assumption | rfl) ?_
              refine wp_iload (k := 78) rfl rfl ?_
              refine w_cald (k := 79) rfl rfl (by first | assumption | rfl) (by omega) th ?_
              refine w_b_eq (k := 80) (t' := 90) rfl rfl (fun zq => ?_) (fun zq => absurd (zq.symm.trans rfl) (by decide))
              refine w_ic (k := 90) (x := nI 0) rfl (oi_nI 0) ?_
              refine w_addN (k := 91) rfl ?_
              refine wp_istore (k := 92) (ls2 := [some _, some _, some _, some _, some _, some _]) rfl rfl ?_
              exact snd2 (c + 0) (by rw [hcs] at hcc; simpa using hcc)
            | some a =>
              rw [ha] at th hmb
              have th : I 120 m = bI true := th
              have hmb : sm I L m a := hmb
              refine wp_iload (k := 73) rfl rfl ?_
              refine w_m_lt (k := 74) (t' := 104) rfl rfl (by omega) (fun zq => absurd zq (by omega)) (fun zq => ?_)
              refine wp_iload (k := 75) rfl rfl ?_
              refine wp_aload (k := 76) rfl rfl ?_
              refine w_gr (k := 77) (s := 35) rfl rfl (by first | assumption | rfl) (by first | assumption | rfl) ?_
              refine wp_iload (k := 78) rfl rfl ?_
              refine w_cald (k := 79) rfl rfl (by first | assumption | rfl) (by omega) th ?_
              refine w_b_eq (k := 80) (t' := 90) rfl rfl (fun zq => absurd (zq.symm.trans rfl) (by decide)) (fun zq => ?_)
              refine wp_aload (k := 81) rfl rfl ?_
              refine w_gr (k := 82) (s := 38) rfl rfl (by first | assumption | rfl) (by first | assumption | rfl) ?_
              refine wp_iload (k := 83) rfl rfl ?_
              refine w_iald (k := 84) rfl rfl (by first | assumption | rfl) (by omega) hmb.2.2.2.1 ?_
              refine wp_aload (k := 85) rfl rfl ?_
              refine w_gi (k := 86) (s := 67) rfl rfl (by first | assumption | rfl) h67 ?_
              refine w_c_ne (k := 87) (t' := 90) rfl rfl (fun k2 => ?_) (fun k2 => ?_)
              · have eu : isu al (oI sg) m = false := by unfold isu; rw [ha]; exact decide_eq_false k2
                rw [eu] at hcs
                refine w_ic (k := 90) (x := nI 0) rfl (oi_nI 0) ?_
                refine w_addN (k := 91) rfl ?_
                refine wp_istore (k := 92) (ls2 := [some _, some _, some _, some _, some _, some _]) rfl rfl ?_
                exact snd2 (c + 0) (by rw [hcs] at hcc; simpa using hcc)
              · have eu : isu al (oI sg) m = true := by unfold isu; rw [ha]; exact decide_eq_true k2
                rw [eu] at hcs
                refine w_ic (k := 88) (x := nI 1) rfl (oi_nI 1) ?_
                refine w_goto (k := 89) (t' := 91) rfl rfl ?_
                refine w_addN (k := 91) rfl ?_
                refine wp_istore (k := 92) (ls2 := [some _, some _, some _, some _, some _, some _]) rfl rfl ?_
                exact snd2 (c + 1) (by rw [hcs] at hcc; simp at hcc; omega)
        refine w_ic (k := 67) (x := nI 0) rfl (oi_nI 0) ?_
        refine wp_istore (k := 68) (ls2 := [some _, some _, some _, some _, none, none]) rfl rfl ?_
        refine w_ic (k := 69) (x := (-1)) rfl (by decide) ?_
        refine wp_istore (k := 70) (ls2 := [some _, some _, some _, some _, some _, none]) rfl rfl ?_
        refine w_ic (k := 71) (x := nI 7) rfl (oi_nI 7) ?_
        refine wp_istore (k := 72) (ls2 := [some _, some _, some _, some _, some _, some _]) rfl rfl ?_
        exact loop 8 0 (Nat.le_refl _) (Nat.zero_add _)
      · rw [if_neg k1] at ax
        refine wp_aload (k := 63) rfl rfl ?_
        refine w_ic (k := 64) (x := nI 442) rfl (oi_nI 442) ?_
        refine w_Vv (k := 65) [_] rfl rfl rfl (Nat.le_of_ble_eq_true rfl) (by first | assumption | rfl) (Or.inl ⟨rfl, rfl⟩) ?_
        refine (c_233r hh hb f0 g0 (by decide) ax (fun I' L' r' => ⟨rfl, ?_⟩))
        refine w_rv (k := 66) rfl rfl rfl rfl ?_
        exact hq I' L' r'
end MA2
