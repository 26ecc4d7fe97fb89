/-! ===== bindsChannel of the reference ===== -/
section MB
variable {d N : Nat} {I : Nat → Nat → Int32} {L : Nat → Nat → Int64} {w : Option Nat} {Q : am_Q} {A : List Nat} {al : Nat → Option AL} {U : UR} {rl : List Nat} {fr t : Int64} {n : Int32} {F : FR} {T : Nat → Int32} {s : SN} {ip port : Int32} {sg : Option Nat} {I0 : Nat → Nat → Int32} {L0 : Nat → Nat → Int64} {k : Nat} {C : CH}
theorem chm_set {i : Nat} {x y z : Int32} {tt : Int64} (h : ch_m I L k C) (hi : i < C.length) (h1 : (C.getD i c0).1 = x) (h2 : (C.getD i c0).2.1 = y) (h3 : (C.getD i c0).2.2.1 = z) : ch_m I (am_u L 134 (8 * k + i) tt) k (C.set i (x, y, z, tt)) := by
  refine ⟨by rw [List.length_set]; exact h.1, by rw [List.length_set]; exact h.2.1, fun j hj => ?_⟩
  rw [List.length_set] at hj
  have e := h.2.2 j hj
  rw [gD_set hj]
  by_cases c : j = i
  · rw [if_pos c]
    subst c
    exact ⟨by rw [← h1]; exact e.1, by rw [← h2]; exact e.2.1, by rw [← h3]; exact e.2.2.1, am_us⟩
  · rw [if_neg c]
    exact ⟨e.1, e.2.1, e.2.2.1, by rw [am_uw (by omega) rfl]; exact e.2.2.2⟩
theorem chm_app {x y z : Int32} {tt : Int64} (h : ch_m I L k C) (hl : C.length < 8) : ch_m (am_u (am_u (am_u (am_u I 130 k (nI (C.length + 1))) 131 (8 * k + C.length) x) 132 (8 * k + C.length) y) 133 (8 * k + C.length) z) (am_u L 134 (8 * k + C.length) tt) k (C ++ [(x, y, z, tt)]) := by
  refine ⟨?_, by rw [List.length_append]; show C.length + 1 ≤ 8; omega, fun j hj => ?_⟩
  · rw [List.length_append]
    exact am_uv (by decide) (am_uv (by decide) (am_uv (by decide) am_us))
  · rw [List.length_append] at hj
    have hj : j < C.length + 1 := hj
    rw [gD_app hj]
    by_cases c : j = C.length
    · rw [if_pos c, c]
      exact ⟨am_uv (by decide) (am_uv (by decide) am_us), am_uv (by decide) am_us, am_us, am_us⟩
    · rw [if_neg c]
      have e := h.2.2 j (by omega)
      exact ⟨am_uv (by decide) (am_uv (by decide) (am_uw (by omega) (am_uv (by decide) e.1))), am_uv (by decide) (am_uw (by omega) (am_uv (by decide) (am_uv (by decide) e.2.1))), am_uw (by omega) (am_uv (by decide) (am_uv (by decide) (am_uv (by decide) e.2.2.1))), by rw [am_uw (by omega) rfl]; exact e.2.2.2⟩
theorem c_252 (h : CX I L A U rl fr t n F T s ip port sg) (hb : tbm I L al) (hok : tok al) (f0 : fy I0 I) (g0 : fyl L0 L) (hm9 : mth (nb A 0 2) = nI 9) (hk8 : k < 8) {a : AL} (ha : al k = some a) {pr : PR} (hpr : pr = bch al t F A k a) (hq : ∀ I' L', res I0 I' L0 L' A U rl fr T ip port sg (mth (nb A 0 2)) pr → Q none (am_SH N, I', L', am_RR w)) : am_call (d + 8) 252 [.ref 100, .int (nI k)] (am_SH N, I, L, am_RR w) Q := by
  have hh := h
  obtain ⟨⟨hA, hm, hD⟩, ⟨hp, hT⟩, ⟨h65, h66, h67, hsg⟩, ⟨hk, hr, hrl⟩, ⟨hokU, hu⟩, ⟨hfr, hX⟩, ⟨hfk, hF⟩, ht, hn⟩ := h
  have hmm := hb k hk8
  rw [ha] at hmm
  have hmm : sm I L k a := hmm
  obtain ⟨a1, a2, a3, a4, a5, a6, a7, a8, a9⟩ := id hmm
  obtain ⟨hpu, hcu, -⟩ := hok.1 k a hk8 ha
  have h20 := msg20 hm
  have l96 := ats_100 hA.2.2 hm
  have cl := cng_le A
  have t2 := hA.2.1
  have t3 := hA.2.2
  have hP16 := a8.2.1
  have hC8 := a9.2.1
  -- the end
  have fin1 : ∀ (I1 : Nat → Nat → Int32) (L1 : Nat → Nat → Int64) (o2 o3 o4 o5 o6 o7 o8 : Option Value) (C' : CH) (x : Int32), pr = (0, upa al k (some (a.1, a.2.1, a.2.2.1, pmt a.2.2.2.1 x (t + lN 300), C')), 0, 0) → (pf a.2.2.2.1 x = none → a.2.2.2.1.length < 16) → ch_m I1 L1 k C' → fs k I I1 → fs k L L1 → (∀ p, p ≠ 130 → p ≠ 131 → p ≠ 132 → p ≠ 133 → I1 p = I p) → (∀ p, p ≠ 134 → L1 p = L p) → am_V 252 am_c252 (d + 7) (am_SH N) Q 150 [some (.ref 100), some (.int (nI k)), o2, o3, o4, o5, o6, o7, o8] [.int x, .int (nI k), .ref 100] (am_SH N, I1, L1, am_RR w) := by
    intro I1 L1 o2 o3 o4 o5 o6 o7 o8 C' x hp1 hroom c1 f1 g1 f1' g1'
    have p1 : pm_m I1 L1 k a.2.2.2.1 := ⟨by rw [f1' 127 (by decide) (by decide) (by decide) (by decide)]; exact a8.1, a8.2.1, fun j hj => ⟨by rw [f1' 128 (by decide) (by decide) (by decide) (by decide)]; exact (a8.2.2 j hj).1, by rw [g1' 129 (by decide)]; exact (a8.2.2 j hj).2⟩⟩
    have ht1 : L1 100 34 = t := by rw [g1' 100 (by decide)]; exact ht
    refine w_Vv (k := 150) [_, _] rfl rfl rfl (Nat.le_of_ble_eq_true rfl) (by first | assumption | rfl) (Or.inl ⟨rfl, rfl⟩) ?_
    refine (c_213 hk8 p1 hpu ht1 hroom (fun I2 L2 p2 f2 g2 f2' g2' => ⟨rfl, ?_⟩))
    have F2 : ∀ x, x < 120 ∨ 134 < x → I2 x = I x := fun x hx => by rw [fs_p f2 hx, fs_p f1 hx]
    have G2 : ∀ x, x < 120 ∨ 134 < x → L2 x = L x := fun x hx => by rw [fs_p g2 hx, fs_p g1 hx]
    have b2 : tbm I2 L2 (upa al k (some (a.1, a.2.1, a.2.2.1, pmt a.2.2.2.1 x (t + lN 300), C'))) := tbm_u (k := k) (o := some _) hb (fs_t f1 f2) (fs_t g1 g2) (by
      have e : ∀ p, p ≠ 127 → p ≠ 128 → p ≠ 130 → p ≠ 131 → p ≠ 132 → p ≠ 133 → I2 p = I p := fun p q1 q2 q3 q4 q5 q6 => by rw [f2' p q1 q2, f1' p q3 q4 q5 q6]
      have e' : ∀ p, p ≠ 129 → p ≠ 134 → L2 p = L p := fun p q1 q2 => by rw [g2' p q1, g1' p q2]
      exact ⟨by rw [e 120 (by decide) (by decide) (by decide) (by decide) (by decide) (by decide)]; exact a1, by rw [e 121 (by decide) (by decide) (by decide) (by decide) (by decide) (by decide)]; exact a2, by rw [e 122 (by decide) (by decide) (by decide) (by decide) (by decide) (by decide)]; exact a3, by rw [e 123 (by decide) (by decide) (by decide) (by decide) (by decide) (by decide)]; exact a4, by rw [e 124 (by decide) (by decide) (by decide) (by decide) (by decide) (by decide)]; exact a5, by rw [e' 125 (by decide) (by decide)]; exact a6, by rw [e 126 (by decide) (by decide) (by decide) (by decide) (by decide) (by decide)]; exact a7, p2, ⟨by rw [f2' 130 (by decide) (by decide)]; exact c1.1, c1.2.1, fun j hj => ⟨by rw [f2' 131 (by decide) (by decide)]; exact (c1.2.2 j hj).1, by rw [f2' 132 (by decide) (by decide)]; exact (c1.2.2 j hj).2.1, by rw [f2' 133 (by decide) (by decide)]; exact (c1.2.2 j hj).2.2.1, by rw [g2' 134 (by decide)]; exact (c1.2.2 j hj).2.2.2⟩⟩⟩)
    have h2 := cx_k hh F2 G2
    have hA2 : mT I2 A := h2.1.1
    have hp2 : po_m I2 (clr s) := h2.2.1.1
    refine wp_aload (k := 151) rfl rfl ?_
    refine w_ic (k := 152) (x := nI 9) rfl (oi_nI 9) ?_
    refine w_ic (k := 153) (x := nI 2) rfl (oi_nI 2) ?_
    refine w_Vv (k := 154) [_, _] rfl rfl rfl (Nat.le_of_ble_eq_true rfl) (by first | assumption | rfl) (Or.inl ⟨rfl, rfl⟩) ?_
    refine (c_225 hA2 h20 hp2.2.2.2.2 (by decide) (fun I3 k3 f3 => ⟨rfl, ?_⟩))
    rw [← hdA_0] at k3
    have ex : told (hdA A (nI 9) 0) (nI 9) 0 0 ip port = hdA A (nI 9) 0 := by unfold told; rw [if_neg (by decide), if_neg (by decide), if_neg (by decide)]
    rw [← ex] at k3
    refine wp_aload (k := 155) rfl rfl ?_
    refine w_Vv (k := 156) [] rfl rfl rfl (Nat.le_of_ble_eq_true rfl) (by first | assumption | rfl) (Or.inl ⟨rfl, rfl⟩) ?_
    refine (c_232r h2 b2 (fy_t f0 (fy_a F2)) (fyl_t g0 (fyl_a G2)) hm9.symm f3 k3 hp1 (fun I' L' r' => ⟨rfl, ?_⟩))
    refine w_rv (k := 157) rfl rfl rfl rfl ?_
    exact hq I' L' r'
  have bad24 : ∀ (o2 o3 : Option Value), pr = (400, al, 0, 0) → am_V 252 am_c252 (d + 7) (am_SH N) Q 24 [some (.ref 100), some (.int (nI k)), o2, o3, none, none, none, none, none] [] (am_SH N, I, L, am_RR w) := fun o2 o3 ax => by
    refine wp_aload (k := 24) rfl rfl ?_
    refine w_ic (k := 25) (x := nI 400) rfl (oi_nI 400) ?_
    refine w_Vv (k := 26) [_] rfl rfl rfl (Nat.le_of_ble_eq_true rfl) (by first | assumption | rfl) (Or.inl ⟨rfl, rfl⟩) ?_
    refine (c_233r hh hb f0 g0 (by decide) ax (fun I' L' r' => ⟨rfl, ?_⟩))
    refine w_rv (k := 27) rfl rfl rfl rfl ?_
    exact hq I' L' r'
  refine am_enter (ls := [some _, some _, none, none, none, none, none, none, none]) (cs := am_c252) rfl rfl (Nat.le_of_ble_eq_true rfl) rfl ?_
  refine wp_aload (k := 0) rfl rfl ?_
  refine w_ic (k := 1) (x := nI 12) rfl (oi_nI 12) ?_
  refine w_Vi (k := 2) [_] rfl rfl rfl (Nat.le_of_ble_eq_true rfl) (by first | assumption | rfl) (Or.inl ⟨rfl, rfl⟩) ?_
  refine (c_218 hA hm hD (by unfold kfs; omega) ?_)
  refine ⟨_, rfl, ?_⟩
  refine wp_istore (k := 3) (ls2 := [some _, some _, some _, none, none, none, none, none, none]) rfl rfl ?_
  refine wp_aload (k := 4) rfl rfl ?_
  refine w_ic (k := 5) (x := nI 18) rfl (oi_nI 18) ?_
  refine w_Vi (k := 6) [_] rfl rfl rfl (Nat.le_of_ble_eq_true rfl) (by first | assumption | rfl) (Or.inl ⟨rfl, rfl⟩) ?_
  refine (c_218 hA hm hD (by unfold kfs; omega) ?_)
  refine ⟨_, rfl, ?_⟩
  refine wp_istore (k := 7) (ls2 := [some _, some _, some _, some _, none, none, none, none, none]) rfl rfl ?_
  cases h12 : fnd A 12 with
  | none =>
    have ax : pr = (400, al, 0, 0) := by rw [hpr]; unfold bch; rw [h12]
    refine wp_iload (k := 8) rfl rfl ?_
    refine w_z_lt (k := 9) (t' := 24) rfl rfl (fun zq => ?_) (fun zq => absurd (by decide) zq)
    exact bad24 _ _ ax
  | some c =>
    have e12 := fnd_lt h12
    cases h18 : fnd A 18 with
    | none =>
      have ax : pr = (400, al, 0, 0) := by rw [hpr]; unfold bch; rw [h12]; simp only; rw [h18]
      refine wp_iload (k := 8) rfl rfl ?_
      refine w_z_lt (k := 9) (t' := 24) rfl rfl (fun zq => absurd zq (nI_pos (by omega))) (fun zq => ?_)
      refine wp_iload (k := 10) rfl rfl ?_
      refine w_z_lt (k := 11) (t' := 24) rfl rfl (fun zq => ?_) (fun zq => absurd (by decide) zq)
      exact bad24 _ _ ax
    | some p =>
      have e18 := fnd_lt h18
      have s18 := z_18 e18.2.2.1 e18.2.2.2
      have z12 := z_4 (Or.inl e12.2.2.1) e12.2.2.2
      have fit := ats_fit hm e12.2.1
      have fit : stA A c + _ ≤ A.length := fit
      have q12 := mD_at hD e12.1
      have b1 := nb_lt t2.2 (stA A c) 2
      have ax : pr = if (16384 ≤ nb A (stA A c) 2 ∧ nb A (stA A c) 2 ≤ 20479) ∧ cf a.2.2.2.2 (nI (nb A (stA A c) 2)) = ct a.2.2.2.2 (ipo A p) (poo A p) then (if brd F (ipo A p) then (403, al, 0, 0) else if ((cf a.2.2.2.2 (nI (nb A (stA A c) 2))).isSome || decide (a.2.2.2.2.length < 8)) && ((pf a.2.2.2.1 (ipo A p)).isSome || decide (a.2.2.2.1.length < 16)) then (0, upa al k (some (a.1, a.2.1, a.2.2.1, pmt a.2.2.2.1 (ipo A p) (t + lN 300), cbd a.2.2.2.2 (nI (nb A (stA A c) 2)) (ipo A p) (poo A p) (t + lN 600))), 0, 0) else (508, al, 0, 0)) else (400, al, 0, 0) := by rw [hpr]; unfold bch; rw [h12]; simp only; rw [h18]
      refine wp_iload (k := 8) rfl rfl ?_
      refine w_z_lt (k := 9) (t' := 24) rfl rfl (fun zq => absurd zq (nI_pos (by omega))) (fun zq => ?_)
      refine wp_iload (k := 10) rfl rfl ?_
      refine w_z_lt (k := 11) (t' := 24) rfl rfl (fun zq => absurd zq (nI_pos (by omega))) (fun zq => ?_)
      refine wp_aload (k := 12) rfl rfl ?_
      refine w_gr (k := 13) (s := 14) rfl rfl (by first | assumption | rfl) (by first | assumption | rfl) ?_
      refine wp_aload (k := 14) rfl rfl ?_
      refine w_gr (k := 15) (s := 52) rfl rfl (by first | assumption | rfl) (by first | assumption | rfl) ?_
      refine wp_iload (k := 16) rfl rfl ?_
      refine w_iald (k := 17) rfl rfl (by first | assumption | rfl) (by omega) q12.2.2 ?_
      refine w_Si (k := 18) [_, _] rfl rfl rfl (Nat.le_of_ble_eq_true rfl) (Or.inl ⟨rfl, rfl⟩) ?_
      refine (c_179 rfl (by decide) t2 (by omega) (by omega) ?_)
      refine ⟨_, rfl, ?_⟩
      refine wp_i2l (k := 19) rfl ?_
      refine w_lc (k := 20) (x := lN 16384) rfl (ol_lN 16384) ?_
      refine w_lc (k := 21) (x := lN 20479) rfl (ol_lN 20479) ?_
      refine w_Si (k := 22) [_, _, _] rfl rfl rfl (Nat.le_of_ble_eq_true rfl) (Or.inl ⟨rfl, rfl⟩) ?_
      refine (c_166 ?_)
      refine ⟨_, rfl, ?_⟩
      rw [nI_l (by omega), show decide (lN 16384 ≤ lN (nb A (stA A c) 2) ∧ lN (nb A (stA A c) 2) ≤ lN 20479) = decide (16384 ≤ nb A (stA A c) 2 ∧ nb A (stA A c) 2 ≤ 20479) from decide_eq_decide.mpr (by rw [l_leN (by decide) (by omega), l_leN (by omega) (by decide)])]
      refine w_b_ne (k := 23) (t' := 28) rfl rfl (fun k1 => ?_) (fun k1 => ?_)
      · have k1 := of_decide_eq_true k1
        refine wp_aload (k := 28) rfl rfl ?_
        refine w_gr (k := 29) (s := 14) rfl rfl (by first | assumption | rfl) (by first | assumption | rfl) ?_
        refine wp_aload (k := 30) rfl rfl ?_
        refine w_gr (k := 31) (s := 52) rfl rfl (by first | assumption | rfl) (by first | assumption | rfl) ?_
        refine wp_iload (k := 32) rfl rfl ?_
        refine w_iald (k := 33) rfl rfl (by first | assumption | rfl) (by omega) q12.2.2 ?_
        refine w_Si (k := 34) [_, _] rfl rfl rfl (Nat.le_of_ble_eq_true rfl) (Or.inl ⟨rfl, rfl⟩) ?_
        refine (c_179 rfl (by decide) t2 (by omega) (by omega) ?_)
        refine ⟨_, rfl, ?_⟩
        refine wp_istore (k := 35) (ls2 := [some _, some _, some _, some _, some _, none, none, none, none]) rfl rfl ?_
        refine wp_aload (k := 36) rfl rfl ?_
        refine wp_iload (k := 37) rfl rfl ?_
        refine w_Vi (k := 38) [_] rfl rfl rfl (Nat.le_of_ble_eq_true rfl) (by first | assumption | rfl) (Or.inl ⟨rfl, rfl⟩) ?_
        refine (c_221 hA hm hD e18.1 s18 ?_)
        refine ⟨_, rfl, ?_⟩
        refine wp_istore (k := 39) (ls2 := [some _, some _, some _, some _, some _, some _, none, none, none]) rfl rfl ?_
        refine wp_aload (k := 40) rfl rfl ?_
        refine wp_iload (k := 41) rfl rfl ?_
        refine w_Vi (k := 42) [_] rfl rfl rfl (Nat.le_of_ble_eq_true rfl) (by first | assumption | rfl) (Or.inl ⟨rfl, rfl⟩) ?_
        refine (c_222 hA hm hD e18.1 s18 ?_)
        refine ⟨_, rfl, ?_⟩
        refine wp_istore (k := 43) (ls2 := [some _, some _, some _, some _, some _, some _, some _, none, none]) rfl rfl ?_
        generalize nb A (stA A c) 2 = x at *
        generalize ipo A p = y at *
        generalize poo A p = z at *
        have hii := oI_inj (a := cf a.2.2.2.2 (nI x)) (b := ct a.2.2.2.2 y z) (fun i e => by have := (cf_lt e).1; omega) (fun i e => by have := (ct_lt e).1; omega)
        refine wp_aload (k := 44) rfl rfl ?_
        refine wp_iload (k := 45) rfl rfl ?_
        refine wp_iload (k := 46) rfl rfl ?_
        refine w_Vi (k := 47) [_, _] rfl rfl rfl (Nat.le_of_ble_eq_true rfl) (by first | assumption | rfl) (Or.inl ⟨rfl, rfl⟩) ?_
        refine (c_211 hk8 a9 hcu ?_)
        refine ⟨_, rfl, ?_⟩
        refine wp_istore (k := 48) (ls2 := [some _, some _, some _, some _, some _, some _, some _, some _, none]) rfl rfl ?_
        refine wp_aload (k := 49) rfl rfl ?_
        refine wp_iload (k := 50) rfl rfl ?_
        refine wp_iload (k := 51) rfl rfl ?_
        refine wp_iload (k := 52) rfl rfl ?_
        refine w_Vi (k := 53) [_, _, _] rfl rfl rfl (Nat.le_of_ble_eq_true rfl) (by first | assumption | rfl) (Or.inl ⟨rfl, rfl⟩) ?_
        refine (c_212 hk8 a9 hcu ?_)
        refine ⟨_, rfl, ?_⟩
        refine wp_istore (k := 54) (ls2 := [some _, some _, some _, some _, some _, some _, some _, some _, some _]) rfl rfl ?_
        refine wp_iload (k := 55) rfl rfl ?_
        refine wp_iload (k := 56) rfl rfl ?_
        refine w_c_eq (k := 57) (t' := 62) rfl rfl (fun k2 => ?_) (fun k2 => ?_)
        · have k2 := hii.mp k2
          rw [if_pos ⟨k1, k2⟩] at ax
          refine wp_aload (k := 62) rfl rfl ?_
          refine wp_iload (k := 63) rfl rfl ?_
          refine w_Vi (k := 64) [_] rfl rfl rfl (Nat.le_of_ble_eq_true rfl) (by first | assumption | rfl) (Or.inl ⟨rfl, rfl⟩) ?_
          refine (c_205 hfk hF ?_)
          refine ⟨_, rfl, ?_⟩
          refine w_b_eq (k := 65) (t' := 70) rfl rfl (fun k3 => ?_) (fun k3 => ?_)
          · rw [if_neg (by rw [k3]; decide)] at ax
            -- no room
            have full : (((cf a.2.2.2.2 (nI x)).isSome || decide (a.2.2.2.2.length < 8)) && ((pf a.2.2.2.1 y).isSome || decide (a.2.2.2.1.length < 16))) = false → am_V 252 am_c252 (d + 7) (am_SH N) Q 89 [some (.ref 100), some (.int (nI k)), some (.int (oI (some c))), some (.int (oI (some p))), some (.int (nI x)), some (.int y), some (.int z), some (.int (oI (cf a.2.2.2.2 (nI x)))), some (.int (oI (ct a.2.2.2.2 y z)))] [] (am_SH N, I, L, am_RR w) := fun e => by
              rw [if_neg (by rw [e]; decide)] at ax
              refine wp_aload (k := 89) rfl rfl ?_
              refine w_ic (k := 90) (x := nI 508) rfl (oi_nI 508) ?_
              refine w_Vv (k := 91) [_] rfl rfl rfl (Nat.le_of_ble_eq_true rfl) (by first | assumption | rfl) (Or.inl ⟨rfl, rfl⟩) ?_
              refine (c_233r hh hb f0 g0 (by decide) ax (fun I' L' r' => ⟨rfl, ?_⟩))
              refine w_rv (k := 92) rfl rfl rfl rfl ?_
              exact hq I' L' r'
            -- room
            have room : ((cf a.2.2.2.2 (nI x)).isSome = true ∨ a.2.2.2.2.length < 8) → ((pf a.2.2.2.1 y).isSome = true ∨ a.2.2.2.1.length < 16) → am_V 252 am_c252 (d + 7) (am_SH N) Q 93 [some (.ref 100), some (.int (nI k)), some (.int (oI (some c))), some (.int (oI (some p))), some (.int (nI x)), some (.int y), some (.int z), some (.int (oI (cf a.2.2.2.2 (nI x)))), some (.int (oI (ct a.2.2.2.2 y z)))] [] (am_SH N, I, L, am_RR w) := fun r1 r2 => by
              rw [if_pos (by rw [Bool.and_eq_true, Bool.or_eq_true, Bool.or_eq_true]; exact ⟨r1.imp id decide_eq_true, r2.imp id decide_eq_true⟩)] at ax
              have hroom : pf a.2.2.2.1 y = none → a.2.2.2.1.length < 16 := fun e => by
                rcases r2 with q | q
                · rw [e] at q; cases q
                · exact q
              cases hcf : cf a.2.2.2.2 (nI x) with
              | some i =>
                rw [hcf] at k2
                obtain ⟨i1, i2⟩ := cf_lt hcf
                obtain ⟨-, i3, i4⟩ := ct_lt k2.symm
                have ecb : cbd a.2.2.2.2 (nI x) y z (t + lN 600) = a.2.2.2.2.set i (nI x, y, z, t + lN 600) := by unfold cbd; rw [hcf]
                rw [ecb] at ax
                refine wp_iload (k := 93) rfl rfl ?_
                refine w_z_ge (k := 94) (t' := 135) rfl rfl (fun zq => ?_) (fun zq => absurd (nI_pos' (by omega)) zq)
                refine wp_aload (k := 135) rfl rfl ?_
                refine w_gr (k := 136) (s := 49) rfl rfl (by first | assumption | rfl) (by first | assumption | rfl) ?_
                refine w_ic (k := 137) (x := nI 8) rfl (oi_nI 8) ?_
                refine wp_iload (k := 138) rfl rfl ?_
                refine w_mulN (k := 139) rfl ?_
                refine wp_iload (k := 140) rfl rfl ?_
                rw [show oI (some i) = nI i from rfl]
                refine w_addN (k := 141) rfl ?_
                refine wp_aload (k := 142) rfl rfl ?_
                refine w_gl (k := 143) (s := 34) rfl rfl (by first | assumption | rfl) ht ?_
                refine w_lc (k := 144) (x := lN 600) rfl (ol_lN 600) ?_
                refine wp_ladd (k := 145) rfl ?_
                refine w_last (k := 146) rfl rfl (by first | assumption | rfl) (by omega) ?_
                refine wp_aload (k := 147) rfl rfl ?_
                refine wp_iload (k := 148) rfl rfl ?_
                refine wp_iload (k := 149) rfl rfl ?_
                exact fin1 I _ _ _ _ _ _ _ _ _ y ax hroom (chm_set a9 i1 i2 i3 i4) fs_rf (fs_u (so_8 (by decide) (by omega))) (fun _ _ _ _ _ => rfl) (fun p hp => am_uR hp)
              | none =>
                have hl8 : a.2.2.2.2.length < 8 := by
                  rcases r1 with q | q
                  · rw [hcf] at q; cases q
                  · exact q
                have ecb : cbd a.2.2.2.2 (nI x) y z (t + lN 600) = a.2.2.2.2 ++ [(nI x, y, z, t + lN 600)] := by unfold cbd; rw [hcf]; simp only; rw [if_pos hl8]
                rw [ecb] at ax
                refine wp_iload (k := 93) rfl rfl ?_
                refine w_z_ge (k := 94) (t' := 135) rfl rfl (fun zq => absurd zq (by decide)) (fun zq => ?_)
                refine wp_aload (k := 95) rfl rfl ?_
                refine w_gr (k := 96) (s := 45) rfl rfl (by first | assumption | rfl) (by first | assumption | rfl) ?_
                refine wp_iload (k := 97) rfl rfl ?_
                refine w_iald (k := 98) rfl rfl (by first | assumption | rfl) (by omega) a9.1 ?_
                refine wp_istore (k := 99) (ls2 := [some _, some _, some _, some _, some _, some _, some _, some _, some _]) rfl rfl ?_
                refine wp_aload (k := 100) rfl rfl ?_
                refine w_gr (k := 101) (s := 45) rfl rfl (by first | assumption | rfl) (by first | assumption | rfl) ?_
                refine wp_iload (k := 102) rfl rfl ?_
                refine wp_dup2 (k := 103) rfl rfl rfl ?_
                refine w_iald (k := 104) rfl rfl (by first | assumption | rfl) (by omega) a9.1 ?_
                refine w_ic (k := 105) (x := nI 1) rfl (oi_nI 1) ?_
                refine w_addN (k := 106) rfl ?_
                refine w_iast (k := 107) rfl rfl (by omega) (by first | assumption | rfl) (by omega) ?_
                refine wp_aload (k := 108) rfl rfl ?_
                refine w_gr (k := 109) (s := 46) rfl rfl (by first | assumption | rfl) (by first | assumption | rfl) ?_
                refine w_ic (k := 110) (x := nI 8) rfl (oi_nI 8) ?_
                refine wp_iload (k := 111) rfl rfl ?_
                refine w_mulN (k := 112) rfl ?_
                refine wp_iload (k := 113) rfl rfl ?_
                refine w_addN (k := 114) rfl ?_
                refine wp_iload (k := 115) rfl rfl ?_
                refine w_iast (k := 116) rfl rfl (by omega) (by first | assumption | rfl) (by omega) ?_
                refine wp_aload (k := 117) rfl rfl ?_
                refine w_gr (k := 118) (s := 47) rfl rfl (by first | assumption | rfl) (by first | assumption | rfl) ?_
                refine w_ic (k := 119) (x := nI 8) rfl (oi_nI 8) ?_
                refine wp_iload (k := 120) rfl rfl ?_
                refine w_mulN (k := 121) rfl ?_
                refine wp_iload (k := 122) rfl rfl ?_
                refine w_addN (k := 123) rfl ?_
                refine wp_iload (k := 124) rfl rfl ?_
                refine w_iast (k := 125) rfl rfl (by omega) (by first | assumption | rfl) (by omega) ?_
                refine wp_aload (k := 126) rfl rfl ?_
                refine w_gr (k := 127) (s := 48) rfl rfl (by first | assumption | rfl) (by first | assumption | rfl) ?_
                refine w_ic (k := 128) (x := nI 8) rfl (oi_nI 8) ?_
                refine wp_iload (k := 129) rfl rfl ?_
                refine w_mulN (k := 130) rfl ?_
                refine wp_iload (k := 131) rfl rfl ?_
                refine w_addN (k := 132) rfl ?_
                refine wp_iload (k := 133) rfl rfl ?_
                refine w_iast (k := 134) rfl rfl (by omega) (by first | assumption | rfl) (by omega) ?_
                refine wp_aload (k := 135) rfl rfl ?_
                refine w_gr (k := 136) (s := 49) rfl rfl (by first | assumption | rfl) (by first | assumption | rfl) ?_
                refine w_ic (k := 137) (x := nI 8) rfl (oi_nI 8) ?_
                refine wp_iload (k := 138) rfl rfl ?_
                refine w_mulN (k := 139) rfl ?_
                refine wp_iload (k := 140) rfl rfl ?_
                refine w_addN (k := 141) rfl ?_
                refine wp_aload (k := 142) rfl rfl ?_
                refine w_gl (k := 143) (s := 34) rfl rfl (by first | assumption | rfl) ht ?_
                refine w_lc (k := 144) (x := lN 600) rfl (ol_lN 600) ?_
                refine wp_ladd (k := 145) rfl ?_
                refine w_last (k := 146) rfl rfl (by first | assumption | rfl) (by omega) ?_
                refine wp_aload (k := 147) rfl rfl ?_
                refine wp_iload (k := 148) rfl rfl ?_
                refine wp_iload (k := 149) rfl rfl ?_
                exact fin1 _ _ _ _ _ _ _ _ _ _ y ax hroom (chm_app a9 hl8) (fs_t (fs_t (fs_t (fs_u (so_1 (by omega))) (fs_u (so_8 (by decide) (by omega)))) (fs_u (so_8 (by decide) (by omega)))) (fs_u (so_8 (by decide) (by omega)))) (fs_u (so_8 (by decide) (by omega))) (fun p h1 h2 h3 h4 => by rw [am_uR h4, am_uR h3, am_uR h2, am_uR h1]) (fun p hp => am_uR hp)
            -- the permission's room
            have perm : ((cf a.2.2.2.2 (nI x)).isSome = true ∨ a.2.2.2.2.length < 8) → am_V 252 am_c252 (d + 7) (am_SH N) Q 78 [some (.ref 100), some (.int (nI k)), some (.int (oI (some c))), some (.int (oI (some p))), some (.int (nI x)), some (.int y), some (.int z), some (.int (oI (cf a.2.2.2.2 (nI x)))), some (.int (oI (ct a.2.2.2.2 y z)))] [] (am_SH N, I, L, am_RR w) := fun r1 => by
              refine wp_aload (k := 78) rfl rfl ?_
              refine wp_iload (k := 79) rfl rfl ?_
              refine wp_iload (k := 80) rfl rfl ?_
              refine w_Vi (k := 81) [_, _] rfl rfl rfl (Nat.le_of_ble_eq_true rfl) (by first | assumption | rfl) (Or.inl ⟨rfl, rfl⟩) ?_
              refine (c_210 hk8 a8 hpu ?_)
              refine ⟨_, rfl, ?_⟩
              cases hpf : pf a.2.2.2.1 y with
              | some i =>
                have := (pf_lt hpf).1
                refine w_z_ge (k := 82) (t' := 93) rfl rfl (fun zq => ?_) (fun zq => absurd (nI_pos' (by omega)) zq)
                exact room r1 (Or.inl (by rw [hpf]; rfl))
              | none =>
                refine w_z_ge (k := 82) (t' := 93) rfl rfl (fun zq => absurd zq (by decide)) (fun zq => ?_)
                refine wp_aload (k := 83) rfl rfl ?_
                refine w_gr (k := 84) (s := 42) rfl rfl (by first | assumption | rfl) (by first | assumption | rfl) ?_
                refine wp_iload (k := 85) rfl rfl ?_
                refine w_iald (k := 86) rfl rfl (by first | assumption | rfl) (by omega) a8.1 ?_
                refine w_ic (k := 87) (x := nI 16) rfl (oi_nI 16) ?_
                refine w_n_ne (k := 88) (t' := 93) rfl rfl (by omega) (fun k5 => ?_) (fun k5 => ?_)
                · exact room r1 (Or.inr (by omega))
                · refine full ?_
                  rw [hpf, decide_eq_false (by omega : ¬ a.2.2.2.1.length < 16)]
                  simp
            cases hcf : cf a.2.2.2.2 (nI x) with
            | some i =>
              have := (cf_lt hcf).1
              rw [hcf] at perm
              refine wp_iload (k := 70) rfl rfl ?_
              refine w_z_ge (k := 71) (t' := 78) rfl rfl (fun zq => ?_) (fun zq => absurd (nI_pos' (by omega)) zq)
              exact perm (Or.inl rfl)
            | none =>
              rw [hcf] at perm full
              refine wp_iload (k := 70) rfl rfl ?_
              refine w_z_ge (k := 71) (t' := 78) rfl rfl (fun zq => absurd zq (by decide)) (fun zq => ?_)
              refine wp_aload (k := 72) rfl rfl ?_
              refine w_gr (k := 73) (s := 45) rfl rfl (by first | assumption | rfl) (by first | assumption | rfl) ?_
              refine wp_iload (k := 74) rfl rfl ?_
              refine w_iald (k := 75) rfl rfl (by first | assumption | rfl) (by omega) a9.1 ?_
              refine w_ic (k := 76) (x := nI 8) rfl (oi_nI 8) ?_
              refine w_n_eq (k := 77) (t' := 89) rfl rfl (by omega) (fun k5 => ?_) (fun k5 => ?_)
              · refine full ?_
                rw [decide_eq_false (by omega : ¬ a.2.2.2.2.length < 8)]
                rfl
              · exact perm (Or.inr (by omega))
          · rw [if_pos k3] at ax
            refine wp_aload (k := 66) rfl rfl ?_
            refine w_ic (k := 67) (x := nI 403) rfl (oi_nI 403) ?_
            refine w_Vv (k := 68) [_] rfl rfl rfl (Nat.le_of_ble_eq_true rfl) (by first | assumption | rfl) (Or.inl ⟨rfl, rfl⟩) ?_
            refine (c_233r hh hb f0 g0 (by decide) ax (fun I' L' r' => ⟨rfl, ?_⟩))
            refine w_rv (k := 69) rfl rfl rfl rfl ?_
            exact hq I' L' r'
        · rw [if_neg (fun q => k2 (hii.mpr q.2))] at ax
          refine wp_aload (k := 58) rfl rfl ?_
          refine w_ic (k := 59) (x := nI 400) rfl (oi_nI 400) ?_
          refine w_Vv (k := 60) [_] rfl rfl rfl (Nat.le_of_ble_eq_true rfl) (by first | assumption | rfl) (Or.inl ⟨rfl, rfl⟩) ?_
          refine (c_233r hh hb f0 g0 (by decide) ax (fun I' L' r' => ⟨rfl, ?_⟩))
          refine w_rv (k := 61) rfl rfl rfl rfl ?_
          exact hq I' L' r'
      · rw [if_neg (fun q => of_decide_eq_false k1 q.1)] at ax
        exact bad24 _ _ ax
end MB
