/-! ===== permits of the reference ===== -/
section MP
variable {d N : Nat} {I : Nat → Nat → Int32} {L : Nat → Nat → Int64} {w : Option Nat} {Q : am_Q} {A : List Nat} {al : Nat → Option AL} {U : UR} {rl : List Nat} {fr t : Int64} {n : Int32} {F : FR} {T : Nat → Int32} {s : SN} {ip port : Int32} {sg : Option Nat} {I0 : Nat → Nat → Int32} {L0 : Nat → Nat → Int64} {k : Nat} {C : CH}
theorem kfs18 {x : Nat} (h : x = 18) : kfs x := by unfold kfs; omega
theorem c_251 (h : CX I L A U rl fr t n F T s ip port sg) (hb : tbm I L al) (hok : tok al) (f0 : fy I0 I) (g0 : fyl L0 L) (hm8 : mth (nb A 0 2) = nI 8) (hk8 : k < 8) {a : AL} (ha : al k = some a) {pr : PR} (hpr : pr = ppr al t F A k a) (hq : ∀ I' L', res I0 I' L0 L' A U rl fr T ip port sg (mth (nb A 0 2)) pr → Q none (am_SH N, I', L', am_RR w)) : am_call (d + 8) 251 [.ref 100, .int (nI k)] (am_SH N, I, L, am_RR w) Q := by
  have hh := h
  obtain ⟨⟨hA, hm, hD⟩, ⟨hp, hT⟩, ⟨h65, h66, h67, hsg⟩, ⟨hk, hr, hrl⟩, ⟨hokU, hu⟩, ⟨hfr, hX⟩, ⟨hfk, hF⟩, ht, hn⟩ := h
  have hmm := hb k hk8
  rw [ha] at hmm
  have hmm : sm I L k a := hmm
  obtain ⟨a1, a2, a3, a4, a5, a6, a7, a8, a9⟩ := id hmm
  obtain ⟨hpu, hcu, -⟩ := hok.1 k a hk8 ha
  have h20 := msg20 hm
  have l96 := ats_100 hA.2.2 hm
  have cl := cng_le A
  have hP16 := a8.2.1
  have h53 : I 100 53 = nI (cng A) := hD.1
  have eX : prs A (cts A) = Xi A (cng A) := rfl
  have ax : pr = if (Xi A (cng A)).length = 0 then (400, al, 0, 0) else if (Xi A (cng A)).any (brd F) then (403, al, 0, 0) else if a.2.2.2.1.length + nwp a.2.2.2.1 (Xi A (cng A)) ≤ 16 then (0, upa al k (some (a.1, a.2.1, a.2.2.1, pms t a.2.2.2.1 (Xi A (cng A)), a.2.2.2.2)), 0, 0) else (508, al, 0, 0) := by rw [hpr, ← eX]; rfl
  have nle : ∀ i, i ≤ cng A → nwp a.2.2.2.1 (Xi A i) ≤ i := by
    intro i
    induction i with
    | zero => intro _; exact Nat.le_refl _
    | succ i ih =>
      intro hi
      have ih := ih (by omega)
      rw [Xi_s (by omega)]
      by_cases c : okA A i = true
      · rw [if_pos c]
        by_cases c2 : ipo A i ∈ Xi A i
        · rw [if_pos c2]; omega
        · rw [if_neg c2, nwp_app, nwp_1]
          by_cases c3 : (pf a.2.2.2.1 (ipo A i)).isNone = true
          · rw [if_pos c3]; omega
          · rw [if_neg c3]; omega
      · rw [if_neg c]; omega
  -- the last loop
  have last : ∀ (r i : Nat) (I1 : Nat → Nat → Int32) (L1 : Nat → Nat → Int64) (P' : PM) (o2 o3 o6 o7 : Option Value) (x4 : Int32), i + r = cng A → pr = (0, upa al k (some (a.1, a.2.1, a.2.2.1, pms t a.2.2.2.1 (Xi A (cng A)), a.2.2.2.2)), 0, 0) → a.2.2.2.1.length + nwp a.2.2.2.1 (Xi A (cng A)) ≤ 16 → pm_m I1 L1 k P' → pinv t a.2.2.2.1 (Xi A i) P' → fs k I I1 → fs k L L1 → (∀ p, p ≠ 127 → p ≠ 128 → I1 p = I p) → (∀ p, p ≠ 129 → L1 p = L p) → am_V 251 am_c251 (d + 7) (am_SH N) Q 113 [some (.ref 100), some (.int (nI k)), o2, o3, some (.int x4), some (.int (nI i)), o6, o7] [] (am_SH N, I1, L1, am_RR w) := by
    intro r
    induction r with
    | zero =>
      intro i I1 L1 P' o2 o3 o6 o7 x4 hi hp1 hle p1 pi1 f1 g1 f1' g1'
      obtain rfl : i = cng A := by omega
      have v53 : I1 100 53 = nI (cng A) := by rw [f1' 100 (by decide) (by decide)]; exact h53
      have F1 : ∀ x, x < 120 ∨ 134 < x → I1 x = I x := fun x hx => fs_p f1 hx
      have G1 : ∀ x, x < 120 ∨ 134 < x → L1 x = L x := fun x hx => fs_p g1 hx
      rw [pi1.1] at p1
      have b1 : tbm I1 L1 (upa al k (some (a.1, a.2.1, a.2.2.1, pms t a.2.2.2.1 (Xi A (cng A)), a.2.2.2.2))) := tbm_u (k := k) (o := some _) hb f1 g1 (by
        exact ⟨by rw [f1' 120 (by decide) (by decide)]; exact a1, by rw [f1' 121 (by decide) (by decide)]; exact a2, by rw [f1' 122 (by decide) (by decide)]; exact a3, by rw [f1' 123 (by decide) (by decide)]; exact a4, by rw [f1' 124 (by decide) (by decide)]; exact a5, by rw [g1' 125 (by decide)]; exact a6, by rw [f1' 126 (by decide) (by decide)]; exact a7, p1, ⟨by rw [f1' 130 (by decide) (by decide)]; exact a9.1, a9.2.1, fun j hj => ⟨by rw [f1' 131 (by decide) (by decide)]; exact (a9.2.2 j hj).1, by rw [f1' 132 (by decide) (by decide)]; exact (a9.2.2 j hj).2.1, by rw [f1' 133 (by decide) (by decide)]; exact (a9.2.2 j hj).2.2.1, by rw [g1' 134 (by decide)]; exact (a9.2.2 j hj).2.2.2⟩⟩⟩)
      have h1 := cx_k hh F1 G1
      have hA1 : mT I1 A := h1.1.1
      have hp1' : po_m I1 (clr s) := h1.2.1.1
      refine wp_iload (k := 113) rfl rfl ?_
      refine wp_aload (k := 114) rfl rfl ?_
      refine w_gi (k := 115) (s := 53) rfl rfl (by first | assumption | rfl) v53 ?_
      refine w_n_ge (k := 116) (t' := 135) rfl rfl (by omega) (fun zq => ?_) (fun zq => absurd zq (by omega))
      refine wp_aload (k := 135) rfl rfl ?_
      refine w_ic (k := 136) (x := nI 8) rfl (oi_nI 8) ?_
      refine w_ic (k := 137) (x := nI 2) rfl (oi_nI 2) ?_
      refine w_Vv (k := 138) [_, _] rfl rfl rfl (Nat.le_of_ble_eq_true rfl) (by first | assumption | rfl) (Or.inl ⟨rfl, rfl⟩) ?_
      refine (c_225 hA1 h20 hp1'.2.2.2.2 (by decide) (fun I3 k3 f3 => ⟨rfl, ?_⟩))
      rw [← hdA_0] at k3
      have ex : told (hdA A (nI 8) 0) (nI 8) 0 0 ip port = hdA A (nI 8) 0 := by unfold told; rw [if_neg (by decide), if_neg (by decide), if_neg (by decide)]
      rw [← ex] at k3
      refine wp_aload (k := 139) rfl rfl ?_
      refine w_Vv (k := 140) [] rfl rfl rfl (Nat.le_of_ble_eq_true rfl) (by first | assumption | rfl) (Or.inl ⟨rfl, rfl⟩) ?_
      refine (c_232r h1 b1 (fy_t f0 (fy_a F1)) (fyl_t g0 (fyl_a G1)) hm8.symm f3 k3 hp1 (fun I' L' r' => ⟨rfl, ?_⟩))
      refine w_rv (k := 141) rfl rfl rfl rfl ?_
      exact hq I' L' r'
    | succ r ih =>
      intro i I1 L1 P' o2 o3 o6 o7 x4 hi hp1 hle p1 pi1 f1 g1 f1' g1'
      have v53 : I1 100 53 = nI (cng A) := by rw [f1' 100 (by decide) (by decide)]; exact h53
      have F1 : ∀ x, x < 120 ∨ 134 < x → I1 x = I x := fun x hx => fs_p f1 hx
      have G1 : ∀ x, x < 120 ∨ 134 < x → L1 x = L x := fun x hx => fs_p g1 hx
      have h1 := cx_k hh F1 G1
      have hA1 : mT I1 A := h1.1.1
      have hD1 : mD I1 A (ats A) := h1.1.2.2
      have ht1 : L1 100 34 = t := by rw [g1' 100 (by decide)]; exact ht
      have q1 := mD_at hD1 (i := i) (by omega)
      have at1 := ats_at hA.2.1.2 (i := i) (by omega)
      have xs := Xi_s (A := A) (i := i) (by omega)
      have skip : okA A i = false → am_V 251 am_c251 (d + 7) (am_SH N) Q 133 [some (.ref 100), some (.int (nI k)), o2, o3, some (.int x4), some (.int (nI i)), o6, o7] [] (am_SH N, I1, L1, am_RR w) := fun e => by
        rw [if_neg (by rw [e]; decide)] at xs
        refine w_incN (k := 133) (m := 1) rfl (oi_nI 1) rfl ?_
        refine w_ls (ls2 := [some _, some _, _, _, some _, some _, _, _]) rfl ?_
        refine w_goto (k := 134) (t' := 113) rfl rfl ?_
        exact ih (i + 1) I1 L1 P' o2 o3 o6 o7 x4 (by omega) hp1 hle p1 (by rw [xs]; exact pi1) f1 g1 f1' g1'
      refine wp_iload (k := 113) rfl rfl ?_
      refine wp_aload (k := 114) rfl rfl ?_
      refine w_gi (k := 115) (s := 53) rfl rfl (by first | assumption | rfl) v53 ?_
      refine w_n_ge (k := 116) (t' := 135) rfl rfl (by omega) (fun zq => absurd zq (by omega)) (fun zq => ?_)
      refine wp_aload (k := 117) rfl rfl ?_
      refine w_gr (k := 118) (s := 50) rfl rfl (by first | assumption | rfl) (by first | assumption | rfl) ?_
      refine wp_iload (k := 119) rfl rfl ?_
      refine w_iald (k := 120) rfl rfl (by first | assumption | rfl) (by omega) q1.1 ?_
      refine w_ic (k := 121) (x := nI 18) rfl (oi_nI 18) ?_
      refine w_n_ne (k := 122) (t' := 133) rfl rfl (by omega) (fun k1 => ?_) (fun k1 => ?_)
      · exact skip (by unfold okA; rw [decide_eq_false k1]; rfl)
      · refine wp_aload (k := 123) rfl rfl ?_
        refine wp_iload (k := 124) rfl rfl ?_
        refine w_Vi (k := 125) [_] rfl rfl rfl (Nat.le_of_ble_eq_true rfl) (by first | assumption | rfl) (Or.inl ⟨rfl, rfl⟩) ?_
        refine (c_217 hA1 hm hD1 (by omega) (kfs18 k1) ?_)
        refine ⟨_, rfl, ?_⟩
        refine w_b_eq (k := 126) (t' := 133) rfl rfl (fun k2 => ?_) (fun k2 => ?_)
        · exact skip (by unfold okA; rw [k2]; simp)
        · have okc : okA A i = true := by unfold okA; rw [decide_eq_true k1, k2]; rfl
          rw [if_pos okc] at xs
          have s18 := z_18 k1 k2
          refine wp_aload (k := 127) rfl rfl ?_
          refine wp_iload (k := 128) rfl rfl ?_
          refine wp_aload (k := 129) rfl rfl ?_
          refine wp_iload (k := 130) rfl rfl ?_
          refine w_Vi (k := 131) [_] rfl rfl rfl (Nat.le_of_ble_eq_true rfl) (by first | assumption | rfl) (Or.inl ⟨rfl, rfl⟩) ?_
          refine (c_221 hA1 hm hD1 (by omega) s18 ?_)
          refine ⟨_, rfl, ?_⟩
          by_cases c2 : ipo A i ∈ Xi A i
          · rw [if_pos c2] at xs
            have hroom : pf P' (ipo A i) = none → P'.length < 16 := fun e => by
              obtain ⟨j, j1, -⟩ := pi1.2.1 _ c2
              rw [j1] at e; cases e
            refine w_Vv (k := 132) [_, _] rfl rfl rfl (Nat.le_of_ble_eq_true rfl) (by first | assumption | rfl) (Or.inl ⟨rfl, rfl⟩) ?_
            refine (c_213 hk8 p1 pi1.2.2.2.2 ht1 hroom (fun I2 L2 p2 f2 g2 f2' g2' => ⟨rfl, ?_⟩))
            refine w_incN (k := 133) (m := 1) rfl (oi_nI 1) rfl ?_
            refine w_ls (ls2 := [some _, some _, _, _, some _, some _, _, _]) rfl ?_
            refine w_goto (k := 134) (t' := 113) rfl rfl ?_
            exact ih (i + 1) I2 L2 _ o2 o3 o6 o7 x4 (by omega) hp1 hle p2 (by rw [xs]; exact pinv_in pi1 c2) (fs_t f1 f2) (fs_t g1 g2) (fun p y1 y2 => by rw [f2' p y1 y2, f1' p y1 y2]) (fun p y1 => by rw [g2' p y1, g1' p y1])
          · rw [if_neg c2] at xs
            have hn16 : a.2.2.2.1.length + nwp a.2.2.2.1 (Xi A i ++ [ipo A i]) ≤ 16 := by
              obtain ⟨Z, hZ⟩ := Xi_pre (A := A) (i := i + 1) (r := r) (by omega)
              rw [show i + 1 + r = cng A by omega] at hZ
              rw [hZ, nwp_app, xs] at hle
              omega
            have hroom := pinv_room pi1 hn16
            refine w_Vv (k := 132) [_, _] rfl rfl rfl (Nat.le_of_ble_eq_true rfl) (by first | assumption | rfl) (Or.inl ⟨rfl, rfl⟩) ?_
            refine (c_213 hk8 p1 pi1.2.2.2.2 ht1 hroom (fun I2 L2 p2 f2 g2 f2' g2' => ⟨rfl, ?_⟩))
            refine w_incN (k := 133) (m := 1) rfl (oi_nI 1) rfl ?_
            refine w_ls (ls2 := [some _, some _, _, _, some _, some _, _, _]) rfl ?_
            refine w_goto (k := 134) (t' := 113) rfl rfl ?_
            exact ih (i + 1) I2 L2 _ o2 o3 o6 o7 x4 (by omega) hp1 hle p2 (by rw [xs]; exact pinv_new pi1 c2 hroom) (fs_t f1 f2) (fs_t g1 g2) (fun p y1 y2 => by rw [f2' p y1 y2, f1' p y1 y2]) (fun p y1 => by rw [g2' p y1, g1' p y1])
  -- behind the first loop
  have mid : ∀ (c : Nat) (o6 o7 : Option Value), c < 1000 → (c = 0 ↔ (Xi A (cng A)).length = 0) → am_V 251 am_c251 (d + 7) (am_SH N) Q 87 [some (.ref 100), some (.int (nI k)), some (.int (nI c)), some (.int (nI (nwp a.2.2.2.1 (Xi A (cng A))))), some (.int (bI ((Xi A (cng A)).any (brd F)))), some (.int (nI (cng A))), o6, o7] [] (am_SH N, I, L, am_RR w) := by
    intro c o6 o7 hc hc0
    have nl := nle (cng A) (Nat.le_refl _)
    refine wp_iload (k := 87) rfl rfl ?_
    refine w_m_ne (k := 88) (t' := 93) rfl rfl (by omega) (fun k1 => ?_) (fun k1 => ?_)
    · rw [if_neg (fun e => k1 (hc0.mpr e))] at ax
      refine wp_iload (k := 93) rfl rfl ?_
      refine w_b_eq (k := 94) (t' := 99) rfl rfl (fun k2 => ?_) (fun k2 => ?_)
      · rw [if_neg (by rw [k2]; decide)] at ax
        refine wp_aload (k := 99) rfl rfl ?_
        refine w_gr (k := 100) (s := 42) rfl rfl (by first | assumption | rfl) (by first | assumption | rfl) ?_
        refine wp_iload (k := 101) rfl rfl ?_
        refine w_iald (k := 102) rfl rfl (by first | assumption | rfl) (by omega) a8.1 ?_
        refine wp_iload (k := 103) rfl rfl ?_
        refine w_addN (k := 104) rfl ?_
        refine w_ic (k := 105) (x := nI 16) rfl (oi_nI 16) ?_
        refine w_n_le (k := 106) (t' := 111) rfl rfl (by omega) (fun k3 => ?_) (fun k3 => ?_)
        · rw [if_pos k3] at ax
          refine w_ic (k := 111) (x := nI 0) rfl (oi_nI 0) ?_
          refine wp_istore (k := 112) (ls2 := [some _, some _, some _, some _, some _, some _, _, _]) rfl rfl ?_
          exact last (cng A) 0 I L a.2.2.2.1 _ _ _ _ _ (by omega) ax k3 a8 (pinv_0 hpu) fs_rf fs_rf (fun _ _ _ => rfl) (fun _ _ => rfl)
        · rw [if_neg (by omega)] at ax
          refine wp_aload (k := 107) rfl rfl ?_
          refine w_ic (k := 108) (x := nI 508) rfl (oi_nI 508) ?_
          refine w_Vv (k := 109) [_] rfl rfl rfl (Nat.le_of_ble_eq_true rfl) (by first | assumption | rfl) (Or.inl ⟨rfl, rfl⟩) ?_
          refine (c_233r hh hb f0 g0 (by decide) ax (fun I' L' r' => ⟨rfl, ?_⟩))
          refine w_goto (k := 110) (t' := 141) rfl rfl ?_
          refine w_rv (k := 141) rfl rfl rfl rfl ?_
          exact hq I' L' r'
      · rw [if_pos k2] at ax
        refine wp_aload (k := 95) rfl rfl ?_
        refine w_ic (k := 96) (x := nI 403) rfl (oi_nI 403) ?_
        refine w_Vv (k := 97) [_] rfl rfl rfl (Nat.le_of_ble_eq_true rfl) (by first | assumption | rfl) (Or.inl ⟨rfl, rfl⟩) ?_
        refine (c_233r hh hb f0 g0 (by decide) ax (fun I' L' r' => ⟨rfl, ?_⟩))
        refine w_goto (k := 98) (t' := 141) rfl rfl ?_
        refine w_rv (k := 141) rfl rfl rfl rfl ?_
        exact hq I' L' r'
    · rw [if_pos (hc0.mp k1)] at ax
      refine wp_aload (k := 89) rfl rfl ?_
      refine w_ic (k := 90) (x := nI 400) rfl (oi_nI 400) ?_
      refine w_Vv (k := 91) [_] rfl rfl rfl (Nat.le_of_ble_eq_true rfl) (by first | assumption | rfl) (Or.inl ⟨rfl, rfl⟩) ?_
      refine (c_233r hh hb f0 g0 (by decide) ax (fun I' L' r' => ⟨rfl, ?_⟩))
      refine w_goto (k := 92) (t' := 141) rfl rfl ?_
      refine w_rv (k := 141) rfl rfl rfl rfl ?_
      exact hq I' L' r'
  -- the first loop
  have first : ∀ (r i c : Nat) (o6 o7 : Option Value), i + r = cng A → c ≤ i → (c = 0 ↔ (Xi A i).length = 0) → am_V 251 am_c251 (d + 7) (am_SH N) Q 8 [some (.ref 100), some (.int (nI k)), some (.int (nI c)), some (.int (nI (nwp a.2.2.2.1 (Xi A i)))), some (.int (bI ((Xi A i).any (brd F)))), some (.int (nI i)), o6, o7] [] (am_SH N, I, L, am_RR w) := by
    intro r
    induction r with
    | zero =>
      intro i c o6 o7 hi hci hc0
      obtain rfl : i = cng A := by omega
      refine wp_iload (k := 8) rfl rfl ?_
      refine wp_aload (k := 9) rfl rfl ?_
      refine w_gi (k := 10) (s := 53) rfl rfl (by first | assumption | rfl) h53 ?_
      refine w_n_ge (k := 11) (t' := 87) rfl rfl (by omega) (fun zq => ?_) (fun zq => absurd zq (by omega))
      exact mid c o6 o7 (by omega) hc0
    | succ r ih =>
      intro i c o6 o7 hi hci hc0
      have q1 := mD_at hD (i := i) (by omega)
      have at1 := ats_at hA.2.1.2 (i := i) (by omega)
      have xs := Xi_s (A := A) (i := i) (by omega)
      have nl := nle i (by omega)
      have skip : okA A i = false → am_V 251 am_c251 (d + 7) (am_SH N) Q 85 [some (.ref 100), some (.int (nI k)), some (.int (nI c)), some (.int (nI (nwp a.2.2.2.1 (Xi A i)))), some (.int (bI ((Xi A i).any (brd F)))), some (.int (nI i)), o6, o7] [] (am_SH N, I, L, am_RR w) := fun e => by
        rw [if_neg (by rw [e]; decide)] at xs
        have := ih (i + 1) c o6 o7 (by omega) (by omega) (by rw [xs]; exact hc0)
        rw [xs] at this
        refine w_incN (k := 85) (m := 1) rfl (oi_nI 1) rfl ?_
        refine w_ls (ls2 := [some _, some _, some _, some _, some _, some _, _, _]) rfl ?_
        refine w_goto (k := 86) (t' := 8) rfl rfl ?_
        exact this
      refine wp_iload (k := 8) rfl rfl ?_
      refine wp_aload (k := 9) rfl rfl ?_
      refine w_gi (k := 10) (s := 53) rfl rfl (by first | assumption | rfl) h53 ?_
      refine w_n_ge (k := 11) (t' := 87) rfl rfl (by omega) (fun zq => absurd zq (by omega)) (fun zq => ?_)
      refine wp_aload (k := 12) rfl rfl ?_
      refine w_gr (k := 13) (s := 50) rfl rfl (by first | assumption | rfl) (by first | assumption | rfl) ?_
      refine wp_iload (k := 14) rfl rfl ?_
      refine w_iald (k := 15) rfl rfl (by first | assumption | rfl) (by omega) q1.1 ?_
      refine w_ic (k := 16) (x := nI 18) rfl (oi_nI 18) ?_
      refine w_n_ne (k := 17) (t' := 85) rfl rfl (by omega) (fun k1 => ?_) (fun k1 => ?_)
      · exact skip (by unfold okA; rw [decide_eq_false k1]; rfl)
      · refine wp_aload (k := 18) rfl rfl ?_
        refine wp_iload (k := 19) rfl rfl ?_
        refine w_Vi (k := 20) [_] rfl rfl rfl (Nat.le_of_ble_eq_true rfl) (by first | assumption | rfl) (Or.inl ⟨rfl, rfl⟩) ?_
        refine (c_217 hA hm hD (by omega) (kfs18 k1) ?_)
        refine ⟨_, rfl, ?_⟩
        refine w_b_ne (k := 21) (t' := 23) rfl rfl (fun k2 => ?_) (fun k2 => ?_)
        · have okc : okA A i = true := by unfold okA; rw [decide_eq_true k1, k2]; rfl
          rw [if_pos okc] at xs
          have s18 := z_18 k1 k2
          have hany : (Xi A (i + 1)).any (brd F) = ((Xi A i).any (brd F) || brd F (ipo A i)) := by
            rw [xs]
            by_cases c2 : ipo A i ∈ Xi A i
            · rw [if_pos c2]
              cases e : (Xi A i).any (brd F) with
              | true => rfl
              | false =>
                cases e2 : brd F (ipo A i) with
                | false => rfl
                | true =>
                  have : (Xi A i).any (brd F) = true := by rw [List.any_eq_true]; exact ⟨_, c2, e2⟩
                  rw [this] at e; cases e
            · rw [if_neg c2, List.any_append]; simp
          have hnw : nwp a.2.2.2.1 (Xi A (i + 1)) = nwp a.2.2.2.1 (Xi A i) + if ((pf a.2.2.2.1 (ipo A i)).isNone && decide (ipo A i ∉ Xi A i)) then 1 else 0 := by
            rw [xs]
            by_cases c2 : ipo A i ∈ Xi A i
            · rw [if_pos c2, decide_eq_false (fun q => q c2)]; simp
            · rw [if_neg c2, decide_eq_true c2, nwp_app, nwp_1]; simp
          have hX1 : (c + 1 = 0 ↔ (Xi A (i + 1)).length = 0) := by
            refine ⟨fun e => by omega, fun e => ?_⟩
            exfalso
            have : ipo A i ∈ Xi A (i + 1) := by
              rw [xs]
              by_cases c2 : ipo A i ∈ Xi A i
              · rw [if_pos c2]; exact c2
              · rw [if_neg c2]; simp
            rw [List.length_eq_zero_iff.mp e] at this
            cases this
          have hmem := Xi_mem (A := A) (i := i) (by omega) (ipo A i)
          have ih := ih (i + 1) (c + 1)
          rw [hany, hnw] at ih
          -- behind the inner loop
          have fin77 : ∀ (b bd : Bool) (o7 : Option Value), bd = ((Xi A i).any (brd F) || brd F (ipo A i)) → b = ((pf a.2.2.2.1 (ipo A i)).isNone && decide (ipo A i ∉ Xi A i)) → am_V 251 am_c251 (d + 7) (am_SH N) Q 77 [some (.ref 100), some (.int (nI k)), some (.int (nI (c + 1))), some (.int (nI (nwp a.2.2.2.1 (Xi A i)))), some (.int (bI bd)), some (.int (nI i)), some (.int (bI b)), o7] [] (am_SH N, I, L, am_RR w) := fun b bd o7 hbd hbb => by
            rw [← hbd, ← hbb] at ih
            refine wp_iload (k := 77) rfl rfl ?_
            refine wp_iload (k := 78) rfl rfl ?_
            refine w_b_eq (k := 79) (t' := 82) rfl rfl (fun e1 => ?_) (fun e1 => ?_)
            · rw [e1] at ih
              rw [e1]
              refine w_ic (k := 82) (x := nI 0) rfl (oi_nI 0) ?_
              refine w_addN (k := 83) rfl ?_
              refine wp_istore (k := 84) (ls2 := [some _, some _, some _, some _, some _, some _, some _, _]) rfl rfl ?_
              refine w_incN (k := 85) (m := 1) rfl (oi_nI 1) rfl ?_
              refine w_ls (ls2 := [some _, some _, some _, some _, some _, some _, some _, _]) rfl ?_
              refine w_goto (k := 86) (t' := 8) rfl rfl ?_
              exact ih _ _ (by omega) (by omega) hX1
            · rw [e1] at ih
              rw [e1]
              refine w_ic (k := 80) (x := nI 1) rfl (oi_nI 1) ?_
              refine w_goto (k := 81) (t' := 83) rfl rfl ?_
              refine w_addN (k := 83) rfl ?_
              refine wp_istore (k := 84) (ls2 := [some _, some _, some _, some _, some _, some _, some _, _]) rfl rfl ?_
              refine w_incN (k := 85) (m := 1) rfl (oi_nI 1) rfl ?_
              refine w_ls (ls2 := [some _, some _, some _, some _, some _, some _, some _, _]) rfl ?_
              refine w_goto (k := 86) (t' := 8) rfl rfl ?_
              exact ih _ _ (by omega) (by omega) hX1
          have inner : ∀ (r' j : Nat) (b bd : Bool), bd = ((Xi A i).any (brd F) || brd F (ipo A i)) → j + r' = i → (b = true ↔ ((pf a.2.2.2.1 (ipo A i)).isNone = true ∧ ∀ j', j' < j → ¬ (okA A j' = true ∧ ipo A j' = ipo A i))) → am_V 251 am_c251 (d + 7) (am_SH N) Q 49 [some (.ref 100), some (.int (nI k)), some (.int (nI (c + 1))), some (.int (nI (nwp a.2.2.2.1 (Xi A i)))), some (.int (bI bd)), some (.int (nI i)), some (.int (bI b)), some (.int (nI j))] [] (am_SH N, I, L, am_RR w) := by
            intro r'
            induction r' with
            | zero =>
              intro j b bd hbd hj hbb
              obtain rfl : j = i := by omega
              refine wp_iload (k := 49) rfl rfl ?_
              refine wp_iload (k := 50) rfl rfl ?_
              refine w_n_ge (k := 51) (t' := 77) rfl rfl (by omega) (fun zq => ?_) (fun zq => absurd zq (by omega))
              refine fin77 b bd _ hbd ?_
              cases b with
              | true =>
                have := hbb.mp rfl
                have hni : ipo A j ∉ Xi A j := fun q => by obtain ⟨j', y1, y2, y3⟩ := hmem.mp q; exact this.2 j' y1 ⟨y2, y3⟩
                rw [this.1, decide_eq_true hni]
                rfl
              | false =>
                cases e : ((pf a.2.2.2.1 (ipo A j)).isNone && decide (ipo A j ∉ Xi A j)) with
                | false => rfl
                | true =>
                  rw [Bool.and_eq_true] at e
                  have e2 := of_decide_eq_true e.2
                  have := hbb.mpr ⟨e.1, fun j' y1 y2 => e2 (hmem.mpr ⟨j', y1, y2.1, y2.2⟩)⟩
                  cases this
            | succ r' ihi =>
              intro j b bd hbd hj hbb
              have q2 := mD_at hD (i := j) (by omega)
              have at2 := ats_at hA.2.1.2 (i := j) (by omega)
              refine wp_iload (k := 49) rfl rfl ?_
              refine wp_iload (k := 50) rfl rfl ?_
              refine w_n_ge (k := 51) (t' := 77) rfl rfl (by omega) (fun zq => absurd zq (by omega)) (fun zq => ?_)
              refine wp_iload (k := 52) rfl rfl ?_
              refine w_b_eq (k := 53) (t' := 77) rfl rfl (fun e1 => ?_) (fun e1 => ?_)
              · refine fin77 b bd _ hbd ?_
                rw [e1]
                cases e : ((pf a.2.2.2.1 (ipo A i)).isNone && decide (ipo A i ∉ Xi A i)) with
                | false => rfl
                | true =>
                  rw [Bool.and_eq_true] at e
                  have e2 := of_decide_eq_true e.2
                  have := hbb.mpr ⟨e.1, fun j' y1 y2 => e2 (hmem.mpr ⟨j', by omega, y2.1, y2.2⟩)⟩
                  rw [this] at e1
                  cases e1
              · have hb1 := hbb.mp e1
                have go71 : ¬ (okA A j = true ∧ ipo A j = ipo A i) → am_V 251 am_c251 (d + 7) (am_SH N) Q 71 [some (.ref 100), some (.int (nI k)), some (.int (nI (c + 1))), some (.int (nI (nwp a.2.2.2.1 (Xi A i)))), some (.int (bI bd)), some (.int (nI i)), some (.int (bI b)), some (.int (nI j))] [] (am_SH N, I, L, am_RR w) := fun hno => by
                  refine w_ic (k := 71) (x := bI true) rfl rfl ?_
                  refine w_goto (k := 72) (t' := 74) rfl rfl ?_
                  refine wp_istore (k := 74) (ls2 := [some _, some _, some _, some _, some _, some _, some _, some _]) rfl rfl ?_
                  refine w_incN (k := 75) (m := 1) rfl (oi_nI 1) rfl ?_
                  refine w_ls (ls2 := [some _, some _, some _, some _, some _, some _, some _, some _]) rfl ?_
                  refine w_goto (k := 76) (t' := 49) rfl rfl ?_
                  refine ihi (j + 1) true bd hbd (by omega) ⟨fun _ => ⟨hb1.1, fun j' y1 => ?_⟩, fun _ => rfl⟩
                  by_cases ej : j' = j
                  · rw [ej]; exact hno
                  · exact hb1.2 j' (by omega)
                refine wp_aload (k := 54) rfl rfl ?_
                refine w_gr (k := 55) (s := 50) rfl rfl (by first | assumption | rfl) (by first | assumption | rfl) ?_
                refine wp_iload (k := 56) rfl rfl ?_
                refine w_iald (k := 57) rfl rfl (by first | assumption | rfl) (by omega) q2.1 ?_
                refine w_ic (k := 58) (x := nI 18) rfl (oi_nI 18) ?_
                refine w_n_ne (k := 59) (t' := 71) rfl rfl (by omega) (fun k3 => ?_) (fun k3 => ?_)
                · exact go71 (fun q => by have := q.1; unfold okA at this; rw [decide_eq_false k3] at this; cases this)
                · refine wp_aload (k := 60) rfl rfl ?_
                  refine wp_iload (k := 61) rfl rfl ?_
                  refine w_Vi (k := 62) [_] rfl rfl rfl (Nat.le_of_ble_eq_true rfl) (by first | assumption | rfl) (Or.inl ⟨rfl, rfl⟩) ?_
                  refine (c_217 hA hm hD (by omega) (kfs18 k3) ?_)
                  refine ⟨_, rfl, ?_⟩
                  refine w_b_eq (k := 63) (t' := 71) rfl rfl (fun k4 => ?_) (fun k4 => ?_)
                  · exact go71 (fun q => by have := q.1; unfold okA at this; rw [k4] at this; simp at this)
                  · have okj : okA A j = true := by unfold okA; rw [decide_eq_true k3, k4]; rfl
                    have s18j := z_18 k3 k4
                    refine wp_aload (k := 64) rfl rfl ?_
                    refine wp_iload (k := 65) rfl rfl ?_
                    refine w_Vi (k := 66) [_] rfl rfl rfl (Nat.le_of_ble_eq_true rfl) (by first | assumption | rfl) (Or.inl ⟨rfl, rfl⟩) ?_
                    refine (c_221 hA hm hD (by omega) s18j ?_)
                    refine ⟨_, rfl, ?_⟩
                    refine wp_aload (k := 67) rfl rfl ?_
                    refine wp_iload (k := 68) rfl rfl ?_
                    refine w_Vi (k := 69) [_] rfl rfl rfl (Nat.le_of_ble_eq_true rfl) (by first | assumption | rfl) (Or.inl ⟨rfl, rfl⟩) ?_
                    refine (c_221 hA hm hD (by omega) s18 ?_)
                    refine ⟨_, rfl, ?_⟩
                    refine w_c_eq (k := 70) (t' := 73) rfl rfl (fun k5 => ?_) (fun k5 => ?_)
                    · refine w_ic (k := 73) (x := bI false) rfl rfl ?_
                      refine wp_istore (k := 74) (ls2 := [some _, some _, some _, some _, some _, some _, some _, some _]) rfl rfl ?_
                      refine w_incN (k := 75) (m := 1) rfl (oi_nI 1) rfl ?_
                      refine w_ls (ls2 := [some _, some _, some _, some _, some _, some _, some _, some _]) rfl ?_
                      refine w_goto (k := 76) (t' := 49) rfl rfl ?_
                      refine ihi (j + 1) false bd hbd (by omega) ⟨fun z => absurd z (by decide), fun z => absurd ⟨okj, k5⟩ (z.2 j (by omega))⟩
                    · exact go71 (fun q => k5 q.2)
          -- behind the fence
          have afterB : ∀ (bd : Bool) (o6 o7 : Option Value), bd = ((Xi A i).any (brd F) || brd F (ipo A i)) → am_V 251 am_c251 (d + 7) (am_SH N) Q 36 [some (.ref 100), some (.int (nI k)), some (.int (nI (c + 1))), some (.int (nI (nwp a.2.2.2.1 (Xi A i)))), some (.int (bI bd)), some (.int (nI i)), o6, o7] [] (am_SH N, I, L, am_RR w) := fun bd o6 o7 hbd => by
            refine wp_aload (k := 36) rfl rfl ?_
            refine wp_iload (k := 37) rfl rfl ?_
            refine wp_aload (k := 38) rfl rfl ?_
            refine wp_iload (k := 39) rfl rfl ?_
            refine w_Vi (k := 40) [_] rfl rfl rfl (Nat.le_of_ble_eq_true rfl) (by first | assumption | rfl) (Or.inl ⟨rfl, rfl⟩) ?_
            refine (c_221 hA hm hD (by omega) s18 ?_)
            refine ⟨_, rfl, ?_⟩
            refine w_Vi (k := 41) [_, _] rfl rfl rfl (Nat.le_of_ble_eq_true rfl) (by first | assumption | rfl) (Or.inl ⟨rfl, rfl⟩) ?_
            refine (c_210 hk8 a8 hpu ?_)
            refine ⟨_, rfl, ?_⟩
            cases hpf : pf a.2.2.2.1 (ipo A i) with
            | some x =>
              have := (pf_lt hpf).1
              refine w_z_ge (k := 42) (t' := 45) rfl rfl (fun zq => ?_) (fun zq => absurd (nI_pos' (by omega)) zq)
              refine w_ic (k := 45) (x := bI false) rfl rfl ?_
              refine wp_istore (k := 46) (ls2 := [some _, some _, some _, some _, some _, some _, some _, _]) rfl rfl ?_
              refine w_ic (k := 47) (x := nI 0) rfl (oi_nI 0) ?_
              refine wp_istore (k := 48) (ls2 := [some _, some _, some _, some _, some _, some _, some _, some _]) rfl rfl ?_
              exact inner i 0 false bd hbd (by omega) ⟨fun z => absurd z (by decide), fun z => by rw [hpf] at z; exact absurd z.1 (by simp)⟩
            | none =>
              refine w_z_ge (k := 42) (t' := 45) rfl rfl (fun zq => absurd zq (by decide)) (fun zq => ?_)
              refine w_ic (k := 43) (x := bI true) rfl rfl ?_
              refine w_goto (k := 44) (t' := 46) rfl rfl ?_
              refine wp_istore (k := 46) (ls2 := [some _, some _, some _, some _, some _, some _, some _, _]) rfl rfl ?_
              refine w_ic (k := 47) (x := nI 0) rfl (oi_nI 0) ?_
              refine wp_istore (k := 48) (ls2 := [some _, some _, some _, some _, some _, some _, some _, some _]) rfl rfl ?_
              exact inner i 0 true bd hbd (by omega) ⟨fun _ => ⟨by rw [hpf]; rfl, fun j' y => absurd y (Nat.not_lt_zero _)⟩, fun _ => rfl⟩
          refine w_incN (k := 23) (m := 1) rfl (oi_nI 1) rfl ?_
          refine w_ls (ls2 := [some _, some _, some _, some _, some _, some _, _, _]) rfl ?_
          refine wp_iload (k := 24) rfl rfl ?_
          refine w_b_ne (k := 25) (t' := 32) rfl rfl (fun k3 => ?_) (fun k3 => ?_)
          · refine w_ic (k := 32) (x := bI true) rfl rfl ?_
            refine w_goto (k := 33) (t' := 35) rfl rfl ?_
            refine wp_istore (k := 35) (ls2 := [some _, some _, some _, some _, some _, some _, _, _]) rfl rfl ?_
            exact afterB true _ _ (by rw [k3]; rfl)
          · refine wp_aload (k := 26) rfl rfl ?_
            refine wp_aload (k := 27) rfl rfl ?_
            refine wp_iload (k := 28) rfl rfl ?_
            refine w_Vi (k := 29) [_] rfl rfl rfl (Nat.le_of_ble_eq_true rfl) (by first | assumption | rfl) (Or.inl ⟨rfl, rfl⟩) ?_
            refine (c_221 hA hm hD (by omega) s18 ?_)
            refine ⟨_, rfl, ?_⟩
            refine w_Vi (k := 30) [_] rfl rfl rfl (Nat.le_of_ble_eq_true rfl) (by first | assumption | rfl) (Or.inl ⟨rfl, rfl⟩) ?_
            refine (c_205 hfk hF ?_)
            refine ⟨_, rfl, ?_⟩
            refine w_b_eq (k := 31) (t' := 34) rfl rfl (fun k4 => ?_) (fun k4 => ?_)
            · refine w_ic (k := 34) (x := bI false) rfl rfl ?_
              refine wp_istore (k := 35) (ls2 := [some _, some _, some _, some _, some _, some _, _, _]) rfl rfl ?_
              exact afterB false _ _ (by rw [k3, k4]; rfl)
            · refine w_ic (k := 32) (x := bI true) rfl rfl ?_
              refine w_goto (k := 33) (t' := 35) rfl rfl ?_
              refine wp_istore (k := 35) (ls2 := [some _, some _, some _, some _, some _, some _, _, _]) rfl rfl ?_
              exact afterB true _ _ (by rw [k3, k4]; rfl)
        · refine w_goto (k := 22) (t' := 85) rfl rfl ?_
          exact skip (by unfold okA; rw [k2]; simp)
  refine am_enter (ls := [some _, some _, none, none, none, none, none, none]) (cs := am_c251) rfl rfl (Nat.le_of_ble_eq_true rfl) rfl ?_
  refine w_ic (k := 0) (x := nI 0) rfl (oi_nI 0) ?_
  refine wp_istore (k := 1) (ls2 := [some _, some _, some _, none, none, none, none, none]) rfl rfl ?_
  refine w_ic (k := 2) (x := nI 0) rfl (oi_nI 0) ?_
  refine wp_istore (k := 3) (ls2 := [some _, some _, some _, some _, none, none, none, none]) rfl rfl ?_
  refine w_ic (k := 4) (x := bI false) rfl rfl ?_
  refine wp_istore (k := 5) (ls2 := [some _, some _, some _, some _, some _, none, none, none]) rfl rfl ?_
  refine w_ic (k := 6) (x := nI 0) rfl (oi_nI 0) ?_
  refine wp_istore (k := 7) (ls2 := [some _, some _, some _, some _, some _, some _, none, none]) rfl rfl ?_
  exact first (cng A) 0 0 _ _ (by omega) (by omega) ⟨fun _ => rfl, fun _ => rfl⟩
end MP
