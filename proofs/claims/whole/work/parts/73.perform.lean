/-! ===== CHANNEL_BIND and perform: the class ===== -/
def pfm (al : Nat → Option AL) (t : Int64) (n sg : Int32) (F : FR) (B : List Nat) (ip port m : Int32) : PR := if m = nI 1 then (0, al, 0, 0) else if m = nI 3 then alc al t n sg B ip port else match clf al ip port with
  | none => (437, al, 0, 0)
  | some k => match al k with
    | none => (437, al, 0, 0)
    | some a => if a.1.2.2.1 = sg then (if m = nI 4 then rfr al t B k a else if m = nI 8 then ppr al t F B k a else bch al t F B k a) else (441, al, 0, 0)
section PF
variable {d N : Nat} {I : Nat → Nat → Int32} {L : Nat → Nat → Int64} {w : Option Nat} {Q : am_Q} {A : List Nat} {al : Nat → Option AL} {t : Int64} {ip port sg n : Int32} {F : FR}
theorem c_116 (h : tbc I L al) (ht : L 24 1 = t) (hA : cT I A) (hl : lr_ I 94 A) (hm : msg A = true) (hF : fn_c I F) (hok : fn_ok F) {k : Nat} (hk : k < 8) {a : AL} (ha : al k = some a) (hq : ∀ I' L', tbc I' L' (bch al t F A k a).2.1 → (∀ x, x < 26 ∨ (81 < x ∧ x ≠ 93) → I' x = I x) → (∀ x, x < 26 ∨ 81 < x → L' x = L x) → Q (some (.int (nI (bch al t F A k a).1))) (am_SH N, I', L', am_RR w)) : am_call (d + 3) 116 [.ref 91, .ref (26 + 7 * k)] (am_SH N, I, L, am_RR w) Q := by
  have qa := aq_of N w hk
  have q0 := qa.1
  have l104 := ats_len A
  have ho := h k hk
  rw [ha] at ho
  have ho : ac I L (26 + 7 * k) a := ho
  obtain ⟨a1, a2, a3, a4, a5, a6, a7, a8, a9, a10⟩ := id ho
  have stay : ∀ e, bch al t F A k a = (e, al, 0, 0) → Q (some (.int (nI e))) (am_SH N, I, L, am_RR w) := fun e he => by
    rw [he] at hq
    exact hq I L h (fun x hx => rfl) (fun _ _ => rfl)
  refine am_enter (ls := [some _, some _, none, none, none, none, none]) (cs := am_c116) rfl rfl (Nat.le_of_ble_eq_true rfl) rfl ?_
  refine wp_aload (k := 0) rfl rfl ?_
  refine w_gr (k := 1) (s := 6) rfl rfl (by first | assumption | rfl) (by first | assumption | rfl) ?_
  refine w_ic (k := 2) (x := nI 12) rfl (oi_nI 12) ?_
  refine w_Vi (k := 3) [_] rfl rfl rfl (Nat.le_of_ble_eq_true rfl) (by first | assumption | rfl) (Or.inl ⟨rfl, rfl⟩) ?_
  refine (c_38 (lqT N w) hA.2.2.2 hl hm (by decide) ?_)
  refine ⟨_, rfl, ?_⟩
  refine wp_istore (k := 4) (ls2 := [some _, some _, some _, none, none, none, none]) rfl rfl ?_
  refine wp_aload (k := 5) rfl rfl ?_
  refine w_gr (k := 6) (s := 6) rfl rfl (by first | assumption | rfl) (by first | assumption | rfl) ?_
  refine w_ic (k := 7) (x := nI 18) rfl (oi_nI 18) ?_
  refine w_Vi (k := 8) [_] rfl rfl rfl (Nat.le_of_ble_eq_true rfl) (by first | assumption | rfl) (Or.inl ⟨rfl, rfl⟩) ?_
  refine (c_38 (lqT N w) hA.2.2.2 hl hm (by decide) ?_)
  refine ⟨_, rfl, ?_⟩
  refine wp_istore (k := 9) (ls2 := [some _, some _, some _, some _, none, none, none]) rfl rfl ?_
  cases h12 : fnd A 12 with
  | none =>
    have ax : bch al t F A k a = (400, al, 0, 0) := by unfold bch; rw [h12]
    refine wp_iload (k := 10) rfl rfl ?_
    refine w_ic (k := 11) (x := (-1)) rfl (by decide) ?_
    refine w_c_eq (k := 12) (t' := 16) rfl rfl (fun zq => ?_) (fun zq => absurd rfl zq)
    refine w_ic (k := 16) (x := nI 400) rfl (oi_nI 400) ?_
    refine w_ri (k := 17) rfl rfl rfl rfl ?_
    exact stay _ ax
  | some c =>
    have e12 := fnd_lt h12
    cases h18 : fnd A 18 with
    | none =>
      have ax : bch al t F A k a = (400, al, 0, 0) := by unfold bch; rw [h12]; simp only; rw [h18]
      refine wp_iload (k := 10) rfl rfl ?_
      refine w_ic (k := 11) (x := (-1)) rfl (by decide) ?_
      refine w_c_eq (k := 12) (t' := 16) rfl rfl (fun zq => absurd zq (nI_ne1 (by omega))) (fun zq => ?_)
      refine wp_iload (k := 13) rfl rfl ?_
      refine w_ic (k := 14) (x := (-1)) rfl (by decide) ?_
      refine w_c_ne (k := 15) (t' := 18) rfl rfl (fun zq => absurd (show oI none = -1 from rfl) zq) (fun zq => ?_)
      refine w_ic (k := 16) (x := nI 400) rfl (oi_nI 400) ?_
      refine w_ri (k := 17) rfl rfl rfl rfl ?_
      exact stay _ ax
    | some p =>
      have e18 := fnd_lt h18
      have z12 := z_4 (Or.inl e12.2.2.1) e12.2.2.2
      have ev : vlo A c = nb A (stA A c) 2 * 256 ^ 2 + nb A (stA A c + 2) 2 := by
        unfold vlo; rw [z12]; exact nb_add A (stA A c) 2 2
      have b1 := nb_lt hA.2.2.2 (stA A c) 2
      have b2 := nb_lt hA.2.2.2 (stA A c + 2) 2
      have ax : bch al t F A k a = if (16384 ≤ nb A (stA A c) 2 ∧ nb A (stA A c) 2 ≤ 20479) ∧ cf a.2.2.2.2 (nI (nb A (stA A c) 2)) = ct a.2.2.2.2 (ipo A p) (poo A p) then (if brd F (ipo A p) then (403, al, 0, 0) else if ((cf a.2.2.2.2 (nI (nb A (stA A c) 2))).isSome || decide (a.2.2.2.2.length < 8)) && ((pf a.2.2.2.1 (ipo A p)).isSome || decide (a.2.2.2.1.length < 16)) then (0, upa al k (some (a.1, a.2.1, a.2.2.1, pmt a.2.2.2.1 (ipo A p) (t + lN 300), cbd a.2.2.2.2 (nI (nb A (stA A c) 2)) (ipo A p) (poo A p) (t + lN 600))), 0, 0) else (508, al, 0, 0)) else (400, al, 0, 0) := by unfold bch; rw [h12]; simp only; rw [h18]
      refine wp_iload (k := 10) rfl rfl ?_
      refine w_ic (k := 11) (x := (-1)) rfl (by decide) ?_
      refine w_c_eq (k := 12) (t' := 16) rfl rfl (fun zq => absurd zq (nI_ne1 (by omega))) (fun zq => ?_)
      refine wp_iload (k := 13) rfl rfl ?_
      refine w_ic (k := 14) (x := (-1)) rfl (by decide) ?_
      refine w_c_ne (k := 15) (t' := 18) rfl rfl (fun zq => ?_) (fun zq => absurd zq (nI_ne1 (by omega)))
      refine wp_aload (k := 18) rfl rfl ?_
      refine w_gr (k := 19) (s := 6) rfl rfl (by first | assumption | rfl) (by first | assumption | rfl) ?_
      refine wp_iload (k := 20) rfl rfl ?_
      refine w_Vl (k := 21) [_] rfl rfl rfl (Nat.le_of_ble_eq_true rfl) (by first | assumption | rfl) (Or.inl ⟨rfl, rfl⟩) ?_
      refine (c_45 (lqT N w) (rwT N w) hA hl hm e12.2.1 ?_)
      refine ⟨_, rfl, ?_⟩
      refine w_ic (k := 22) (x := nI 16) rfl (oi_nI 16) ?_
      refine wp_lushr (k := 23) rfl ?_
      refine wp_l2i (k := 24) rfl ?_
      rw [wb_shr (by omega) (by decide), lN_i, show vlo A c / 2 ^ 16 = nb A (stA A c) 2 by omega]
      clear ev
      generalize nb A (stA A c) 2 = x at *
      refine wp_istore (k := 25) (ls2 := [some _, some _, some _, some _, some _, none, none]) rfl rfl ?_
      refine wp_aload (k := 26) rfl rfl ?_
      refine w_gr (k := 27) (s := 6) rfl rfl (by first | assumption | rfl) (by first | assumption | rfl) ?_
      refine wp_iload (k := 28) rfl rfl ?_
      refine w_Vi (k := 29) [_] rfl rfl rfl (Nat.le_of_ble_eq_true rfl) (by first | assumption | rfl) (Or.inl ⟨rfl, rfl⟩) ?_
      refine (c_46 (lqT N w) (rwT N w) hA hl hm e18.2.1 ?_)
      refine ⟨_, rfl, ?_⟩
      refine wp_istore (k := 30) (ls2 := [some _, some _, some _, some _, some _, some _, none]) rfl rfl ?_
      refine wp_aload (k := 31) rfl rfl ?_
      refine w_gr (k := 32) (s := 6) rfl rfl (by first | assumption | rfl) (by first | assumption | rfl) ?_
      refine wp_iload (k := 33) rfl rfl ?_
      refine w_Vi (k := 34) [_] rfl rfl rfl (Nat.le_of_ble_eq_true rfl) (by first | assumption | rfl) (Or.inl ⟨rfl, rfl⟩) ?_
      refine (c_47 (lqT N w) (rwT N w) hA hl hm e18.2.1 ?_)
      refine ⟨_, rfl, ?_⟩
      refine wp_istore (k := 35) (ls2 := [some _, some _, some _, some _, some _, some _, some _]) rfl rfl ?_
      refine wp_iload (k := 36) rfl rfl ?_
      refine wp_i2l (k := 37) rfl ?_
      rw [nI_l (by omega)]
      refine w_Si (k := 38) [_] rfl rfl rfl (Nat.le_of_ble_eq_true rfl) (Or.inl ⟨rfl, rfl⟩) ?_
      refine (c_102 ?_)
      refine ⟨_, rfl, ?_⟩
      rw [show decide (lN 16384 ≤ lN x ∧ lN x ≤ lN 20479) = decide (16384 ≤ x ∧ x ≤ 20479) from decide_eq_decide.mpr (by rw [l_leN (by decide) (by omega), l_leN (by omega) (by decide)])]
      refine w_b_eq (k := 39) (t' := 48) rfl rfl (fun k1 => ?_) (fun k1 => ?_)
      · rw [if_neg (fun q => of_decide_eq_false k1 q.1)] at ax
        refine w_ic (k := 48) (x := nI 400) rfl (oi_nI 400) ?_
        refine w_ri (k := 49) rfl rfl rfl rfl ?_
        exact stay _ ax
      · have k1 := of_decide_eq_true k1
        have hl8 := a10.2.1
        have hii := oI_inj (a := cf a.2.2.2.2 (nI x)) (b := ct a.2.2.2.2 (ipo A p) (poo A p)) (fun i e => by have := (cf_lt e).1; omega) (fun i e => by have := (ct_lt e).1; omega)
        refine wp_aload (k := 40) rfl rfl ?_
        refine wp_iload (k := 41) rfl rfl ?_
        refine w_Vi (k := 42) [_] rfl rfl rfl (Nat.le_of_ble_eq_true rfl) (by first | assumption | rfl) (Or.inl ⟨rfl, rfl⟩) ?_
        refine (c_12 qa a10 ?_)
        refine ⟨_, rfl, ?_⟩
        refine wp_aload (k := 43) rfl rfl ?_
        refine wp_iload (k := 44) rfl rfl ?_
        refine wp_iload (k := 45) rfl rfl ?_
        refine w_Vi (k := 46) [_, _] rfl rfl rfl (Nat.le_of_ble_eq_true rfl) (by first | assumption | rfl) (Or.inl ⟨rfl, rfl⟩) ?_
        refine (c_13 qa a10 ?_)
        refine ⟨_, rfl, ?_⟩
        refine w_c_eq (k := 47) (t' := 50) rfl rfl (fun k2 => ?_) (fun k2 => ?_)
        · have k2 := hii.mp k2
          rw [if_pos ⟨k1, k2⟩] at ax
          refine wp_aload (k := 50) rfl rfl ?_
          refine w_gr (k := 51) (s := 2) rfl rfl (by first | assumption | rfl) (by first | assumption | rfl) ?_
          refine wp_iload (k := 52) rfl rfl ?_
          refine w_Vi (k := 53) [_] rfl rfl rfl (Nat.le_of_ble_eq_true rfl) (by first | assumption | rfl) (Or.inl ⟨rfl, rfl⟩) ?_
          refine (c_33 hok hF ?_)
          refine ⟨_, rfl, ?_⟩
          refine w_b_eq (k := 54) (t' := 57) rfl rfl (fun k3 => ?_) (fun k3 => ?_)
          · rw [if_neg (by rw [k3]; decide)] at ax
            refine wp_aload (k := 57) rfl rfl ?_
            refine wp_iload (k := 58) rfl rfl ?_
            refine wp_iload (k := 59) rfl rfl ?_
            refine w_Vi (k := 60) [_, _] rfl rfl rfl (Nat.le_of_ble_eq_true rfl) (by first | assumption | rfl) (Or.inl ⟨rfl, rfl⟩) ?_
            refine (c_14 qa a10 a9 ?_)
            refine ⟨_, rfl, ?_⟩
            refine w_b_ne (k := 61) (t' := 64) rfl rfl (fun k4 => ?_) (fun k4 => ?_)
            · rw [if_pos k4] at ax
              rw [ax] at hq
              simp only at hq
              generalize hqk : 26 + 7 * k = q at *
              refine wp_aload (k := 64) rfl rfl ?_
              refine wp_iload (k := 65) rfl rfl ?_
              refine wp_iload (k := 66) rfl rfl ?_
              refine wp_iload (k := 67) rfl rfl ?_
              refine wp_aload (k := 68) rfl rfl ?_
              refine w_gr (k := 69) (s := 3) rfl rfl (by first | assumption | rfl) (by first | assumption | rfl) ?_
              refine w_Vl (k := 70) [] rfl rfl rfl (Nat.le_of_ble_eq_true rfl) (by first | assumption | rfl) (Or.inl ⟨rfl, rfl⟩) ?_
              refine am_enter (ls := [some _]) (cs := am_c22) rfl rfl (Nat.le_of_ble_eq_true rfl) rfl ?_
              refine wp_aload (k := 0) rfl rfl ?_
              refine w_gl (k := 1) (s := 1) rfl rfl (by first | assumption | rfl) (by first | assumption | rfl) ?_
              refine w_rl (k := 2) rfl rfl rfl rfl ?_
              refine ⟨_, rfl, ?_⟩
              refine w_lc (k := 71) (x := lN 600) rfl (ol_lN 600) ?_
              refine wp_ladd (k := 72) rfl ?_
              refine w_Vv (k := 73) [_, _, _, _] rfl rfl rfl (Nat.le_of_ble_eq_true rfl) (by first | assumption | rfl) (Or.inl ⟨rfl, rfl⟩) ?_
              refine (c_15 qa a10 (fun I1 L1 c1 f1 g1 e1 => ⟨rfl, ?_⟩))
              have p1 : pm_c I1 L1 q a.2.2.2.1 := pm_k a9 (g1 _ (by decide)) (f1 _ (by omega) (by omega) (by omega) (by omega)) (e1 _ (by omega))
              have ht1 : L1 24 1 = t := by rw [e1 24 (by omega)]; exact ht
              refine wp_aload (k := 74) rfl rfl ?_
              refine wp_iload (k := 75) rfl rfl ?_
              refine wp_aload (k := 76) rfl rfl ?_
              refine w_gr (k := 77) (s := 3) rfl rfl (by first | assumption | rfl) (by first | assumption | rfl) ?_
              refine w_Vl (k := 78) [] rfl rfl rfl (Nat.le_of_ble_eq_true rfl) (by first | assumption | rfl) (Or.inl ⟨rfl, rfl⟩) ?_
              refine am_enter (ls := [some _]) (cs := am_c22) rfl rfl (Nat.le_of_ble_eq_true rfl) rfl ?_
              refine wp_aload (k := 0) rfl rfl ?_
              refine w_gl (k := 1) (s := 1) rfl rfl (by first | assumption | rfl) (by first | assumption | rfl) ?_
              refine w_rl (k := 2) rfl rfl rfl rfl ?_
              refine ⟨_, rfl, ?_⟩
              refine w_lc (k := 79) (x := lN 300) rfl (ol_lN 300) ?_
              refine wp_ladd (k := 80) rfl ?_
              refine w_Vv (k := 81) [_, _] rfl rfl rfl (Nat.le_of_ble_eq_true rfl) (by first | assumption | rfl) (Or.inl ⟨rfl, rfl⟩) ?_
              refine (c_10 qa p1 (fun I2 L2 p2 f2 g2 e2 => ⟨rfl, ?_⟩))
              refine w_ic (k := 82) (x := nI 0) rfl (oi_nI 0) ?_
              refine w_ri (k := 83) rfl rfl rfl rfl ?_
              have F2 : ∀ x, x < q ∨ q + 6 < x → I2 x = I x := fun x hx => by rw [f2 x (by omega) (by omega), f1 x (by omega) (by omega) (by omega) (by omega)]
              have E2 : ∀ x, x < q ∨ q + 6 < x → L2 x = L x := fun x hx => by rw [e2 x (by omega), e1 x (by omega)]
              have G2 : ∀ s, s ≠ 10 → s ≠ 15 → I2 q s = I q s := fun s h1 h2 => by rw [g2 s h1, g1 s h2]
              refine hq I2 L2 (tbc_u (k := k) (o := some _) h (fun x hx => F2 x (by omega)) (fun x hx => E2 x (by omega)) ?_) (fun x hx => F2 x (by omega)) (fun x hx => E2 x (by omega))
              show ac _ _ (26 + 7 * k) _
              rw [hqk]
              exact ⟨by rw [G2 _ (by decide) (by decide)]; exact a1, by rw [G2 _ (by decide) (by decide)]; exact a2, by rw [G2 _ (by decide) (by decide)]; exact a3, by rw [G2 _ (by decide) (by decide)]; exact a4, by rw [G2 _ (by decide) (by decide)]; exact a5, by rw [e2 _ (by omega), e1 _ (by omega)]; exact a6, by rw [e2 _ (by omega), e1 _ (by omega)]; exact a7, by rw [G2 _ (by decide) (by decide)]; exact a8, p2, ch_k c1 (g2 _ (by decide)) (f2 _ (by omega) (by omega)) (f2 _ (by omega) (by omega)) (f2 _ (by omega) (by omega)) (e2 _ (by omega))⟩
            · rw [if_neg (by rw [k4]; decide)] at ax
              refine w_ic (k := 62) (x := nI 508) rfl (oi_nI 508) ?_
              refine w_ri (k := 63) rfl rfl rfl rfl ?_
              exact stay _ ax
          · rw [if_pos k3] at ax
            refine w_ic (k := 55) (x := nI 403) rfl (oi_nI 403) ?_
            refine w_ri (k := 56) rfl rfl rfl rfl ?_
            exact stay _ ax
        · rw [if_neg (fun q => k2 (hii.mpr q.2))] at ax
          refine w_ic (k := 48) (x := nI 400) rfl (oi_nI 400) ?_
          refine w_ri (k := 49) rfl rfl rfl rfl ?_
          exact stay _ ax
theorem c_111 (h : tbc I L al) (ht : L 24 1 = t) (hA : cT I A) (hl : lr_ I 94 A) (hm : msg A = true) (hn : I 18 5 = n) (hF : fn_c I F) (hok : fn_ok F) (h11 : I 91 11 = ip) (h12 : I 91 12 = port) (h14 : I 91 14 = sg) (hw : w = pq (clf al ip port)) {m : Int32} (hmm : m = nI 1 ∨ m = nI 3 ∨ m = nI 4 ∨ m = nI 8 ∨ m = nI 9) (hq : ∀ I' L' w', tbc I' L' (pfm al t n sg F A ip port m).2.1 → ((pfm al t n sg F A ip port m).1 = 0 → m = nI 3 ∨ m = nI 4 → ∃ k, k < 8 ∧ w' = some (26 + 7 * k) ∧ (m = nI 3 → I' (26 + 7 * k) 4 = (pfm al t n sg F A ip port m).2.2.1) ∧ (L' (26 + 7 * k) 5 - t).toInt32 = (pfm al t n sg F A ip port m).2.2.2) → (∀ x, x < 26 ∨ (81 < x ∧ x ≠ 93) → I' x = I x) → (∀ x, x < 26 ∨ 81 < x → L' x = L x) → Q (some (.int (nI (pfm al t n sg F A ip port m).1))) (am_SH N, I', L', am_RR w')) : am_call (d + 4) 111 [.ref 91, .int m] (am_SH N, I, L, am_RR w) Q := by
  have stay : ∀ e, pfm al t n sg F A ip port m = (e, al, 0, 0) → (e = 0 → ¬ (m = nI 3 ∨ m = nI 4)) → Q (some (.int (nI e))) (am_SH N, I, L, am_RR w) := fun e he h0 => by
    rw [he] at hq
    exact hq I L w h (fun z z' => absurd z' (h0 z)) (fun x hx => rfl) (fun _ _ => rfl)
  refine am_enter (ls := [some _, some _]) (cs := am_c111) rfl rfl (Nat.le_of_ble_eq_true rfl) rfl ?_
  refine wp_iload (k := 0) rfl rfl ?_
  refine w_ic (k := 1) (x := nI 1) rfl (oi_nI 1) ?_
  refine w_c_ne (k := 2) (t' := 5) rfl rfl (fun c1 => ?_) (fun c1 => ?_)
  · refine wp_iload (k := 5) rfl rfl ?_
    refine w_ic (k := 6) (x := nI 3) rfl (oi_nI 3) ?_
    refine w_c_ne (k := 7) (t' := 11) rfl rfl (fun c3 => ?_) (fun c3 => ?_)
    · have ax : pfm al t n sg F A ip port m = (match clf al ip port with
        | none => (437, al, 0, 0)
        | some k => match al k with
          | none => (437, al, 0, 0)
          | some a => if a.1.2.2.1 = sg then (if m = nI 4 then rfr al t A k a else if m = nI 8 then ppr al t F A k a else bch al t F A k a) else (441, al, 0, 0)) := by unfold pfm; rw [if_neg c1, if_neg c3]
      cases hk : clf al ip port with
      | none =>
        rw [hk] at ax hw
        simp only [pq, Option.map_none] at hw
        subst hw
        refine wp_aload (k := 11) rfl rfl ?_
        refine w_gn (k := 12) (s := 13) rfl rfl (by first | assumption | rfl) (by first | assumption | rfl) ?_
        refine wp_ifnonnullN (k := 13) rfl ?_
        refine w_ic (k := 14) (x := nI 437) rfl (oi_nI 437) ?_
        refine w_ri (k := 15) rfl rfl rfl rfl ?_
        exact stay _ ax (fun z => absurd z (by decide))
      | some k =>
        obtain ⟨hk8, a, ha, -⟩ := clf_lt hk
        rw [hk] at ax hw
        simp only [pq, Option.map_some] at hw
        simp only [ha] at ax
        subst hw
        have ho := h k hk8
        rw [ha] at ho
        have ho : ac I L (26 + 7 * k) a := ho
        have q0 := (aq_of N (some (26 + 7 * k)) hk8).1
        refine wp_aload (k := 11) rfl rfl ?_
        refine w_gr (k := 12) (s := 13) rfl rfl (by first | assumption | rfl) (by first | assumption | rfl) ?_
        refine wp_ifnonnull (k := 13) rfl ?_
        refine wp_aload (k := 16) rfl rfl ?_
        refine w_gr (k := 17) (s := 13) rfl rfl (by first | assumption | rfl) (by first | assumption | rfl) ?_
        refine w_gi (k := 18) (s := 3) rfl rfl (by first | assumption | rfl) ho.2.2.2.1 ?_
        refine wp_aload (k := 19) rfl rfl ?_
        refine w_gi (k := 20) (s := 14) rfl rfl (by first | assumption | rfl) h14 ?_
        refine w_c_eq (k := 21) (t' := 24) rfl rfl (fun k1 => ?_) (fun k1 => ?_)
        · rw [if_pos k1] at ax
          by_cases m4 : m = nI 4
          · rw [if_pos m4] at ax
            rw [ax] at hq
            subst m4
            refine wp_iload (k := 24) rfl rfl ?_
            refine w_sw (k := 25) (t' := 26) rfl (by decide) ?_
            refine wp_aload (k := 26) rfl rfl ?_
            refine wp_aload (k := 27) rfl rfl ?_
            refine w_gr (k := 28) (s := 13) rfl rfl (by first | assumption | rfl) (by first | assumption | rfl) ?_
            refine w_Vi (k := 29) [_] rfl rfl rfl (Nat.le_of_ble_eq_true rfl) (by first | assumption | rfl) (Or.inl ⟨rfl, rfl⟩) ?_
            refine (c_114 h ht hA hl hm hk8 ha (fun I' L' b' g' f' e' => ⟨_, rfl, ?_⟩))
            refine w_ri (k := 30) rfl rfl rfl rfl ?_
            have e0 : (rfr al t A k a).1 = 0 := by unfold rfr; (repeat' split) <;> rfl
            rw [e0] at hq
            exact hq I' L' _ b' (fun _ _ => ⟨k, hk8, rfl, fun e => absurd e (by decide), g'⟩) (fun x hx => f' x (by omega)) e'
          · rw [if_neg m4] at ax
            have hno : ¬ (m = nI 3 ∨ m = nI 4) := fun q => q.elim c3 m4
            by_cases m8 : m = nI 8
            · rw [if_pos m8] at ax
              rw [ax] at hq
              subst m8
              refine wp_iload (k := 24) rfl rfl ?_
              refine w_sw (k := 25) (t' := 31) rfl (by decide) ?_
              refine wp_aload (k := 31) rfl rfl ?_
              refine wp_aload (k := 32) rfl rfl ?_
              refine w_gr (k := 33) (s := 13) rfl rfl (by first | assumption | rfl) (by first | assumption | rfl) ?_
              refine w_Vi (k := 34) [_] rfl rfl rfl (Nat.le_of_ble_eq_true rfl) (by first | assumption | rfl) (Or.inl ⟨rfl, rfl⟩) ?_
              refine (c_115 h ht hA hl hm hF hok hk8 ha (fun I' L' b' f' e' => ⟨_, rfl, ?_⟩))
              refine w_ri (k := 35) rfl rfl rfl rfl ?_
              exact hq I' L' _ b' (fun _ z => absurd z hno) f' e'
            · rw [if_neg m8] at ax
              rw [ax] at hq
              obtain rfl : m = nI 9 := by rcases hmm with q | q | q | q | q <;> first | exact absurd q ‹_› | exact q
              refine wp_iload (k := 24) rfl rfl ?_
              refine w_sw (k := 25) (t' := 36) rfl (by decide) ?_
              refine wp_aload (k := 36) rfl rfl ?_
              refine wp_aload (k := 37) rfl rfl ?_
              refine w_gr (k := 38) (s := 13) rfl rfl (by first | assumption | rfl) (by first | assumption | rfl) ?_
              refine w_Vi (k := 39) [_] rfl rfl rfl (Nat.le_of_ble_eq_true rfl) (by first | assumption | rfl) (Or.inl ⟨rfl, rfl⟩) ?_
              refine (c_116 h ht hA hl hm hF hok hk8 ha (fun I' L' b' f' e' => ⟨_, rfl, ?_⟩))
              refine w_ri (k := 40) rfl rfl rfl rfl ?_
              exact hq I' L' _ b' (fun _ z => absurd z hno) f' e'
        · rw [if_neg k1] at ax
          refine w_ic (k := 22) (x := nI 441) rfl (oi_nI 441) ?_
          refine w_ri (k := 23) rfl rfl rfl rfl ?_
          exact stay _ ax (fun z => absurd z (by decide))
    · have ax : pfm al t n sg F A ip port m = alc al t n sg A ip port := by unfold pfm; rw [if_neg c1, if_pos c3]
      rw [ax] at hq
      refine wp_aload (k := 8) rfl rfl ?_
      refine w_Vi (k := 9) [] rfl rfl rfl (Nat.le_of_ble_eq_true rfl) (by first | assumption | rfl) (Or.inl ⟨rfl, rfl⟩) ?_
      refine (c_112 h ht hA hl hm hn h11 h12 h14 hw (fun I' L' w' b' g' f' e' => ⟨_, rfl, ?_⟩))
      refine w_ri (k := 10) rfl rfl rfl rfl ?_
      exact hq I' L' w' b' (fun z _ => by obtain ⟨k, k1, k2, k3, k4⟩ := g' z; exact ⟨k, k1, k2, fun _ => k3, k4⟩) (fun x hx => f' x (by omega)) e'
  · have ax : pfm al t n sg F A ip port m = (0, al, 0, 0) := by unfold pfm; rw [if_pos c1]
    refine w_ic (k := 3) (x := nI 0) rfl (oi_nI 0) ?_
    refine w_ri (k := 4) rfl rfl rfl rfl ?_
    exact stay _ ax (fun _ => by rw [c1]; decide)
end PF
