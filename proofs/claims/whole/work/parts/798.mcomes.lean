/-! ===== binds, comes, datagram of the reference ===== -/
theorem ps_inc {B : List Nat} (hB : ∀ c ∈ B, c < 256) : ∀ f p i j, i < j → j < (ps B f p).length → ((ps B f p).getD i a0).2.2 < ((ps B f p).getD j a0).2.2
  | 0, _, _, _, _, h => absurd h (Nat.not_lt_zero _)
  | f + 1, p, i, j, hij, h => by
    by_cases c : p + 4 ≤ B.length
    · have e : ps B (f + 1) p = (nb B p 2, nb B (p + 2) 2, p + 4) :: ps B f (p + 4 + pad4 (nb B (p + 2) 2)) := by rw [ps, if_pos c]
      rw [e] at h ⊢
      rw [List.length_cons] at h
      cases j with
      | zero => omega
      | succ j =>
        have hj : j < (ps B f (p + 4 + pad4 (nb B (p + 2) 2))).length := by omega
        cases i with
        | zero =>
          have := ps_mem hB f _ _ (gD_mem (d := a0) hj)
          show p + 4 < ((ps B f (p + 4 + pad4 (nb B (p + 2) 2))).getD j a0).2.2
          omega
        | succ i =>
          exact ps_inc hB f _ i j (by omega) hj
    · have e : ps B (f + 1) p = [] := by rw [ps, if_neg c]
      rw [e] at h
      exact absurd h (Nat.not_lt_zero _)
section MC
variable {d N : Nat} {I : Nat → Nat → Int32} {L : Nat → Nat → Int64} {w : Option Nat} {Q : am_Q} {A : List Nat} {al : Nat → Option AL} {U : UR} {rl : List Nat} {fr t : Int64} {n : Int32} {F : FR} {T : Nat → Int32} {s : SN} {ip port : Int32}
theorem c_241 (h : CX I L A U rl fr t n F T s ip port none) (hb : tbm I L al) (hm1 : mth (nb A 0 2) = nI 1) (hq : ∀ I' L', tbm I' L' (ans U rl fr n F al t A T ip port (mth (nb A 0 2))).2 → po_m I' (ans U rl fr n F al t A T ip port (mth (nb A 0 2))).1.1 → tl_m I' (ans U rl fr n F al t A T ip port (mth (nb A 0 2))).1.2 → mk I' → fz I I' → fyl L L' → Q none (am_SH N, I', L', am_RR w)) : am_call (d + 8) 241 [.ref 100] (am_SH N, I, L, am_RR w) Q := by
  have hh := h
  obtain ⟨⟨hA, hm, hD⟩, ⟨hp, hT⟩, ⟨h65, h66, h67, hsg⟩, ⟨hk, hr, hrl⟩, ⟨hokU, hu⟩, ⟨hfr, hX⟩, ⟨hfk, hF⟩, ht, hn⟩ := h
  have h20 := msg20 hm
  have st8 := strg_len (cts A)
  have ax : acs U rl fr A (mth (nb A 0 2)) = if 0 < (strg (cts A)).length then (420, none) else (0, none) := by unfold acs; rw [hm1, if_neg (by decide), if_pos rfl]
  have out : ∀ (e : Nat), prf U rl fr n F al t A ip port (mth (nb A 0 2)) = (e, al, 0, 0) → (acs U rl fr A (mth (nb A 0 2))).2 = none → ∀ I' L', res I I' L L' A U rl fr T ip port none (mth (nb A 0 2)) (e, al, 0, 0) → Q none (am_SH N, I', L', am_RR w) := by
    intro e px ea I' L' ⟨r1, r2, r3, r4, r5, r6⟩
    have ex : ans U rl fr n F al t A T ip port (mth (nb A 0 2)) = (((true, ip, port, nI 3478, fgb A (sgb U rl none (bod rl fr A (mth (nb A 0 2)) ip port e 0 0))), if e = 0 then inc T 0 else inc (inc T 0) 4), al) := by unfold ans; rw [px, ea]
    rw [ex] at hq
    exact hq I' L' r1 r2 r3 r4 (fz_of r5) r6
  refine am_enter (ls := [some _]) (cs := am_c241) rfl rfl (Nat.le_of_ble_eq_true rfl) rfl ?_
  refine wp_aload (k := 0) rfl rfl ?_
  refine w_gi (k := 1) (s := 58) rfl rfl (by first | assumption | rfl) hX.1 ?_
  refine w_m_le (k := 2) (t' := 7) rfl rfl (by omega) (fun k1 => ?_) (fun k1 => ?_)
  · rw [if_neg (by omega)] at ax
    have px : prf U rl fr n F al t A ip port (mth (nb A 0 2)) = (0, al, 0, 0) := by unfold prf; rw [ax]; show pfm _ _ _ _ _ _ _ _ _ = _; unfold pfm; rw [if_pos hm1]
    refine wp_aload (k := 7) rfl rfl ?_
    refine w_ic (k := 8) (x := nI 1) rfl (oi_nI 1) ?_
    refine w_ic (k := 9) (x := nI 2) rfl (oi_nI 2) ?_
    refine w_Vv (k := 10) [_, _] rfl rfl rfl (Nat.le_of_ble_eq_true rfl) (by first | assumption | rfl) (Or.inl ⟨rfl, rfl⟩) ?_
    refine (c_225 hA h20 hp.2.2.2.2 (by decide) (fun I1 k1 f1 => ⟨rfl, ?_⟩))
    rw [← hdA_0] at k1
    have hl20 : (hdA A (nI 1) 0).length = 20 := hd20_len _ _ _ _
    have ex : told (hdA A (nI 1) 0) (nI 1) 0 0 ip port = at_ (hdA A (nI 1) 0) 32 (adr ip port) := by unfold told; rw [if_neg (by decide), if_neg (by decide), if_pos rfl]
    have v65 : I1 100 65 = ip := by rw [f1.2 65 (by decide)]; exact h65
    have v66 : I1 100 66 = port := by rw [f1.2 66 (by decide)]; exact h66
    refine wp_aload (k := 11) rfl rfl ?_
    refine w_ic (k := 12) (x := nI 32) rfl (oi_nI 32) ?_
    refine wp_aload (k := 13) rfl rfl ?_
    refine w_gi (k := 14) (s := 65) rfl rfl (by first | assumption | rfl) v65 ?_
    refine wp_aload (k := 15) rfl rfl ?_
    refine w_gi (k := 16) (s := 66) rfl rfl (by first | assumption | rfl) v66 ?_
    refine w_Vv (k := 17) [_, _, _] rfl rfl rfl (Nat.le_of_ble_eq_true rfl) (by first | assumption | rfl) (Or.inl ⟨rfl, rfl⟩) ?_
    refine (c_230 k1 (by omega) (by omega) (fun I2 k2 f2 => ⟨rfl, ?_⟩))
    rw [uI_nI (by decide), ← ex] at k2
    refine wp_aload (k := 18) rfl rfl ?_
    refine w_Vv (k := 19) [] rfl rfl rfl (Nat.le_of_ble_eq_true rfl) (by first | assumption | rfl) (Or.inl ⟨rfl, rfl⟩) ?_
    refine (c_232r hh hb fy_rf fyl_rf hm1.symm (fx_t f1 f2) k2 rfl (fun I' L' r' => ⟨rfl, ?_⟩))
    refine w_rv (k := 20) rfl rfl rfl rfl ?_
    exact out 0 px (by rw [ax]) I' L' r'
  · rw [if_pos (by omega)] at ax
    have px : prf U rl fr n F al t A ip port (mth (nb A 0 2)) = (420, al, 0, 0) := by unfold prf; rw [ax]; exact if_neg (by decide)
    refine wp_aload (k := 3) rfl rfl ?_
    refine w_ic (k := 4) (x := nI 420) rfl (oi_nI 420) ?_
    refine w_Vv (k := 5) [_] rfl rfl rfl (Nat.le_of_ble_eq_true rfl) (by first | assumption | rfl) (Or.inl ⟨rfl, rfl⟩) ?_
    refine (c_233r hh hb fy_rf fyl_rf (by decide) rfl (fun I' L' r' => ⟨rfl, ?_⟩))
    refine w_rv (k := 6) rfl rfl rfl rfl ?_
    exact out 420 px (by rw [ax]) I' L' r'
/-- frames of a datagram in the reference -/
def fw (I I' : Nat → Nat → Int32) : Prop := (∀ x, x ≠ 100 → x < 103 ∨ (114 ≤ x ∧ x ≤ 119) → I' x = I x) ∧ ∀ s, 22 ≤ s → s ≤ 52 → I' 100 s = I 100 s
theorem fw_rf {I : Nat → Nat → Int32} : fw I I := ⟨fun _ _ _ => rfl, fun _ _ _ => rfl⟩
theorem fw_t {I I1 I2 : Nat → Nat → Int32} (h1 : fw I I1) (h2 : fw I1 I2) : fw I I2 := ⟨fun x a b => by rw [h2.1 x a b, h1.1 x a b], fun s a b => by rw [h2.2 s a b, h1.2 s a b]⟩
theorem fw_x {P S : List Nat} {I I1 : Nat → Nat → Int32} (h : fx P S I I1) (hp : ∀ x ∈ P, 103 ≤ x ∧ ¬ (114 ≤ x ∧ x ≤ 119)) (hs : ∀ x ∈ S, ¬ (22 ≤ x ∧ x ≤ 52)) : fw I I1 := ⟨fun x a b => h.1 x a (fun q => by have := hp x q; omega), fun s a b => h.2 s (fun q => hs s q ⟨a, b⟩)⟩
theorem fw_z {I I1 : Nat → Nat → Int32} (h : fz I I1) : fw I I1 := ⟨fun x a b => h.1 x a (by unfold PA; simp; omega) (by omega), fun s a b => h.2 s (by unfold SA; simp; omega) (by omega)⟩
theorem c_239 (hA : mT I A) (hm : msg A = true) (hD : mD I A (ats A)) (hp : po_m I (clr s)) (hT : tl_m I T) (h65 : I 100 65 = ip) (h66 : I 100 66 = port) (h67 : I 100 67 = -1) (hk : mk I) (hr : mr I rl) (hrl : wd rl) (hokU : us_ok U) (hu : us_m I L U) (hfr : L 100 29 = fr) (hfk : fn_ok F) (hF : fn_m I F) (ht : L 100 34 = t) (hn : I 100 30 = n) (hb : tbm I L al) (hok : tok al) (hcd : chD A = false) (hq : ∀ I' L', tbm I' L' (dgr U rl fr n F al t A s T ip port).2 → po_m I' (dgr U rl fr n F al t A s T ip port).1.1 → tl_m I' (dgr U rl fr n F al t A s T ip port).1.2 → mT I' A → mk I' → fw I I' → fyl L L' → Q none (am_SH N, I', L', am_RR w)) : am_call (d + 10) 239 [.ref 100] (am_SH N, I, L, am_RR w) Q := by
  have h20 := msg20 hm
  have t2 := hA.2.1
  have t3 := hA.2.2
  have l96 := ats_100 hA.2.2 hm
  have h55 := hD.2.2.1
  have h56 := hD.2.2.2.1
  have dx : dgr U rl fr n F al t A s T ip port = if fpw A then ((clr s, T), al) else (if rnk (nb A 0 2) = 0 then ans U rl fr n F al t A T ip port (mth (nb A 0 2)) else if rnk (nb A 0 2) = nI 1 ∧ mth (nb A 0 2) = nI 6 then (sd_s al A s T ip port, al) else ((clr s, T), al)) := by
    unfold dgr
    rw [if_neg (by rw [hcd]; decide), hm]
    cases fpw A <;> rfl
  -- a wrong fingerprint
  have wrong : fpw A = true → am_V 239 am_c239 (d + 9) (am_SH N) Q 21 [some (.ref 100), none, none] [] (am_SH N, I, L, am_RR w) := fun e => by
    rw [if_pos e] at dx
    rw [dx] at hq
    refine w_rv (k := 21) rfl rfl rfl rfl ?_
    exact hq I L hb hp hT hA hk fw_rf fyl_rf
  -- none, or a right one
  have good : fpw A = false → am_V 239 am_c239 (d + 9) (am_SH N) Q 22 [some (.ref 100), none, none] [] (am_SH N, I, L, am_RR w) := fun e => by
    rw [if_neg (by rw [e]; decide)] at dx
    refine wp_aload (k := 22) rfl rfl ?_
    refine w_gr (k := 23) (s := 14) rfl rfl (by first | assumption | rfl) (by first | assumption | rfl) ?_
    refine w_ic (k := 24) (x := nI 0) rfl (oi_nI 0) ?_
    refine w_Si (k := 25) [_, _] rfl rfl rfl (Nat.le_of_ble_eq_true rfl) (Or.inl ⟨rfl, rfl⟩) ?_
    refine (c_179 rfl (by decide) t2 (by omega) (by omega) ?_)
    refine ⟨_, rfl, ?_⟩
    refine wp_istore (k := 26) (ls2 := [some _, some _, none]) rfl rfl ?_
    refine wp_iload (k := 27) rfl rfl ?_
    refine w_Si (k := 28) [_] rfl rfl rfl (Nat.le_of_ble_eq_true rfl) (Or.inl ⟨rfl, rfl⟩) ?_
    refine (c_227 ?_)
    refine ⟨_, rfl, ?_⟩
    refine wp_istore (k := 29) (ls2 := [some _, some _, some _]) rfl rfl ?_
    refine wp_aload (k := 30) rfl rfl ?_
    refine w_Vv (k := 31) [] rfl rfl rfl (Nat.le_of_ble_eq_true rfl) (by first | assumption | rfl) (Or.inl ⟨rfl, rfl⟩) ?_
    refine (c_220 hA hm hD (fun I1 x1 f1 => ⟨rfl, ?_⟩))
    have hA1 := mT_k hA f1 (by decide) (by decide)
    have hD1 : mD I1 A (ats A) := ⟨by rw [f1.2 53 (by decide)]; exact hD.1, by rw [f1.2 54 (by decide)]; exact hD.2.1, by rw [f1.2 55 (by decide)]; exact hD.2.2.1, by rw [f1.2 56 (by decide)]; exact hD.2.2.2.1, fun i hi => by rw [f1.1 135 (by decide) (by decide), f1.1 136 (by decide) (by decide), f1.1 137 (by decide) (by decide)]; exact hD.2.2.2.2 i hi⟩
    have hp1 : po_m I1 (clr s) := by
      obtain ⟨p1, p2, p3, p4, p5⟩ := hp
      exact ⟨by rw [f1.2 18 (by decide)]; exact p1, by rw [f1.2 19 (by decide)]; exact p2, by rw [f1.2 20 (by decide)]; exact p3, by rw [f1.2 21 (by decide)]; exact p4, mS_k p5 f1 (by decide) (by decide)⟩
    have hT1 := tl_k hT f1 (fun j hj => by simp; omega)
    have v65 : I1 100 65 = ip := by rw [f1.2 65 (by decide)]; exact h65
    have v66 : I1 100 66 = port := by rw [f1.2 66 (by decide)]; exact h66
    have hk1 := mk_k hk (f1.1 101 (by decide) (by decide)) (f1.1 102 (by decide) (by decide))
    have hb1 : tbm I1 L al := tbm_x hb f1 fl_rf (fun x y1 y2 => by simp; omega)
    have W1 : fw I I1 := fw_x f1 (by decide) (by decide)
    have cx1 : CX I1 L A U rl fr t n F T s ip port none := ⟨⟨hA1, hm, hD1⟩, ⟨hp1, hT1⟩, ⟨v65, v66, by rw [f1.2 67 (by decide)]; exact h67, fun k e => by cases e⟩, ⟨hk1, ⟨by rw [f1.2 28 (by decide)]; exact hr.1, av_keep hr.2 (f1.1 117 (by decide) (by decide))⟩, hrl⟩, ⟨hokU, us_m_k hu f1 (by decide) rfl rfl⟩, ⟨hfr, x1⟩, ⟨hfk, fn_m_k hF f1 (by decide) (by decide) (by decide)⟩, ht, by rw [f1.2 30 (by decide)]; exact hn⟩
    -- an answer
    have ansO : rnk (nb A 0 2) = 0 → ∀ I' L', tbm I' L' (ans U rl fr n F al t A T ip port (mth (nb A 0 2))).2 → po_m I' (ans U rl fr n F al t A T ip port (mth (nb A 0 2))).1.1 → tl_m I' (ans U rl fr n F al t A T ip port (mth (nb A 0 2))).1.2 → mk I' → fz I1 I' → fyl L L' → Q none (am_SH N, I', L', am_RR w) := fun r0 I' L' y1 y2 y3 y4 y5 y6 => by
      rw [if_pos r0] at dx
      rw [dx] at hq
      exact hq I' L' y1 y2 y3 ⟨by rw [y5.2 15 (by decide) (by decide)]; exact hA1.1, av_keep hA1.2.1 (y5.1 112 (by decide) (by decide) (by decide)), hA1.2.2⟩ y4 (fw_t W1 (fw_z y5)) y6
    have fin1 : rnk (nb A 0 2) = 0 → am_V 239 am_c239 (d + 9) (am_SH N) Q 41 [some (.ref 100), some (.int (nI (nb A 0 2))), some (.int (mth (nb A 0 2)))] [] (am_SH N, I1, L, am_RR w) := fun r0 => by
      have ansO := ansO r0
      have asked : (mth (nb A 0 2) = nI 3 ∨ mth (nb A 0 2) = nI 4 ∨ mth (nb A 0 2) = nI 8 ∨ mth (nb A 0 2) = nI 9) → am_V 239 am_c239 (d + 9) (am_SH N) Q 63 [some (.ref 100), some (.int (nI (nb A 0 2))), some (.int (mth (nb A 0 2)))] [] (am_SH N, I1, L, am_RR w) := fun hm4 => by
        refine wp_aload (k := 63) rfl rfl ?_
        refine wp_iload (k := 64) rfl rfl ?_
        refine w_Vv (k := 65) [_] rfl rfl rfl (Nat.le_of_ble_eq_true rfl) (by first | assumption | rfl) (Or.inl ⟨rfl, rfl⟩) ?_
        refine (c_245 cx1 hb1 hok rfl hm4 (fun I' L' y1 y2 y3 y4 y5 y6 => ⟨rfl, ?_⟩))
        refine w_goto (k := 66) (t' := 70) rfl rfl ?_
        refine w_rv (k := 70) rfl rfl rfl rfl ?_
        exact ansO I' L' y1 y2 y3 y4 y5 y6
      refine wp_iload (k := 41) rfl rfl ?_
      refine w_Si (k := 42) [_] rfl rfl rfl (Nat.le_of_ble_eq_true rfl) (Or.inl ⟨rfl, rfl⟩) ?_
      refine (c_228 ?_)
      refine ⟨_, rfl, ?_⟩
      refine w_z_eq (k := 43) (t' := 45) rfl rfl (fun zq => ?_) (fun zq => absurd r0 zq)
      refine wp_iload (k := 45) rfl rfl ?_
      refine w_ic (k := 46) (x := nI 1) rfl (oi_nI 1) ?_
      refine w_c_ne (k := 47) (t' := 51) rfl rfl (fun m1 => ?_) (fun m1 => ?_)
      · refine wp_iload (k := 51) rfl rfl ?_
        refine w_ic (k := 52) (x := nI 3) rfl (oi_nI 3) ?_
        refine w_c_eq (k := 53) (t' := 63) rfl rfl (fun m3 => ?_) (fun m3 => ?_)
        · exact asked (Or.inl m3)
        · refine wp_iload (k := 54) rfl rfl ?_
          refine w_ic (k := 55) (x := nI 4) rfl (oi_nI 4) ?_
          refine w_c_eq (k := 56) (t' := 63) rfl rfl (fun m4 => ?_) (fun m4 => ?_)
          · exact asked (Or.inr (Or.inl m4))
          · refine wp_iload (k := 57) rfl rfl ?_
            refine w_ic (k := 58) (x := nI 8) rfl (oi_nI 8) ?_
            refine w_c_eq (k := 59) (t' := 63) rfl rfl (fun m8 => ?_) (fun m8 => ?_)
            · exact asked (Or.inr (Or.inr (Or.inl m8)))
            · refine wp_iload (k := 60) rfl rfl ?_
              refine w_ic (k := 61) (x := nI 9) rfl (oi_nI 9) ?_
              refine w_c_ne (k := 62) (t' := 67) rfl rfl (fun m9 => ?_) (fun m9 => ?_)
              · have ax : acs U rl fr A (mth (nb A 0 2)) = (400, none) := by
                  unfold acs
                  rw [if_neg (by rintro (q | q | q | q) <;> contradiction), if_neg m1]
                have px : prf U rl fr n F al t A ip port (mth (nb A 0 2)) = (400, al, 0, 0) := by unfold prf; rw [ax]; exact if_neg (by decide)
                have ex : ans U rl fr n F al t A T ip port (mth (nb A 0 2)) = (((true, ip, port, nI 3478, fgb A (sgb U rl none (bod rl fr A (mth (nb A 0 2)) ip port 400 0 0))), if 400 = 0 then inc T 0 else inc (inc T 0) 4), al) := by unfold ans; rw [px, ax]
                refine wp_aload (k := 67) rfl rfl ?_
                refine w_ic (k := 68) (x := nI 400) rfl (oi_nI 400) ?_
                refine w_Vv (k := 69) [_] rfl rfl rfl (Nat.le_of_ble_eq_true rfl) (by first | assumption | rfl) (Or.inl ⟨rfl, rfl⟩) ?_
                refine (c_233r cx1 hb1 fy_rf fyl_rf (e := 400) (by decide) rfl (fun I' L' r' => ⟨rfl, ?_⟩))
                refine w_rv (k := 70) rfl rfl rfl rfl ?_
                obtain ⟨r1, r2, r3, r4, r5, r6⟩ := r'
                rw [ex] at ansO
                exact ansO I' L' r1 r2 r3 r4 (fz_of r5) r6
              · exact asked (Or.inr (Or.inr (Or.inr m9)))
      · refine wp_aload (k := 48) rfl rfl ?_
        refine w_Vv (k := 49) [] rfl rfl rfl (Nat.le_of_ble_eq_true rfl) (by first | assumption | rfl) (Or.inl ⟨rfl, rfl⟩) ?_
        refine (c_241 cx1 hb1 m1 (fun I' L' y1 y2 y3 y4 y5 y6 => ⟨rfl, ?_⟩))
        refine w_goto (k := 50) (t' := 70) rfl rfl ?_
        refine w_rv (k := 70) rfl rfl rfl rfl ?_
        exact ansO I' L' y1 y2 y3 y4 y5 y6
    have skip : rnk (nb A 0 2) ≠ 0 → ¬ (rnk (nb A 0 2) = nI 1 ∧ mth (nb A 0 2) = nI 6) → am_V 239 am_c239 (d + 9) (am_SH N) Q 41 [some (.ref 100), some (.int (nI (nb A 0 2))), some (.int (mth (nb A 0 2)))] [] (am_SH N, I1, L, am_RR w) := fun r0 r1 => by
      rw [if_neg r0, if_neg r1] at dx
      rw [dx] at hq
      refine wp_iload (k := 41) rfl rfl ?_
      refine w_Si (k := 42) [_] rfl rfl rfl (Nat.le_of_ble_eq_true rfl) (Or.inl ⟨rfl, rfl⟩) ?_
      refine (c_228 ?_)
      refine ⟨_, rfl, ?_⟩
      refine w_z_eq (k := 43) (t' := 45) rfl rfl (fun zq => absurd zq r0) (fun zq => ?_)
      refine w_rv (k := 44) rfl rfl rfl rfl ?_
      exact hq I1 L hb1 hp1 hT1 hA1 hk1 W1 fyl_rf
    have go41 : ¬ (rnk (nb A 0 2) = nI 1 ∧ mth (nb A 0 2) = nI 6) → am_V 239 am_c239 (d + 9) (am_SH N) Q 41 [some (.ref 100), some (.int (nI (nb A 0 2))), some (.int (mth (nb A 0 2)))] [] (am_SH N, I1, L, am_RR w) := fun r1 => by
      by_cases r0 : rnk (nb A 0 2) = 0
      · exact fin1 r0
      · exact skip r0 r1
    refine wp_iload (k := 32) rfl rfl ?_
    refine w_Si (k := 33) [_] rfl rfl rfl (Nat.le_of_ble_eq_true rfl) (Or.inl ⟨rfl, rfl⟩) ?_
    refine (c_228 ?_)
    refine ⟨_, rfl, ?_⟩
    refine w_ic (k := 34) (x := nI 1) rfl (oi_nI 1) ?_
    refine w_c_ne (k := 35) (t' := 41) rfl rfl (fun r1 => ?_) (fun r1 => ?_)
    · exact go41 (fun q => r1 q.1)
    · refine wp_iload (k := 36) rfl rfl ?_
      refine w_ic (k := 37) (x := nI 6) rfl (oi_nI 6) ?_
      refine w_c_ne (k := 38) (t' := 41) rfl rfl (fun m6 => ?_) (fun m6 => ?_)
      · exact go41 (fun q => m6 q.2)
      · have r0 : rnk (nb A 0 2) ≠ 0 := by rw [r1]; decide
        rw [if_neg r0, if_pos ⟨r1, m6⟩] at dx
        rw [dx] at hq
        refine wp_aload (k := 39) rfl rfl ?_
        refine w_Vv (k := 40) [] rfl rfl rfl (Nat.le_of_ble_eq_true rfl) (by first | assumption | rfl) (Or.inl ⟨rfl, rfl⟩) ?_
        refine (c_240 hb1 hok hA1 hm hD1 x1 hp1 hT1 v65 v66 (fun I2 p2 t2 f2 A2 => ⟨rfl, ?_⟩))
        refine wp_iload (k := 41) rfl rfl ?_
        refine w_Si (k := 42) [_] rfl rfl rfl (Nat.le_of_ble_eq_true rfl) (Or.inl ⟨rfl, rfl⟩) ?_
        refine (c_228 ?_)
        refine ⟨_, rfl, ?_⟩
        refine w_z_eq (k := 43) (t' := 45) rfl rfl (fun zq => absurd zq r0) (fun zq => ?_)
        refine w_rv (k := 44) rfl rfl rfl rfl ?_
        exact hq I2 L (tbm_x hb1 f2 fl_rf (fun x y1 y2 => by simp; omega)) p2 t2 A2 (mk_k hk1 (f2.1 101 (by decide) (by decide)) (f2.1 102 (by decide) (by decide))) (fw_t W1 (fw_x f2 (by decide) (by decide))) fyl_rf
  refine am_enter (ls := [some _, none, none]) (cs := am_c239) rfl rfl (Nat.le_of_ble_eq_true rfl) rfl ?_
  cases hf : fgi A (ats A) with
  | none =>
    rw [hf] at h55
    have h55 : I 100 55 = -1 := h55
    refine wp_aload (k := 0) rfl rfl ?_
    refine w_gi (k := 1) (s := 55) rfl rfl (by first | assumption | rfl) h55 ?_
    refine w_z_lt (k := 2) (t' := 22) rfl rfl (fun zq => ?_) (fun zq => absurd (by decide) zq)
    exact good (by unfold fpw; rw [hf])
  | some j =>
    rw [hf] at h55
    have hj := fgi_lt hf
    have atj := ats_at t2.2 hj
    have fitj := ats_fit hm hj
    obtain ⟨-, -, hj3, -⟩ := ff_some hf
    rw [Bool.and_eq_true] at hj3
    have hkj := of_decide_eq_true hj3.2
    have zj : ((ats A).getD j a0).2.1 = 4 := by
      have := hj3.1
      unfold snd_ sndf at this
      rw [hkj, if_neg (by decide), if_neg (by decide), if_neg (by decide), if_pos (by decide)] at this
      exact of_decide_eq_true this
    have ev : vlo A j = nb A ((ats A).getD j a0).2.2 4 := by unfold vlo; rw [zj]; rfl
    have el : ((ats A).getD j a0).2.2 - 4 = ((ats A).getD ((ats A).length - 1) a0).2.2 - 4 ↔ j = (ats A).length - 1 := by
      constructor
      · intro q
        have atl := ats_at t2.2 (i := (ats A).length - 1) (by omega)
        by_cases c : j < (ats A).length - 1
        · have := ps_inc t2.2 104 20 j ((ats A).length - 1) c (by show (ats A).length - 1 < (ats A).length; omega)
          have this : ((ats A).getD j a0).2.2 < ((ats A).getD ((ats A).length - 1) a0).2.2 := this
          omega
        · omega
      · intro q; rw [← q]
    have efp : fpw A = decide (j ≠ (ats A).length - 1 ∨ nI (vlo A j) ≠ fp (A.take (((ats A).getD j a0).2.2 - 4))) := by unfold fpw; rw [hf]
    have h55 : I 100 55 = nI (((ats A).getD j a0).2.2 - 4) := h55
    have h56 : I 100 56 = nI (((ats A).getD ((ats A).length - 1) a0).2.2 - 4) := by
      rw [h56]; unfold lsA; rw [if_neg (by omega)]
    have atl := ats_at t2.2 (i := (ats A).length - 1) (by omega)
    refine wp_aload (k := 0) rfl rfl ?_
    refine w_gi (k := 1) (s := 55) rfl rfl (by first | assumption | rfl) h55 ?_
    refine w_z_lt (k := 2) (t' := 22) rfl rfl (fun zq => absurd zq (nI_pos (by omega))) (fun zq => ?_)
    refine wp_aload (k := 3) rfl rfl ?_
    refine w_gi (k := 4) (s := 55) rfl rfl (by first | assumption | rfl) h55 ?_
    refine wp_aload (k := 5) rfl rfl ?_
    refine w_gi (k := 6) (s := 56) rfl rfl (by first | assumption | rfl) h56 ?_
    refine w_n_ne (k := 7) (t' := 21) rfl rfl (by omega) (fun k1 => ?_) (fun k1 => ?_)
    · exact wrong (by rw [efp]; exact decide_eq_true (Or.inl (fun q => k1 (el.mpr q))))
    · refine wp_aload (k := 8) rfl rfl ?_
      refine w_gr (k := 9) (s := 14) rfl rfl (by first | assumption | rfl) (by first | assumption | rfl) ?_
      refine wp_aload (k := 10) rfl rfl ?_
      refine w_gi (k := 11) (s := 55) rfl rfl (by first | assumption | rfl) h55 ?_
      refine w_ic (k := 12) (x := nI 4) rfl (oi_nI 4) ?_
      refine w_addN (k := 13) rfl ?_
      refine w_Si (k := 14) [_, _] rfl rfl rfl (Nat.le_of_ble_eq_true rfl) (Or.inl ⟨rfl, rfl⟩) ?_
      rw [show ((ats A).getD j a0).2.2 - 4 + 4 = ((ats A).getD j a0).2.2 by omega]
      refine (c_180 rfl (by decide) t2 (by omega) (by omega) ?_)
      refine ⟨_, rfl, ?_⟩
      refine wp_aload (k := 15) rfl rfl ?_
      refine w_gr (k := 16) (s := 14) rfl rfl (by first | assumption | rfl) (by first | assumption | rfl) ?_
      refine wp_aload (k := 17) rfl rfl ?_
      refine w_gi (k := 18) (s := 55) rfl rfl (by first | assumption | rfl) h55 ?_
      refine w_Si (k := 19) [_, _] rfl rfl rfl (Nat.le_of_ble_eq_true rfl) (Or.inl ⟨rfl, rfl⟩) ?_
      refine (c_178 (m := 400) rfl (by decide) t2 ⟨by omega, t3⟩ ?_)
      refine ⟨_, rfl, ?_⟩
      rw [← ev]
      refine w_c_eq (k := 20) (t' := 22) rfl rfl (fun k2 => ?_) (fun k2 => ?_)
      · exact good (by rw [efp]; exact decide_eq_false (fun q => q.elim (fun z => z (el.mp k1)) (fun z => z k2)))
      · exact wrong (by rw [efp]; exact decide_eq_true (Or.inr k2))
end MC
