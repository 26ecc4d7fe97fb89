/-! ===== datagram of the reference ===== -/
section MDG
variable {d N : Nat} {I : Nat → Nat → Int32} {L : Nat → Nat → Int64} {w : Option Nat} {Q : am_Q} {A : List Nat} {al : Nat → Option AL} {U : UR} {rl : List Nat} {fr t : Int64} {n : Int32} {F : FR} {T : Nat → Int32} {s : SN} {ip port : Int32}
theorem c_234 (hA : mT I A) (hp : po_m I s) (hT : tl_m I T) (hk : mk I) (hr : mr I rl) (hrl : wd rl) (hokU : us_ok U) (hu : us_m I L U) (hfr : L 100 29 = fr) (hfk : fn_ok F) (hF : fn_m I F) (ht : L 100 34 = t) (hn : I 100 30 = n) (hb : tbm I L al) (hok : tok al) (hno : (port < nI 1 ∨ nI 65535 < port) → Q (some (.int (-1))) (am_SH N, am_u I 100 0 (nI 0), L, am_RR w)) (hq : ¬ (port < nI 1 ∨ nI 65535 < port) → ∀ I' L', mT I' [] → tbm I' L' (dgr U rl fr n F al t A s T ip port).2 → po_m I' (dgr U rl fr n F al t A s T ip port).1.1 → tl_m I' (if (dgr U rl fr n F al t A s T ip port).1.1.1 then (dgr U rl fr n F al t A s T ip port).1.2 else inc (dgr U rl fr n F al t A s T ip port).1.2 5) → mk I' → fw I I' → fyl L L' → Q (some (.int (if (dgr U rl fr n F al t A s T ip port).1.1.1 then nI 1 else nI 0))) (am_SH N, I', L', am_RR w)) : am_call (d + 11) 234 [.ref 100, .int ip, .int port] (am_SH N, I, L, am_RR w) Q := by
  have hkd := in_kd port (a := 1) (b := 65535) (by decide) (by decide)
  refine am_enter (ls := [some _, some _, some _]) (cs := am_c234) rfl rfl (Nat.le_of_ble_eq_true rfl) rfl ?_
  refine wp_aload (k := 0) rfl rfl ?_
  refine w_ic (k := 1) (x := nI 0) rfl (oi_nI 0) ?_
  refine w_pi (k := 2) (s := 0) rfl rfl (by first | assumption | rfl) ?_
  refine wp_iload (k := 3) rfl rfl ?_
  refine wp_i2l (k := 4) rfl ?_
  refine w_lc (k := 5) (x := lN 1) rfl (ol_lN 1) ?_
  refine w_lc (k := 6) (x := lN 65535) rfl (ol_lN 65535) ?_
  refine w_Si (k := 7) [_, _, _] rfl rfl rfl (Nat.le_of_ble_eq_true rfl) (Or.inl ⟨rfl, rfl⟩) ?_
  refine (c_166 ?_)
  refine ⟨_, rfl, ?_⟩
  rw [show decide (lN 1 ≤ port.toInt64 ∧ port.toInt64 ≤ lN 65535) = decide (¬ port < nI 1 ∧ ¬ nI 65535 < port) from decide_eq_decide.mpr hkd]
  refine w_b_ne (k := 8) (t' := 11) rfl rfl (fun c1 => ?_) (fun c1 => ?_)
  · have c1 := of_decide_eq_true c1
    have hq := hq (fun q => q.elim c1.1 c1.2)
    have f0 : fx [] [0] I (am_u I 100 0 (nI 0)) := fx_s (by decide)
    have hp0 : po_m (am_u I 100 0 (nI 0)) s := by
      obtain ⟨p1, p2, p3, p4, p5⟩ := hp
      exact ⟨by rw [f0.2 18 (by decide)]; exact p1, by rw [f0.2 19 (by decide)]; exact p2, by rw [f0.2 20 (by decide)]; exact p3, by rw [f0.2 21 (by decide)]; exact p4, mS_k p5 f0 (by decide) (by decide)⟩
    have hT0 := tl_k hT f0 (fun j hj => by simp)
    refine wp_aload (k := 11) rfl rfl ?_
    refine w_Vv (k := 12) [] rfl rfl rfl (Nat.le_of_ble_eq_true rfl) (by first | assumption | rfl) (Or.inl ⟨rfl, rfl⟩) ?_
    refine (c_224 hp0 hT0 (fun I1 p1 t1 f1 => ⟨rfl, ?_⟩))
    refine wp_aload (k := 13) rfl rfl ?_
    refine wp_iload (k := 14) rfl rfl ?_
    refine w_pi (k := 15) (s := 65) rfl rfl (by first | assumption | rfl) ?_
    refine wp_aload (k := 16) rfl rfl ?_
    refine wp_iload (k := 17) rfl rfl ?_
    refine w_pi (k := 18) (s := 66) rfl rfl (by first | assumption | rfl) ?_
    refine wp_aload (k := 19) rfl rfl ?_
    refine w_ic (k := 20) (x := (-1)) rfl (by decide) ?_
    refine w_pi (k := 21) (s := 67) rfl rfl (by first | assumption | rfl) ?_
    generalize hI2 : am_u (am_u (am_u I1 100 65 ip) 100 66 port) 100 67 (-1) = I2
    have f2 : fx [] [65, 66, 67] I1 I2 := by rw [← hI2]; exact fx_t (fx_t (fx_s (by decide)) (fx_s (by decide))) (fx_s (by decide))
    have F2 : fx [] [0, 17, 18, 65, 66, 67] I I2 := fx_t (fx_mo f0 (by decide) (by decide)) (fx_t (fx_mo f1 (by decide) (by decide)) (fx_mo f2 (by decide) (by decide)))
    have v65 : I2 100 65 = ip := by rw [← hI2]; exact am_uw (by decide) (am_uw (by decide) am_us)
    have v66 : I2 100 66 = port := by rw [← hI2]; exact am_uw (by decide) am_us
    have v67 : I2 100 67 = -1 := by rw [← hI2]; exact am_us
    have hA2 := mT_k hA F2 (by decide) (by decide)
    have p2 : po_m I2 (clr s) := by
      obtain ⟨q1, q2, q3, q4, q5⟩ := p1
      exact ⟨by rw [f2.2 18 (by decide)]; exact q1, by rw [f2.2 19 (by decide)]; exact q2, by rw [f2.2 20 (by decide)]; exact q3, by rw [f2.2 21 (by decide)]; exact q4, mS_k q5 f2 (by decide) (by decide)⟩
    have t2 := tl_k t1 f2 (fun j hj => by simp; omega)
    have b2 : tbm I2 L al := tbm_x hb F2 fl_rf (fun x y1 y2 => by simp)
    have k2 := mk_k hk (F2.1 101 (by decide) (by decide)) (F2.1 102 (by decide) (by decide))
    have W2 : fw I I2 := fw_x F2 (by decide) (by decide)
    -- the end
    have fin1 : ∀ (I3 : Nat → Nat → Int32) (L3 : Nat → Nat → Int64) D, dgr U rl fr n F al t A s T ip port = D → mT I3 A → tbm I3 L3 D.2 → po_m I3 D.1.1 → tl_m I3 D.1.2 → mk I3 → fw I I3 → fyl L L3 → am_V 234 am_c234 (d + 10) (am_SH N) Q 41 [some (.ref 100), some (.int ip), some (.int port)] [] (am_SH N, I3, L3, am_RR w) := by
      intro I3 L3 D hD a3 b3 p3 t3 m3 w3 g3
      rw [hD] at hq
      refine wp_aload (k := 41) rfl rfl ?_
      refine w_Vi (k := 42) [] rfl rfl rfl (Nat.le_of_ble_eq_true rfl) (by first | assumption | rfl) (Or.inl ⟨rfl, rfl⟩) ?_
      refine (c_235 a3 p3 t3 (fun I4 a4 p4 t4 f4 => ⟨_, rfl, ?_⟩))
      refine w_ri (k := 43) rfl rfl rfl rfl ?_
      exact hq I4 L3 a4 (tbm_x b3 f4 fl_rf (fun x y1 y2 => by simp)) p4 t4 (mk_k m3 (f4.1 101 (by decide) (by decide)) (f4.1 102 (by decide) (by decide))) (fw_t w3 (fw_x f4 (by decide) (by decide))) g3
    refine wp_aload (k := 22) rfl rfl ?_
    refine w_Vi (k := 23) [] rfl rfl rfl (Nat.le_of_ble_eq_true rfl) (by first | assumption | rfl) (Or.inl ⟨rfl, rfl⟩) ?_
    refine (c_236 hA2 ?_)
    refine ⟨_, rfl, ?_⟩
    refine w_b_eq (k := 24) (t' := 32) rfl rfl (fun k1 => ?_) (fun k1 => ?_)
    · refine wp_aload (k := 32) rfl rfl ?_
      refine wp_aload (k := 33) rfl rfl ?_
      refine w_gr (k := 34) (s := 14) rfl rfl (by first | assumption | rfl) (by first | assumption | rfl) ?_
      refine wp_aload (k := 35) rfl rfl ?_
      refine w_gi (k := 36) (s := 15) rfl rfl (by first | assumption | rfl) hA2.1 ?_
      refine w_Vi (k := 37) [_, _] rfl rfl rfl (Nat.le_of_ble_eq_true rfl) (by first | assumption | rfl) (Or.inl ⟨rfl, rfl⟩) ?_
      refine (c_214 hA2 (fun I3 d3 f3 => ⟨_, rfl, ?_⟩))
      have hA3 := mT_k hA2 f3 (by decide) (by decide)
      have p3 : po_m I3 (clr s) := by
        obtain ⟨q1, q2, q3, q4, q5⟩ := p2
        exact ⟨by rw [f3.2 18 (by decide)]; exact q1, by rw [f3.2 19 (by decide)]; exact q2, by rw [f3.2 20 (by decide)]; exact q3, by rw [f3.2 21 (by decide)]; exact q4, mS_k q5 f3 (by decide) (by decide)⟩
      have t3 := tl_k t2 f3 (fun j hj => by simp; omega)
      have b3 : tbm I3 L al := tbm_x b2 f3 fl_rf (fun x y1 y2 => by simp; omega)
      have k3 := mk_k k2 (f3.1 101 (by decide) (by decide)) (f3.1 102 (by decide) (by decide))
      have W3 : fw I I3 := fw_t W2 (fw_x f3 (by decide) (by decide))
      refine w_b_eq (k := 38) (t' := 41) rfl rfl (fun k4 => ?_) (fun k4 => ?_)
      · have dx : dgr U rl fr n F al t A s T ip port = ((clr s, T), al) := by unfold dgr; rw [if_neg (by rw [k1]; decide), k4]; rfl
        exact fin1 I3 L _ dx hA3 b3 p3 t3 k3 W3 fyl_rf
      · refine wp_aload (k := 39) rfl rfl ?_
        refine w_Vv (k := 40) [] rfl rfl rfl (Nat.le_of_ble_eq_true rfl) (by first | assumption | rfl) (Or.inl ⟨rfl, rfl⟩) ?_
        refine (c_239 (ip := ip) (port := port) (n := n) hA3 k4 (d3 k4) p3 t3 (by rw [f3.2 65 (by decide)]; exact v65) (by rw [f3.2 66 (by decide)]; exact v66) (by rw [f3.2 67 (by decide)]; exact v67) k3 ⟨by rw [W3.2 28 (by decide) (by decide)]; exact hr.1, av_keep hr.2 (W3.1 117 (by decide) (by decide))⟩ hrl hokU ⟨by rw [W3.2 26 (by decide) (by decide)]; exact hu.1, hu.2⟩ hfr hfk ⟨by rw [W3.2 33 (by decide) (by decide)]; exact hF.1, fun i hi => by rw [W3.1 118 (by decide) (by decide), W3.1 119 (by decide) (by decide)]; exact hF.2 i hi⟩ ht (by rw [W3.2 30 (by decide) (by decide)]; exact hn) b3 hok k1 (fun I4 L4 y1 y2 y3 y4 y5 y6 y7 => ⟨rfl, ?_⟩))
        exact fin1 I4 L4 _ rfl y4 y1 y2 y3 y5 (fw_t W3 y6) y7
    · have dx : dgr U rl fr n F al t A s T ip port = (cd_s al A s T ip port, al) := by unfold dgr; rw [if_pos k1]
      refine wp_aload (k := 25) rfl rfl ?_
      refine wp_aload (k := 26) rfl rfl ?_
      refine wp_iload (k := 27) rfl rfl ?_
      refine wp_iload (k := 28) rfl rfl ?_
      refine w_Vi (k := 29) [_, _] rfl rfl rfl (Nat.le_of_ble_eq_true rfl) (by first | assumption | rfl) (Or.inl ⟨rfl, rfl⟩) ?_
      refine (c_209 b2 hok ?_)
      refine ⟨_, rfl, ?_⟩
      refine w_Vv (k := 30) [_] rfl rfl rfl (Nat.le_of_ble_eq_true rfl) (by first | assumption | rfl) (Or.inl ⟨rfl, rfl⟩) ?_
      refine (c_237 b2 hok hA2 p2 t2 k1 (fun I3 p3 t3 f3 a3 => ⟨rfl, ?_⟩))
      refine w_goto (k := 31) (t' := 41) rfl rfl ?_
      exact fin1 I3 L _ dx a3 (tbm_x b2 f3 fl_rf (fun x y1 y2 => by simp; omega)) p3 t3 (mk_k k2 (f3.1 101 (by decide) (by decide)) (f3.1 102 (by decide) (by decide))) (fw_t W2 (fw_x f3 (by decide) (by decide))) fyl_rf
  · have c1 := of_decide_eq_false c1
    refine w_ic (k := 9) (x := (-1)) rfl (by decide) ?_
    refine w_ri (k := 10) rfl rfl rfl rfl ?_
    refine hno ?_
    by_cases q : port < nI 1
    · exact Or.inl q
    · exact Or.inr (by
        by_cases q2 : nI 65535 < port
        · exact q2
        · exact absurd ⟨q, q2⟩ c1)
end MDG
