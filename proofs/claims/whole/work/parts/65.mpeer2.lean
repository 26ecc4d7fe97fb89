/-! ===== peer: the reference's desk and the class's ===== -/
section MPF
variable {d N : Nat} {I : Nat → Nat → Int32} {L : Nat → Nat → Int64} {w : Option Nat} {Q : am_Q} {s : SN} {T : Nat → Int32} {A : List Nat} {al : Nat → Option AL}
theorem c_253 (h : tbm I L al) (hok : tok al) (hA : mT I A) (hp : po_m I s) (hT : tl_m I T) {rel ip port : Int32} (hn : (port < nI 1 ∨ nI 65535 < port) → Q (some (.int (-1))) (am_SH N, am_u I 100 0 (nI 0), L, am_RR w)) (hq : ¬ (port < nI 1 ∨ nI 65535 < port) → ∀ I', mT I' [] → po_m I' (pr_s al A s T rel ip port).1 → tl_m I' (if (pr_s al A s T rel ip port).1.1 then (pr_s al A s T rel ip port).2 else inc (pr_s al A s T rel ip port).2 5) → fx [113] SS I I' → Q (some (.int (if (pr_s al A s T rel ip port).1.1 then nI 1 else nI 0))) (am_SH N, I', L, am_RR w)) : am_call (d + 6) 253 [.ref 100, .int rel, .int ip, .int port] (am_SH N, I, L, am_RR w) Q := by
  refine am_enter (ls := [some _, some _, some _, some _, none]) (cs := am_c253) rfl rfl (Nat.le_of_ble_eq_true rfl) rfl ?_
  refine wp_aload (k := 0) rfl rfl ?_
  refine w_ic (k := 1) (x := nI 0) rfl (oi_nI 0) ?_
  refine w_pi (k := 2) (s := 0) rfl rfl (by first | assumption | rfl) ?_
  refine wp_iload (k := 3) rfl rfl ?_
  refine wp_i2l (k := 4) rfl ?_
  refine w_lc (k := 5) (x := lN 1) rfl (ol_lN 1) ?_
  refine w_lc (k := 6) (x := lN 65535) rfl (ol_lN 65535) ?_
  refine w_Si (k := 7) [_, _, _] rfl rfl rfl (Nat.le_of_ble_eq_true rfl) (Or.inl ⟨rfl, rfl⟩) ?_
  refine (c_166 ?_)
  refine ⟨_, rfl, ?_⟩
  rw [show decide (lN 1 ≤ port.toInt64 ∧ port.toInt64 ≤ lN 65535) = decide (¬ port < nI 1 ∧ ¬ nI 65535 < port) from decide_eq_decide.mpr (in_kd port (by decide) (by decide))]
  refine w_b_ne (k := 8) (t' := 11) rfl rfl (fun k1 => ?_) (fun k1 => ?_)
  · have k1 := of_decide_eq_true k1
    have hq := hq (fun q => q.elim k1.1 k1.2)
    have F1 : fx [113] SS I (am_u I 100 0 (nI 0)) := fx_s (by decide)
    have p1 : po_m (am_u I 100 0 (nI 0)) s := ⟨by rw [am_uw (by decide) rfl]; exact hp.1, by rw [am_uw (by decide) rfl]; exact hp.2.1, by rw [am_uw (by decide) rfl]; exact hp.2.2.1, by rw [am_uw (by decide) rfl]; exact hp.2.2.2.1, mS_k (P := []) (S := [0]) hp.2.2.2.2 (fx_s (by decide)) (by decide) (by decide)⟩
    have t1 : tl_m (am_u I 100 0 (nI 0)) T := tl_k (P := []) (S := [0]) hT (fx_s (by decide)) (fun j hj => by simp)
    refine wp_aload (k := 11) rfl rfl ?_
    refine w_Vv (k := 12) [] rfl rfl rfl (Nat.le_of_ble_eq_true rfl) (by first | assumption | rfl) (Or.inl ⟨rfl, rfl⟩) ?_
    refine (c_224 p1 t1 (fun I2 p2 t2 f2 => ⟨rfl, ?_⟩))
    have F2 : fx [113] SS I I2 := fx_t F1 (fx_mo f2 (by decide) (by decide))
    have A2 : mT I2 A := mT_k (mT_k (P := []) (S := [0]) hA (fx_s (by decide)) (by decide) (by decide)) f2 (by decide) (by decide)
    have h2 : tbm I2 L al := tbm_k h (fun x a b => F2.1 x (by omega) (by simp; omega)) (fun _ _ _ => rfl)
    have fin : ∀ (I3 : Nat → Nat → Int32) (o4 : Option Value), mT I3 A → po_m I3 (pr_s al A s T rel ip port).1 → tl_m I3 (pr_s al A s T rel ip port).2 → fx [113] SS I I3 → am_V 253 am_c253 (d + 5) (am_SH N) Q 42 [some (.ref 100), some (.int rel), some (.int ip), some (.int port), o4] [] (am_SH N, I3, L, am_RR w) := by
      intro I3 o4 A3 p3 t3 f3
      refine wp_aload (k := 42) rfl rfl ?_
      refine w_Vi (k := 43) [] rfl rfl rfl (Nat.le_of_ble_eq_true rfl) (by first | assumption | rfl) (Or.inl ⟨rfl, rfl⟩) ?_
      refine (c_235 A3 p3 t3 (fun I4 A4 p4 t4 f4 => ⟨_, rfl, ?_⟩))
      refine w_ri (k := 44) rfl rfl rfl rfl ?_
      exact hq I4 A4 p4 t4 (fx_t f3 (fx_mo f4 (by decide) (by decide)))
    have ex : ∀ o, lf (isp al rel) 8 = o → am_V 253 am_c253 (d + 5) (am_SH N) Q 30 [some (.ref 100), some (.int rel), some (.int ip), some (.int port), some (.int (oI o))] [] (am_SH N, I2, L, am_RR w) := by
      intro o ho
      rw [← pt_lf hok] at ho
      cases o with
      | none =>
        have e : pr_s al A s T rel ip port = (clr s, T) := by unfold pr_s; rw [ho]; rfl
        refine wp_iload (k := 30) rfl rfl ?_
        refine w_z_lt (k := 31) (t' := 42) rfl rfl (fun zq => ?_) (fun zq => absurd (by decide) zq)
        exact fin I2 _ A2 (by rw [e]; exact p2) (by rw [e]; exact t2) F2
      | some k =>
        obtain ⟨hk, a, ha, -⟩ := ptf_lt ho
        have hm := h2 k hk
        rw [ha] at hm
        have hm : sm I2 L k a := hm
        have hoa := hok.1 k a hk ha
        have e0 : (ptf al rel).bind al = some a := by rw [ho]; exact ha
        refine wp_iload (k := 30) rfl rfl ?_
        refine w_z_lt (k := 31) (t' := 42) rfl rfl (fun zq => absurd zq (nI_pos (by omega))) (fun zq => ?_)
        refine wp_aload (k := 32) rfl rfl ?_
        refine wp_iload (k := 33) rfl rfl ?_
        refine wp_iload (k := 34) rfl rfl ?_
        refine w_Vi (k := 35) [_, _] rfl rfl rfl (Nat.le_of_ble_eq_true rfl) (by first | assumption | rfl) (Or.inl ⟨rfl, rfl⟩) ?_
        refine (c_210 hk hm.2.2.2.2.2.2.2.1 hoa.1 ?_)
        refine ⟨_, rfl, ?_⟩
        cases hf : pf a.2.2.2.1 ip with
        | none =>
          have e : pr_s al A s T rel ip port = (clr s, T) := by unfold pr_s; rw [e0]; simp only [hf]; rfl
          refine w_z_lt (k := 36) (t' := 42) rfl rfl (fun zq => ?_) (fun zq => absurd (by decide) zq)
          exact fin I2 _ A2 (by rw [e]; exact p2) (by rw [e]; exact t2) F2
        | some i =>
          have hi := (pf_lt hf).1
          have hl := hm.2.2.2.2.2.2.2.1.2.1
          refine w_z_lt (k := 36) (t' := 42) rfl rfl (fun zq => absurd zq (nI_pos (by omega))) (fun zq => ?_)
          refine wp_aload (k := 37) rfl rfl ?_
          refine wp_iload (k := 38) rfl rfl ?_
          refine wp_iload (k := 39) rfl rfl ?_
          refine wp_iload (k := 40) rfl rfl ?_
          refine w_Vv (k := 41) [_, _, _] rfl rfl rfl (Nat.le_of_ble_eq_true rfl) (by first | assumption | rfl) (Or.inl ⟨rfl, rfl⟩) ?_
          refine (c_254 hk hm hoa.2.1 A2 p2 t2 (fun I3 p3 t3 A3 f3 => ⟨rfl, ?_⟩))
          have F3 := fx_t F2 f3
          cases hc : ct a.2.2.2.2 ip port with
          | none =>
            have e : pr_s al A s T rel ip port = ((true, a.1.1, a.1.2.1, nI 3478, ind A ip port (T 1)), inc (inc (inc T 0) 3) 1) := by unfold pr_s; rw [e0]; simp only [hf, hc]; rfl
            rw [hc] at p3 t3
            exact fin I3 _ A3 (by rw [e]; exact p3) (by rw [e]; exact t3) F3
          | some c =>
            have e : pr_s al A s T rel ip port = ((true, a.1.1, a.1.2.1, nI 3478, chd (a.2.2.2.2.getD c c0).1 A), inc (inc T 0) 3) := by unfold pr_s; rw [e0]; simp only [hf, hc]; rfl
            rw [hc] at p3 t3
            exact fin I3 _ A3 (by rw [e]; exact p3) (by rw [e]; exact t3) F3
    have loop : ∀ (m : Nat), m ≤ 8 → lf (isp al rel) 8 = lf (isp al rel) m → am_V 253 am_c253 (d + 5) (am_SH N) Q 15 [some (.ref 100), some (.int rel), some (.int ip), some (.int port), some (.int (nI m - nI 1))] [] (am_SH N, I2, L, am_RR w) := by
      intro m
      induction m with
      | zero =>
        intro hm e
        refine wp_iload (k := 15) rfl rfl ?_
        refine w_z_lt (k := 16) (t' := 30) rfl rfl (fun zq => ?_) (fun zq => absurd (by decide) zq)
        exact ex none e
      | succ m ih =>
        intro hm e
        have er : nI (m + 1) - nI 1 = nI m := by rw [pk_sub (by omega)]; congr 1
        rw [er]
        rw [show lf (isp al rel) (m + 1) = if isp al rel m then some m else lf (isp al rel) m from rfl] at e
        have ho := h2 m (by omega)
        have th := om_th ho
        have no : isp al rel m = false → am_V 253 am_c253 (d + 5) (am_SH N) Q 28 [some (.ref 100), some (.int rel), some (.int ip), some (.int port), some (.int (nI m))] [] (am_SH N, I2, L, am_RR w) := by
          intro hf
          rw [if_neg (by rw [hf]; decide)] at e
          refine w_incX (k := 28) rfl rfl (m1 m) ?_
          refine w_goto (k := 29) (t' := 15) rfl rfl ?_
          exact ih (by omega) e
        refine wp_iload (k := 15) rfl rfl ?_
        refine w_m_lt (k := 16) (t' := 30) rfl rfl (by omega) (fun zq => absurd zq (by omega)) (fun zq => ?_)
        refine wp_aload (k := 17) rfl rfl ?_
        refine w_gr (k := 18) (s := 35) rfl rfl (by first | assumption | rfl) (by first | assumption | rfl) ?_
        refine wp_iload (k := 19) rfl rfl ?_
        refine w_cald (k := 20) rfl rfl (by first | assumption | rfl) (by omega) th ?_
        refine w_b_eq (k := 21) (t' := 28) rfl rfl (fun k => ?_) (fun k => ?_)
        · exact no (by unfold isp; cases ha : al m with | none => rfl | some a => rw [ha] at k; cases k)
        · cases ha : al m with
          | none => rw [ha] at k; cases k
          | some a =>
            rw [ha] at ho
            obtain ⟨a1, a2, a3, a4, a5, -⟩ := ho
            refine wp_aload (k := 22) rfl rfl ?_
            refine w_gr (k := 23) (s := 39) rfl rfl (by first | assumption | rfl) (by first | assumption | rfl) ?_
            refine wp_iload (k := 24) rfl rfl ?_
            refine w_iald (k := 25) rfl rfl (by first | assumption | rfl) (by omega) a5 ?_
            refine wp_iload (k := 26) rfl rfl ?_
            refine w_c_eq (k := 27) (t' := 30) rfl rfl (fun k2 => ?_) (fun k2 => ?_)
            · rw [if_pos (by unfold isp; rw [ha]; exact decide_eq_true k2)] at e
              exact ex (some m) e
            · exact no (by unfold isp; rw [ha]; exact decide_eq_false k2)
    refine w_ic (k := 13) (x := nI 7) rfl (oi_nI 7) ?_
    refine wp_istore (k := 14) rfl rfl ?_
    exact loop 8 (Nat.le_refl _) rfl
  · have k1 := of_decide_eq_false k1
    refine w_ic (k := 9) (x := (-1)) rfl (by decide) ?_
    refine w_ri (k := 10) rfl rfl rfl rfl ?_
    refine hn ?_
    by_cases c : port < nI 1
    · exact Or.inl c
    · by_cases c2 : nI 65535 < port
      · exact Or.inr c2
      · exact absurd ⟨c, c2⟩ k1
theorem c_157 (h : tbc I L al) (hA : cT I A) (hp : po_c I s) (hT : tl_c I T) {rel ip port : Int32} (hn : (port < nI 1 ∨ nI 65535 < port) → Q (some (.int (-1))) (am_SH N, I, L, am_RR w)) (hq : ¬ (port < nI 1 ∨ nI 65535 < port) → ∀ I', cT I' [] → po_c I' (pr_s al A s T rel ip port).1 → lr_ I' 85 (pr_s al A s T rel ip port).1.2.2.2.2 → tl_c I' (if (pr_s al A s T rel ip port).1.1 then (pr_s al A s T rel ip port).2 else inc (pr_s al A s T rel ip port).2 5) → fc [5, 82, 83, 84, 85, 86, 87, 88, 89, 90] I I' → Q (some (.int (if (pr_s al A s T rel ip port).1.1 then nI 1 else nI 0))) (am_SH N, I', L, am_RR w)) : am_call (d + 6) 157 [.ref 4, .int rel, .int ip, .int port] (am_SH N, I, L, am_RR w) Q := by
  refine am_enter (ls := [some _, some _, some _, some _]) (cs := am_c157) rfl rfl (Nat.le_of_ble_eq_true rfl) rfl ?_
  refine wp_iload (k := 0) rfl rfl ?_
  refine w_ic (k := 1) (x := nI 1) rfl (oi_nI 1) ?_
  refine w_c_lt (k := 2) (t' := 6) rfl rfl (fun k1 => ?_) (fun k1 => ?_)
  · refine w_ic (k := 6) (x := (-1)) rfl (by decide) ?_
    refine w_ri (k := 7) rfl rfl rfl rfl ?_
    exact hn (Or.inl k1)
  · refine wp_iload (k := 3) rfl rfl ?_
    refine w_ic (k := 4) (x := nI 65535) rfl (oi_nI 65535) ?_
    refine w_c_le (k := 5) (t' := 8) rfl rfl (fun k2 => ?_) (fun k2 => ?_)
    · have hq := hq (fun q => q.elim k1 (fun z => absurd k2 (Int32.not_le.mpr z)))
      refine wp_aload (k := 8) rfl rfl ?_
      refine w_gr (k := 9) (s := 7) rfl rfl (by first | assumption | rfl) (by first | assumption | rfl) ?_
      refine wp_iload (k := 10) rfl rfl ?_
      refine wp_iload (k := 11) rfl rfl ?_
      refine wp_iload (k := 12) rfl rfl ?_
      refine w_Vi (k := 13) [_, _, _] rfl rfl rfl (Nat.le_of_ble_eq_true rfl) (by first | assumption | rfl) (Or.inl ⟨rfl, rfl⟩) ?_
      refine (c_99 h hA hp hT (fun I' x1 x2 x3 x4 x5 => ⟨_, rfl, ?_⟩))
      refine w_ri (k := 14) rfl rfl rfl rfl ?_
      exact hq I' x1 x2 x3 x4 x5
    · refine w_ic (k := 6) (x := (-1)) rfl (by decide) ?_
      refine w_ri (k := 7) rfl rfl rfl rfl ?_
      exact hn (Or.inr (Int32.not_le.mp k2))
end MPF
