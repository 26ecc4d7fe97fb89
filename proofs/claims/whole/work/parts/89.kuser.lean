/-! ===== user of the reference, with a closer frame ===== -/
section KU
variable {d N : Nat} {I : Nat → Nat → Int32} {L : Nat → Nat → Int64} {w : Option Nat} {Q : am_Q} {U : UR}
theorem fy_193 {I I1 : Nat → Nat → Int32} (e1 : ∀ x, x ≠ 100 → x ≠ 114 → I1 x = I x) (e2 : ∀ s, s ≠ 23 → I1 100 s = I 100 s) : fx [114] [0, 23, 26] I I1 := ⟨fun x h hx => e1 x h (fun q => hx (by rw [q]; decide)), fun s hs => e2 s (fun q => hs (by rw [q]; decide))⟩
theorem k_200 (hok : us_ok U) (h : us_m I L U) {u p : Int64} (hq : ∀ I' L', us_m I' L' ((sp_us U u p).getD U) → fx [114] [0, 23, 26] I I' → (∀ x, x ≠ 115 → x ≠ 116 → L' x = L x) → Q (some (.int (rsu (sp_us U u p)))) (am_SH N, I', L', am_RR w)) : am_call (d + 3) 200 [.ref 100, .long u, .long p] (am_SH N, I, L, am_RR w) Q := by
  have hl := hok.1
  have no : ∀ ls I1, us_m I1 L U → fx [114] [0, 23, 26] I I1 → (isW u && isW p) = false → am_V 200 am_c200 (d + 2) (am_SH N) Q 11 ls [] (am_SH N, I1, L, am_RR w) := by
    intro ls I1 h1 f1 hf
    unfold sp_us at hq
    rw [if_neg (by rw [hf]; decide)] at hq
    refine w_ic (k := 11) (x := (-1)) rfl (by decide) ?_
    refine w_ri (k := 12) rfl rfl rfl rfl ?_
    exact hq I1 L h1 f1 (fun _ _ _ => rfl)
  have fin : ∀ (o : Option Value) (i : Nat) (I1 : Nat → Nat → Int32) (L1 : Nat → Nat → Int64) (V : UR), i < 8 → I1 100 26 = nI V.length → Q (some (.int (nI V.length))) (am_SH N, I1, am_u L1 116 i p, am_RR w) → am_V 200 am_c200 (d + 2) (am_SH N) Q 43 [some (.ref 100), some (.long u), none, some (.long p), none, some (.int (nI i))] [] (am_SH N, I1, L1, am_RR w) := by
    intro o i I1 L1 V hi h1 h2
    refine wp_aload (k := 43) rfl rfl ?_
    refine w_gr (k := 44) (s := 25) rfl rfl (by first | assumption | rfl) (by first | assumption | rfl) ?_
    refine wp_iload (k := 45) rfl rfl ?_
    refine wp_lload (k := 46) rfl rfl ?_
    refine w_last (k := 47) rfl rfl (by first | assumption | rfl) (by omega) ?_
    refine wp_aload (k := 48) rfl rfl ?_
    refine w_gi (k := 49) (s := 26) rfl rfl (by first | assumption | rfl) (by first | assumption | rfl) ?_
    refine w_ri (k := 50) rfl rfl rfl rfl ?_
    exact h2
  refine am_enter (ls := [some _, some _, none, some _, none, none]) (cs := am_c200) rfl rfl (Nat.le_of_ble_eq_true rfl) rfl ?_
  refine wp_aload (k := 0) rfl rfl ?_
  refine w_ic (k := 1) (x := nI 0) rfl (oi_nI 0) ?_
  refine w_pi (k := 2) (s := 0) rfl rfl (by first | assumption | rfl) ?_
  refine wp_aload (k := 3) rfl rfl ?_
  refine wp_lload (k := 4) rfl rfl ?_
  refine w_Vi (k := 5) [_] rfl rfl rfl (Nat.le_of_ble_eq_true rfl) (by first | assumption | rfl) (Or.inl ⟨rfl, rfl⟩) ?_
  refine (c_193 (fun I1 l1 e1 e2 => ⟨_, rfl, ?_⟩))
  have f1 : fx [114] [0, 23, 26] I I1 := fx_t (fx_s (s := 0) (v := nI 0) (by decide)) (fy_193 e1 e2)
  have h1 : us_m I1 L U := ⟨by rw [e2 26 (by decide), am_u_app, if_neg (by decide)]; exact h.1, h.2⟩
  refine w_b_eq (k := 6) (t' := 11) rfl rfl (fun k1 => ?_) (fun k1 => ?_)
  · exact no _ I1 h1 f1 (by rw [k1]; rfl)
  · refine wp_aload (k := 7) rfl rfl ?_
    refine wp_lload (k := 8) rfl rfl ?_
    refine w_Vi (k := 9) [_] rfl rfl rfl (Nat.le_of_ble_eq_true rfl) (by first | assumption | rfl) (Or.inl ⟨rfl, rfl⟩) ?_
    refine (c_193 (fun I2 l2 e3 e4 => ⟨_, rfl, ?_⟩))
    have f2 := fx_t f1 (fy_193 e3 e4)
    have h2 : us_m I2 L U := ⟨by rw [e4 26 (by decide)]; exact h1.1, h1.2⟩
    have z2 := h2.1
    refine w_b_ne (k := 10) (t' := 13) rfl rfl (fun k2 => ?_) (fun k2 => ?_)
    · unfold sp_us at hq
      rw [if_pos (by rw [k1, k2]; rfl)] at hq
      refine wp_aload (k := 13) rfl rfl ?_
      refine wp_lload (k := 14) rfl rfl ?_
      refine w_Sl (k := 15) [_] rfl rfl rfl (Nat.le_of_ble_eq_true rfl) (Or.inl ⟨rfl, rfl⟩) ?_
      refine (c_198 ?_)
      refine ⟨_, rfl, ?_⟩
      refine w_Vi (k := 16) [_] rfl rfl rfl (Nat.le_of_ble_eq_true rfl) (by first | assumption | rfl) (Or.inl ⟨rfl, rfl⟩) ?_
      refine (c_199 hl h2.1 ?_)
      refine ⟨_, rfl, ?_⟩
      rw [uf_m hok h2 (wd_nz u)]
      unfold sp_user at hq
      cases hf : uf U (nz 8 (uN u)) with
      | some i =>
        rw [hf] at hq
        simp only [Option.getD_some, rsu] at hq
        obtain ⟨-, b2, b3, -⟩ := ff_some hf
        have b3 := of_decide_eq_true b3
        refine wp_istore (k := 17) rfl rfl ?_
        refine wp_iload (k := 18) rfl rfl ?_
        refine w_z_ge (k := 19) (t' := 26) rfl rfl (fun zq => ?_) (fun zq => absurd (nI_pos' (by omega)) zq)
        refine wp_iload (k := 26) rfl rfl ?_
        refine w_z_ge (k := 27) (t' := 43) rfl rfl (fun zq => ?_) (fun zq => absurd (nI_pos' (by omega)) zq)
        refine fin none i I2 L U (by omega) h2.1 ?_
        have := hq _ _ (us_m_set (pw := p) h2 (by omega) b3) f2 (fun x _ h2 => am_uR h2)
        rw [List.length_set] at this
        exact this
      | none =>
        rw [hf] at hq
        simp only at hq
        refine wp_istore (k := 17) rfl rfl ?_
        refine wp_iload (k := 18) rfl rfl ?_
        refine w_z_ge (k := 19) (t' := 26) rfl rfl (fun zq => absurd zq (by decide)) (fun zq => ?_)
        refine wp_aload (k := 20) rfl rfl ?_
        refine w_gi (k := 21) (s := 26) rfl rfl (by first | assumption | rfl) (by first | assumption | rfl) ?_
        refine w_ic (k := 22) (x := nI 8) rfl (oi_nI 8) ?_
        refine w_n_ne (k := 23) (t' := 26) rfl rfl (by omega) (fun k3 => ?_) (fun k3 => ?_)
        · rw [if_neg (by omega)] at hq
          simp only [Option.getD_some, rsu] at hq
          refine wp_iload (k := 26) rfl rfl ?_
          refine w_z_ge (k := 27) (t' := 43) rfl rfl (fun zq => absurd zq (by decide)) (fun zq => ?_)
          refine wp_aload (k := 28) rfl rfl ?_
          refine w_gi (k := 29) (s := 26) rfl rfl (by first | assumption | rfl) (by first | assumption | rfl) ?_
          refine wp_istore (k := 30) rfl rfl ?_
          refine wp_aload (k := 31) rfl rfl ?_
          refine w_gr (k := 32) (s := 24) rfl rfl (by first | assumption | rfl) (by first | assumption | rfl) ?_
          refine wp_iload (k := 33) rfl rfl ?_
          refine wp_lload (k := 34) rfl rfl ?_
          refine w_Sl (k := 35) [_] rfl rfl rfl (Nat.le_of_ble_eq_true rfl) (Or.inl ⟨rfl, rfl⟩) ?_
          refine (c_198 ?_)
          refine ⟨_, rfl, ?_⟩
          refine w_last (k := 36) rfl rfl (by first | assumption | rfl) (by omega) ?_
          refine wp_aload (k := 37) rfl rfl ?_
          refine wp_dup (k := 38) rfl rfl ?_
          refine w_gi (k := 39) (s := 26) rfl rfl (by first | assumption | rfl) (by first | assumption | rfl) ?_
          refine w_ic (k := 40) (x := nI 1) rfl (oi_nI 1) ?_
          refine w_addN (k := 41) rfl ?_
          refine w_pi (k := 42) (s := 26) rfl rfl (by first | assumption | rfl) ?_
          refine fin none U.length _ _ (U ++ [(nz 8 (uN u), p)]) (by omega) (by rw [am_us]; simp) ?_
          exact hq _ _ (us_m_app (pw := p) (nm := nz 8 (uN u)) h2) (fx_t f2 (fx_s (by decide))) (fun x h1 h2 => by rw [am_uR h2, am_uR h1])
        · rw [if_pos (by omega)] at hq
          refine w_ic (k := 24) (x := (-1)) rfl (by decide) ?_
          refine w_ri (k := 25) rfl rfl rfl rfl ?_
          exact hq I2 L h2 f2 (fun _ _ _ => rfl)
    · exact no _ I2 h2 f2 (by rw [k2]; simp)
end KU
