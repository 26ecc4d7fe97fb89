section CDC
variable {d N : Nat} {I : Nat → Nat → Int32} {L : Nat → Nat → Int64} {w : Option Nat} {Q : am_Q} {s : SN} {T : Nat → Int32} {A : List Nat} {al : Nat → Option AL}
theorem clf_lt {ip port : Int32} {k : Nat} (h : clf al ip port = some k) : k < 8 ∧ ∃ a, al k = some a ∧ a.1.1 = ip ∧ a.1.2.1 = port := by
  obtain ⟨-, h2, h3, -⟩ := ff_some h
  refine ⟨by omega, ?_⟩
  unfold isc at h3
  cases ha : al k with
  | none => rw [ha] at h3; cases h3
  | some a => rw [ha] at h3; exact ⟨a, rfl, of_decide_eq_true h3⟩
theorem c_237 (h : tbm I L al) (hok : tok al) (hA : mT I A) (hp : po_m I (clr s)) (hT : tl_m I T) (hD : chD A = true) {ip port : Int32} (hq : ∀ I', po_m I' (cd_s al A s T ip port).1 → tl_m I' (cd_s al A s T ip port).2 → fx [113] SS I I' → mT I' A → Q none (am_SH N, I', L, am_RR w)) : am_call (d + 3) 237 [.ref 100, .int (oI (clf al ip port))] (am_SH N, I, L, am_RR w) Q := by
  have hD := of_decide_eq_true hD
  obtain ⟨t1, t2, t3⟩ := id hA
  unfold cd_s at hq
  refine am_enter (ls := [some _, some _, none]) (cs := am_c237) rfl rfl (Nat.le_of_ble_eq_true rfl) rfl ?_
  cases hk : clf al ip port with
  | none =>
    rw [hk] at hq
    refine wp_iload (k := 0) rfl rfl ?_
    refine w_z_ge (k := 1) (t' := 3) rfl rfl (fun zq => absurd zq (by decide)) (fun zq => ?_)
    refine w_rv (k := 2) rfl rfl rfl rfl ?_
    exact hq I hp hT fx_rf hA
  | some k =>
    obtain ⟨hk8, a, ha, -⟩ := clf_lt hk
    have hm := h k hk8
    rw [ha] at hm
    have hm : sm I L k a := hm
    have hoa := hok.1 k a hk8 ha
    obtain ⟨a1, a2, a3, a4, a5, a6, a7, a8, a9⟩ := id hm
    rw [hk] at hq
    simp only [Option.bind_some, ha] at hq
    refine wp_iload (k := 0) rfl rfl ?_
    refine w_z_ge (k := 1) (t' := 3) rfl rfl (fun zq => ?_) (fun zq => absurd (nI_pos' (by omega)) zq)
    refine wp_aload (k := 3) rfl rfl ?_
    refine wp_iload (k := 4) rfl rfl ?_
    refine wp_aload (k := 5) rfl rfl ?_
    refine w_gr (k := 6) (s := 14) rfl rfl (by first | assumption | rfl) (by first | assumption | rfl) ?_
    refine w_ic (k := 7) (x := nI 0) rfl (oi_nI 0) ?_
    refine w_Si (k := 8) [_, _] rfl rfl rfl (Nat.le_of_ble_eq_true rfl) (Or.inl ⟨rfl, rfl⟩) ?_
    refine (c_179 rfl (by decide) t2 (by omega) (by omega) ?_)
    refine ⟨_, rfl, ?_⟩
    refine w_Vi (k := 9) [_, _] rfl rfl rfl (Nat.le_of_ble_eq_true rfl) (by first | assumption | rfl) (Or.inl ⟨rfl, rfl⟩) ?_
    refine (c_211 hk8 a9 hoa.2.1 ?_)
    refine ⟨_, rfl, ?_⟩
    cases hc : cf a.2.2.2.2 (nI (nb A 0 2)) with
    | none =>
      rw [hc] at hq
      refine wp_istore (k := 10) rfl rfl ?_
      refine wp_iload (k := 11) rfl rfl ?_
      refine w_z_lt (k := 12) (t' := 25) rfl rfl (fun zq => ?_) (fun zq => absurd (by decide) zq)
      refine w_rv (k := 25) rfl rfl rfl rfl ?_
      exact hq I hp hT fx_rf hA
    | some c =>
      rw [hc] at hq
      have hcl := (cf_lt hc).1
      have hl8 := a9.2.1
      have e := a9.2.2 c hcl
      simp only [rly] at hq
      refine wp_istore (k := 10) rfl rfl ?_
      refine wp_iload (k := 11) rfl rfl ?_
      refine w_z_lt (k := 12) (t' := 25) rfl rfl (fun zq => absurd zq (nI_pos (by omega))) (fun zq => ?_)
      refine wp_aload (k := 13) rfl rfl ?_
      refine wp_iload (k := 14) rfl rfl ?_
      refine wp_aload (k := 15) rfl rfl ?_
      refine w_gr (k := 16) (s := 47) rfl rfl (by first | assumption | rfl) (by first | assumption | rfl) ?_
      refine w_ic (k := 17) (x := nI 8) rfl (oi_nI 8) ?_
      refine wp_iload (k := 18) rfl rfl ?_
      refine w_mulN (k := 19) rfl ?_
      refine wp_iload (k := 20) rfl rfl ?_
      refine w_addN (k := 21) rfl ?_
      refine w_iald (k := 22) rfl rfl (by first | assumption | rfl) (by omega) e.2.1 ?_
      refine w_Vi (k := 23) [_, _] rfl rfl rfl (Nat.le_of_ble_eq_true rfl) (by first | assumption | rfl) (Or.inl ⟨rfl, rfl⟩) ?_
      refine (c_210 hk8 a8 hoa.1 ?_)
      refine ⟨_, rfl, ?_⟩
      cases hf : pf a.2.2.2.1 (a.2.2.2.2.getD c c0).2.1 with
      | none =>
        rw [hf] at hq
        refine w_z_ge (k := 24) (t' := 26) rfl rfl (fun zq => absurd zq (by decide)) (fun zq => ?_)
        refine w_rv (k := 25) rfl rfl rfl rfl ?_
        exact hq I hp hT fx_rf hA
      | some i =>
        rw [hf] at hq
        have hi := (pf_lt hf).1
        have hl16 := a8.2.1
        refine w_z_ge (k := 24) (t' := 26) rfl rfl (fun zq => ?_) (fun zq => absurd (nI_pos' (by omega)) zq)
        refine wp_aload (k := 26) rfl rfl ?_
        refine wp_iload (k := 27) rfl rfl ?_
        refine w_ic (k := 28) (x := nI 4) rfl (oi_nI 4) ?_
        refine wp_aload (k := 29) rfl rfl ?_
        refine w_gr (k := 30) (s := 14) rfl rfl (by first | assumption | rfl) (by first | assumption | rfl) ?_
        refine w_ic (k := 31) (x := nI 2) rfl (oi_nI 2) ?_
        refine w_Si (k := 32) [_, _] rfl rfl rfl (Nat.le_of_ble_eq_true rfl) (Or.inl ⟨rfl, rfl⟩) ?_
        refine (c_179 rfl (by decide) t2 (by omega) (by omega) ?_)
        refine ⟨_, rfl, ?_⟩
        refine wp_aload (k := 33) rfl rfl ?_
        refine w_gr (k := 34) (s := 47) rfl rfl (by first | assumption | rfl) (by first | assumption | rfl) ?_
        refine w_ic (k := 35) (x := nI 8) rfl (oi_nI 8) ?_
        refine wp_iload (k := 36) rfl rfl ?_
        refine w_mulN (k := 37) rfl ?_
        refine wp_iload (k := 38) rfl rfl ?_
        refine w_addN (k := 39) rfl ?_
        refine w_iald (k := 40) rfl rfl (by first | assumption | rfl) (by omega) e.2.1 ?_
        refine wp_aload (k := 41) rfl rfl ?_
        refine w_gr (k := 42) (s := 48) rfl rfl (by first | assumption | rfl) (by first | assumption | rfl) ?_
        refine w_ic (k := 43) (x := nI 8) rfl (oi_nI 8) ?_
        refine wp_iload (k := 44) rfl rfl ?_
        refine w_mulN (k := 45) rfl ?_
        refine wp_iload (k := 46) rfl rfl ?_
        refine w_addN (k := 47) rfl ?_
        refine w_iald (k := 48) rfl rfl (by first | assumption | rfl) (by omega) e.2.2.1 ?_
        refine w_Vv (k := 49) [_, _, _, _, _] rfl rfl rfl (Nat.le_of_ble_eq_true rfl) (by first | assumption | rfl) (Or.inl ⟨rfl, rfl⟩) ?_
        refine (c_238 hk8 a5 hA hp hT (by omega) (fun I' p' t' f' A' => ⟨rfl, ?_⟩))
        refine w_rv (k := 50) rfl rfl rfl rfl ?_
        exact hq I' p' t' f' A'
end CDC
