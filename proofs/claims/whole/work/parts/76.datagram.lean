/-! ===== datagram: the class ===== -/
def dgr (U : UR) (rl : List Nat) (fr : Int64) (n : Int32) (F : FR) (al : Nat → Option AL) (t : Int64) (B : List Nat) (s : SN) (T : Nat → Int32) (ip port : Int32) : (SN × (Nat → Int32)) × (Nat → Option AL) :=
  if chD B then (cd_s al B s T ip port, al) else if msg B && !fpw B then (if rnk (nb B 0 2) = 0 then ans U rl fr n F al t B T ip port (mth (nb B 0 2)) else if rnk (nb B 0 2) = nI 1 ∧ mth (nb B 0 2) = nI 6 then (sd_s al B s T ip port, al) else ((clr s, T), al)) else ((clr s, T), al)
section DG
variable {d N : Nat} {I : Nat → Nat → Int32} {L : Nat → Nat → Int64} {w : Option Nat} {Q : am_Q} {A : List Nat} {al : Nat → Option AL} {t fr : Int64} {ip port n : Int32} {F : FR} {U : UR} {rl : List Nat} {T : Nat → Int32} {s : SN}
theorem c_98 (h : tbc I L al) (hA : cT I A) (hp : po_c I s) (hT : tl_c I T) (hst : stc I) (hs : sl I) (hrl : wd rl) (h3 : L 18 3 = lN (vb 0 rl)) (h4 : L 18 4 = fr) (ht : L 24 1 = t) (hn : I 18 5 = n) (hF : fn_c I F) (hok : fn_ok F) (huk : us_ok U) (hu : us_c I L U) (hq : ∀ I' L' w', cT I' [] → tbc I' L' (dgr U rl fr n F al t A s T ip port).2 → po_c I' (dgr U rl fr n F al t A s T ip port).1.1 → lr_ I' 85 (dgr U rl fr n F al t A s T ip port).1.1.2.2.2.2 → tl_c I' (if (dgr U rl fr n F al t A s T ip port).1.1.1 then (dgr U rl fr n F al t A s T ip port).1.2 else inc (dgr U rl fr n F al t A s T ip port).1.2 5) → sl I' → (∀ x, x < 5 ∨ (6 < x ∧ x < 9) ∨ (16 < x ∧ x < 26) ∨ 98 < x → I' x = I x) → (∀ x, x < 26 ∨ 81 < x → L' x = L x) → Q (some (.int (if (dgr U rl fr n F al t A s T ip port).1.1.1 then nI 1 else nI 0))) (am_SH N, I', L', am_RR w')) : am_call (d + 7) 98 [.ref 91, .int ip, .int port] (am_SH N, I, L, am_RR w) Q := by
  have hdx : ∀ D, dgr U rl fr n F al t A s T ip port = D → (∀ (I1 : Nat → Nat → Int32) (L1 : Nat → Nat → Int64) (w1 : Option Nat), cT I1 A → tbc I1 L1 D.2 → po_c I1 D.1.1 → tl_c I1 D.1.2 → sl I1 → (∀ x, x < 5 ∨ (6 < x ∧ x < 9) ∨ (16 < x ∧ x < 26) ∨ 98 < x → I1 x = I x) → (∀ x, x < 26 ∨ 81 < x → L1 x = L x) → am_V 98 am_c98 (d + 6) (am_SH N) Q 52 [some (.ref 91), some (.int ip), some (.int port)] [] (am_SH N, I1, L1, am_RR w1)) := by
    intro D hD I1 L1 w1 a1 b1 p1 t1 s1 f1 g1
    rw [hD] at hq
    refine wp_aload (k := 52) rfl rfl ?_
    refine w_gr (k := 53) (s := 0) rfl rfl (by first | assumption | rfl) (by first | assumption | rfl) ?_
    refine w_ic (k := 54) (x := nI 0) rfl (oi_nI 0) ?_
    refine w_Vv (k := 55) [_] rfl rfl rfl (Nat.le_of_ble_eq_true rfl) (by first | assumption | rfl) (Or.inl ⟨rfl, rfl⟩) ?_
    refine (c_86 (rwT N w1) a1 (Nat.zero_le _) (fun I2 k2 f2 => ⟨rfl, ?_⟩))
    rw [List.take_zero] at k2
    have f2' : fc [5] I1 I2 := fc_1 (a := 5) f2 (by decide)
    have p2 := po_k p1 f2' (by decide) (by decide) (by decide)
    have t2 := tlc_k t1 f2' (by decide)
    refine wp_aload (k := 56) rfl rfl ?_
    refine w_gr (k := 57) (s := 4) rfl rfl (by first | assumption | rfl) (by first | assumption | rfl) ?_
    refine w_Vi (k := 58) [] rfl rfl rfl (Nat.le_of_ble_eq_true rfl) (by first | assumption | rfl) (Or.inl ⟨rfl, rfl⟩) ?_
    refine (c_77 p2 t2 (fun I3 p3 l3 t3 f3 => ⟨_, rfl, ?_⟩))
    refine w_ri (k := 59) rfl rfl rfl rfl ?_
    exact hq I3 L1 w1 (rw_keep k2 (f3 5 (by decide)) (f3 6 (by decide))) (tbc_k b1 (fun x _ _ => by rw [f3 x (by simp; omega), f2 x (by omega)]) (fun _ _ _ => rfl)) p3 l3 t3 (sl_k (sl_k s1 f2' (by decide)) f3 (by decide)) (fun x hx => by rw [f3 x (by simp; omega), f2 x (by omega), f1 x hx]) g1
  have hA2 := hA.1
  refine am_enter (ls := [some _, some _, some _]) (cs := am_c98) rfl rfl (Nat.le_of_ble_eq_true rfl) rfl ?_
  refine wp_aload (k := 0) rfl rfl ?_
  refine w_gr (k := 1) (s := 4) rfl rfl (by first | assumption | rfl) (by first | assumption | rfl) ?_
  refine w_Vv (k := 2) [] rfl rfl rfl (Nat.le_of_ble_eq_true rfl) (by first | assumption | rfl) (Or.inl ⟨rfl, rfl⟩) ?_
  refine (c_75 hp (fun I0 p0 f0 => ⟨rfl, ?_⟩))
  refine wp_aload (k := 3) rfl rfl ?_
  refine wp_iload (k := 4) rfl rfl ?_
  refine w_pi (k := 5) (s := 11) rfl rfl (by first | assumption | rfl) ?_
  refine wp_aload (k := 6) rfl rfl ?_
  refine wp_iload (k := 7) rfl rfl ?_
  refine w_pi (k := 8) (s := 12) rfl rfl (by first | assumption | rfl) ?_
  generalize hI1 : am_u (am_u I0 91 11 ip) 91 12 port = I1
  have f1 : fc [82, 83, 91] I I1 := fun x hx => by rw [← hI1, am_uR (by simp at hx; omega), am_uR (by simp at hx; omega), f0 x (by simp at hx ⊢; omega)]
  have v11 : I1 91 11 = ip := by rw [← hI1, am_uw (by decide) am_us]
  have v12 : I1 91 12 = port := by rw [← hI1, am_us]
  have p1 : po_c I1 (clr s) := po_k (P := [91]) p0 (fun x hx => by rw [← hI1, am_uR (by simp at hx; omega), am_uR (by simp at hx; omega)]) (by decide) (by decide) (by decide)
  have b1 : tbc I1 L al := tbc_k h (fun x _ _ => f1 x (by simp; omega)) (fun _ _ _ => rfl)
  have A1 := cT_k hA f1 (by decide) (by decide)
  have T1 := tlc_k hT f1 (by decide)
  have st1 := stc_f hst f1 (by decide)
  have s1 := sl_k hs f1 (by decide)
  have fi1 : ∀ x, x < 5 ∨ (6 < x ∧ x < 9) ∨ (16 < x ∧ x < 26) ∨ 98 < x → I1 x = I x := fun x hx => f1 x (by simp; omega)
  -- behind the client's allocation
  have main : am_V 98 am_c98 (d + 6) (am_SH N) Q 16 [some (.ref 91), some (.int ip), some (.int port)] [] (am_SH N, I1, L, am_RR (pq (clf al ip port))) := by
    refine wp_aload (k := 16) rfl rfl ?_
    refine w_Vi (k := 17) [] rfl rfl rfl (Nat.le_of_ble_eq_true rfl) (by first | assumption | rfl) (Or.inl ⟨rfl, rfl⟩) ?_
    refine (c_103 A1 ?_)
    refine ⟨_, rfl, ?_⟩
    refine w_b_eq (k := 18) (t' := 22) rfl rfl (fun k1 => ?_) (fun k1 => ?_)
    · have dx : dgr U rl fr n F al t A s T ip port = if msg A && !fpw A then (if rnk (nb A 0 2) = 0 then ans U rl fr n F al t A T ip port (mth (nb A 0 2)) else if rnk (nb A 0 2) = nI 1 ∧ mth (nb A 0 2) = nI 6 then (sd_s al A s T ip port, al) else ((clr s, T), al)) else ((clr s, T), al) := by unfold dgr; rw [if_neg (by rw [k1]; decide)]
      refine wp_aload (k := 22) rfl rfl ?_
      refine w_gr (k := 23) (s := 6) rfl rfl (by first | assumption | rfl) (by first | assumption | rfl) ?_
      refine w_Vi (k := 24) [] rfl rfl rfl (Nat.le_of_ble_eq_true rfl) (by first | assumption | rfl) (Or.inl ⟨rfl, rfl⟩) ?_
      refine (c_35 (lqT N _) (rwT N _) A1 (by decide) (by decide) (fun I2 l2 f2 => ⟨_, rfl, ?_⟩))
      have F2 : fc [94, 95, 96, 97, 98] I1 I2 := fun x hx => f2 x (by simp at hx; omega)
      have A2 := cT_k A1 F2 (by decide) (by decide)
      have p2 := po_k p1 F2 (by decide) (by decide) (by decide)
      have T2 := tlc_k T1 F2 (by decide)
      have st2 := stc_f st1 F2 (by decide)
      have s2 := sl_k s1 F2 (by decide)
      have b2 : tbc I2 L al := tbc_k b1 (fun x _ _ => F2 x (by simp; omega)) (fun _ _ _ => rfl)
      have fi2 : ∀ x, x < 5 ∨ (6 < x ∧ x < 9) ∨ (16 < x ∧ x < 26) ∨ 98 < x → I2 x = I x := fun x hx => by rw [F2 x (by simp; omega), fi1 x hx]
      have out : dgr U rl fr n F al t A s T ip port = ((clr s, T), al) → am_V 98 am_c98 (d + 6) (am_SH N) Q 52 [some (.ref 91), some (.int ip), some (.int port)] [] (am_SH N, I2, L, am_RR (pq (clf al ip port))) := fun e => hdx _ e I2 L _ A2 b2 p2 T2 s2 fi2 (fun _ _ => rfl)
      refine w_b_eq (k := 25) (t' := 52) rfl rfl (fun k2 => ?_) (fun k2 => ?_)
      · exact out (by rw [dx, k2]; rfl)
      · refine wp_aload (k := 26) rfl rfl ?_
        refine w_gr (k := 27) (s := 6) rfl rfl (by first | assumption | rfl) (by first | assumption | rfl) ?_
        refine w_Vi (k := 28) [] rfl rfl rfl (Nat.le_of_ble_eq_true rfl) (by first | assumption | rfl) (Or.inl ⟨rfl, rfl⟩) ?_
        refine (c_49 (lqT N _) (rwT N _) A2 l2 k2 st2 ?_)
        refine ⟨_, rfl, ?_⟩
        refine w_b_ne (k := 29) (t' := 52) rfl rfl (fun k3 => ?_) (fun k3 => ?_)
        · exact out (by rw [dx, k2, k3]; rfl)
        · rw [if_pos (by rw [k2, k3]; decide)] at dx
          refine wp_aload (k := 30) rfl rfl ?_
          refine w_gr (k := 31) (s := 6) rfl rfl (by first | assumption | rfl) (by first | assumption | rfl) ?_
          refine w_Vi (k := 32) [] rfl rfl rfl (Nat.le_of_ble_eq_true rfl) (by first | assumption | rfl) (Or.inl ⟨rfl, rfl⟩) ?_
          refine (c_42 (lqT N _) (rwT N _) A2 ?_)
          refine ⟨_, rfl, ?_⟩
          refine w_z_ne (k := 33) (t' := 40) rfl rfl (fun k4 => ?_) (fun k4 => ?_)
          · rw [if_neg k4] at dx
            refine wp_aload (k := 40) rfl rfl ?_
            refine w_gr (k := 41) (s := 6) rfl rfl (by first | assumption | rfl) (by first | assumption | rfl) ?_
            refine w_Vi (k := 42) [] rfl rfl rfl (Nat.le_of_ble_eq_true rfl) (by first | assumption | rfl) (Or.inl ⟨rfl, rfl⟩) ?_
            refine (c_42 (lqT N _) (rwT N _) A2 ?_)
            refine ⟨_, rfl, ?_⟩
            refine w_ic (k := 43) (x := nI 1) rfl (oi_nI 1) ?_
            refine w_c_ne (k := 44) (t' := 52) rfl rfl (fun k5 => ?_) (fun k5 => ?_)
            · exact out (by rw [dx, if_neg (fun q => k5 q.1)])
            · refine wp_aload (k := 45) rfl rfl ?_
              refine w_gr (k := 46) (s := 6) rfl rfl (by first | assumption | rfl) (by first | assumption | rfl) ?_
              refine w_Vi (k := 47) [] rfl rfl rfl (Nat.le_of_ble_eq_true rfl) (by first | assumption | rfl) (Or.inl ⟨rfl, rfl⟩) ?_
              refine (c_41 (lqT N _) (rwT N _) A2 ?_)
              refine ⟨_, rfl, ?_⟩
              refine w_ic (k := 48) (x := nI 6) rfl (oi_nI 6) ?_
              refine w_c_ne (k := 49) (t' := 52) rfl rfl (fun k6 => ?_) (fun k6 => ?_)
              · exact out (by rw [dx, if_neg (fun q => k6 q.2)])
              · rw [if_pos ⟨k5, k6⟩] at dx
                refine wp_aload (k := 50) rfl rfl ?_
                refine w_Vv (k := 51) [] rfl rfl rfl (Nat.le_of_ble_eq_true rfl) (by first | assumption | rfl) (Or.inl ⟨rfl, rfl⟩) ?_
                refine (c_105 b2 A2 l2 k2 p2 T2 rfl (fun I3 p3 t3 f3 => ⟨rfl, ?_⟩))
                exact hdx _ dx I3 L _ (cT_k A2 f3 (by decide) (by decide)) (tbc_k b2 (fun x _ _ => f3 x (by simp; omega)) (fun _ _ _ => rfl)) p3 t3 (sl_k s2 f3 (by decide)) (fun x hx => by rw [f3 x (by simp; omega), fi2 x hx]) (fun _ _ => rfl)
          · rw [if_pos k4] at dx
            refine wp_aload (k := 34) rfl rfl ?_
            refine wp_aload (k := 35) rfl rfl ?_
            refine w_gr (k := 36) (s := 6) rfl rfl (by first | assumption | rfl) (by first | assumption | rfl) ?_
            refine w_Vi (k := 37) [] rfl rfl rfl (Nat.le_of_ble_eq_true rfl) (by first | assumption | rfl) (Or.inl ⟨rfl, rfl⟩) ?_
            refine (c_41 (lqT N _) (rwT N _) A2 ?_)
            refine ⟨_, rfl, ?_⟩
            refine w_Vv (k := 38) [_] rfl rfl rfl (Nat.le_of_ble_eq_true rfl) (by first | assumption | rfl) (Or.inl ⟨rfl, rfl⟩) ?_
            refine (c_107 (F := F) (U := U) (n := n) (ip := ip) (port := port) b2 A2 l2 k2 p2 T2 st2 s2 hrl h3 h4 ht (by rw [fi2 18 (by omega)]; exact hn) ⟨by rw [fi2 21 (by omega)]; exact hF.1, fun i hi => by rw [fi2 22 (by omega), fi2 23 (by omega)]; exact hF.2 i hi⟩ hok huk ⟨by rw [fi2 18 (by omega)]; exact hu.1, hu.2⟩ (by rw [F2 91 (by decide)]; exact v11) (by rw [F2 91 (by decide)]; exact v12) rfl (fun I3 L3 w3 b3 p3 t3 s3 f3 g3 => ⟨rfl, ?_⟩))
            refine w_goto (k := 39) (t' := 52) rfl rfl ?_
            exact hdx _ dx I3 L3 w3 (rw_keep A2 (f3 5 (by omega)) (f3 6 (by omega))) b3 p3 t3 s3 (fun x hx => by rw [f3 x (by omega), fi2 x hx]) g3
    · have dx : dgr U rl fr n F al t A s T ip port = (cd_s al A s T ip port, al) := by unfold dgr; rw [if_pos k1]
      refine wp_aload (k := 19) rfl rfl ?_
      refine w_Vv (k := 20) [] rfl rfl rfl (Nat.le_of_ble_eq_true rfl) (by first | assumption | rfl) (Or.inl ⟨rfl, rfl⟩) ?_
      refine (c_104 b1 A1 p1 T1 k1 rfl (fun I3 p3 t3 f3 => ⟨rfl, ?_⟩))
      refine w_goto (k := 21) (t' := 52) rfl rfl ?_
      exact hdx _ dx I3 L _ (cT_k A1 f3 (by decide) (by decide)) (tbc_k b1 (fun x _ _ => f3 x (by simp; omega)) (fun _ _ _ => rfl)) p3 t3 (sl_k s1 f3 (by decide)) (fun x hx => by rw [f3 x (by simp; omega), fi1 x hx]) (fun _ _ => rfl)
  refine wp_aload (k := 9) rfl rfl ?_
  refine wp_aload (k := 10) rfl rfl ?_
  refine w_gr (k := 11) (s := 3) rfl rfl (by first | assumption | rfl) (by first | assumption | rfl) ?_
  refine wp_iload (k := 12) rfl rfl ?_
  refine wp_iload (k := 13) rfl rfl ?_
  refine w_Vq (k := 14) [_, _] rfl rfl rfl (Nat.le_of_ble_eq_true rfl) (by first | assumption | rfl) (Or.inl ⟨rfl, rfl⟩) ?_
  refine (c_27 b1 ?_)
  refine ⟨_, rfl, ?_⟩
  cases hk : clf al ip port with
  | none =>
    rw [hk] at main
    refine w_pn (k := 15) (s := 13) rfl rfl (by first | assumption | rfl) ?_
    rw [am_RR_own]
    exact main
  | some k =>
    rw [hk] at main
    rw [show pq (some k) = some (26 + 7 * k) from rfl] at main ⊢
    refine w_pr (k := 15) (s := 13) rfl rfl (by first | assumption | rfl) ?_
    rw [am_RR_own]
    exact main
theorem c_156 (h : tbc I L al) (hA : cT I A) (hp : po_c I s) (hT : tl_c I T) (hst : stc I) (hs : sl I) (hrl : wd rl) (h3 : L 18 3 = lN (vb 0 rl)) (h4 : L 18 4 = fr) (ht : L 24 1 = t) (hn : I 18 5 = n) (hF : fn_c I F) (hok : fn_ok F) (huk : us_ok U) (hu : us_c I L U) (hno : (port < nI 1 ∨ nI 65535 < port) → Q (some (.int (-1))) (am_SH N, I, L, am_RR w)) (hq : ¬ (port < nI 1 ∨ nI 65535 < port) → ∀ I' L' w', cT I' [] → tbc I' L' (dgr U rl fr n F al t A s T ip port).2 → po_c I' (dgr U rl fr n F al t A s T ip port).1.1 → lr_ I' 85 (dgr U rl fr n F al t A s T ip port).1.1.2.2.2.2 → tl_c I' (if (dgr U rl fr n F al t A s T ip port).1.1.1 then (dgr U rl fr n F al t A s T ip port).1.2 else inc (dgr U rl fr n F al t A s T ip port).1.2 5) → sl I' → (∀ x, x < 5 ∨ (6 < x ∧ x < 9) ∨ (16 < x ∧ x < 26) ∨ 98 < x → I' x = I x) → (∀ x, x < 26 ∨ 81 < x → L' x = L x) → Q (some (.int (if (dgr U rl fr n F al t A s T ip port).1.1.1 then nI 1 else nI 0))) (am_SH N, I', L', am_RR w')) : am_call (d + 8) 156 [.ref 4, .int ip, .int port] (am_SH N, I, L, am_RR w) Q := by
  refine am_enter (ls := [some _, some _, some _]) (cs := am_c156) rfl rfl (Nat.le_of_ble_eq_true rfl) rfl ?_
  refine wp_iload (k := 0) rfl rfl ?_
  refine w_ic (k := 1) (x := nI 1) rfl (oi_nI 1) ?_
  refine w_c_lt (k := 2) (t' := 6) rfl rfl (fun k1 => ?_) (fun k1 => ?_)
  · refine w_ic (k := 6) (x := (-1)) rfl (by decide) ?_
    refine w_ri (k := 7) rfl rfl rfl rfl ?_
    exact hno (Or.inl k1)
  · refine wp_iload (k := 3) rfl rfl ?_
    refine w_ic (k := 4) (x := nI 65535) rfl (oi_nI 65535) ?_
    refine w_c_le (k := 5) (t' := 8) rfl rfl (fun k2 => ?_) (fun k2 => ?_)
    · refine wp_aload (k := 8) rfl rfl ?_
      refine w_gr (k := 9) (s := 7) rfl rfl (by first | assumption | rfl) (by first | assumption | rfl) ?_
      refine wp_iload (k := 10) rfl rfl ?_
      refine wp_iload (k := 11) rfl rfl ?_
      refine w_Vi (k := 12) [_, _] rfl rfl rfl (Nat.le_of_ble_eq_true rfl) (by first | assumption | rfl) (Or.inl ⟨rfl, rfl⟩) ?_
      refine (c_98 h hA hp hT hst hs hrl h3 h4 ht hn hF hok huk hu (fun I' L' w' z1 z2 z3 z4 z5 z6 z7 z8 => ⟨_, rfl, ?_⟩))
      refine w_ri (k := 13) rfl rfl rfl rfl ?_
      exact hq (fun q => q.elim k1 (fun z => Int32.not_lt.mpr k2 z)) I' L' w' z1 z2 z3 z4 z5 z6 z7 z8
    · refine w_ic (k := 6) (x := (-1)) rfl (by decide) ?_
      refine w_ri (k := 7) rfl rfl rfl rfl ?_
      exact hno (Or.inr (Int32.not_le.mp k2))
end DG
