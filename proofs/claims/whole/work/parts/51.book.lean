/-! ===== the book of the class ===== -/
theorem rr25 (w : Option Nat) {k : Nat} (hk : k < 8) : am_RR w 25 k = some (26 + 7 * k) := by
  match k, hk with
  | 0, _ => rfl
  | 1, _ => rfl
  | 2, _ => rfl
  | 3, _ => rfl
  | 4, _ => rfl
  | 5, _ => rfl
  | 6, _ => rfl
  | 7, _ => rfl
  | k + 8, h => omega
theorem oc_th {I : Nat → Nat → Int32} {L : Nat → Nat → Int64} {q : Nat} {o : Option AL} (h : oc I L q o) : I q 0 = bI o.isSome := by
  cases o with
  | none => exact h
  | some a => exact h.1
theorem om_th {I : Nat → Nat → Int32} {L : Nat → Nat → Int64} {k : Nat} {o : Option AL} (h : om I L k o) : I 120 k = bI o.isSome := by
  cases o with
  | none => exact h
  | some a => exact h.1
/-- which allocation is there for a client, for a port; which is free -/
def isc (al : Nat → Option AL) (ip port : Int32) (k : Nat) : Bool := match al k with
  | some a => decide (a.1.1 = ip ∧ a.1.2.1 = port)
  | none => false
def isp (al : Nat → Option AL) (port : Int32) (k : Nat) : Bool := match al k with
  | some a => decide (a.1.2.2.2 = port)
  | none => false
def isu (al : Nat → Option AL) (u : Int32) (k : Nat) : Bool := match al k with
  | some a => decide (a.1.2.2.1 = u)
  | none => false
def clf (al : Nat → Option AL) (ip port : Int32) : Option Nat := ff (isc al ip port) 0 8
def ptf (al : Nat → Option AL) (port : Int32) : Option Nat := ff (isp al port) 0 8
def frf (al : Nat → Option AL) : Option Nat := ff (fun k => (al k).isNone) 0 8
def pq (o : Option Nat) : Option Nat := o.map (fun k => 26 + 7 * k)
def cnt (al : Nat → Option AL) (n : Nat) : Nat := fb_ct (fun k => (al k).isSome) n
def ctu (al : Nat → Option AL) (u : Int32) (n : Nat) : Nat := fb_ct (isu al u) n
def fpl (al : Nat → Option AL) : Nat → Nat → Nat
  | 0, p => p
  | r + 1, p => if (ptf al (nI p)).isSome then fpl al r (p + 1) else p
section BK
variable {d N : Nat} {I : Nat → Nat → Int32} {L : Nat → Nat → Int64} {w : Option Nat} {Q : am_Q} {al : Nat → Option AL}
theorem c_24 (h : tbc I L al) (hq : Q (some (.int (nI (cnt al 8)))) (am_SH N, I, L, am_RR w)) : am_call (d + 1) 24 [.ref 24] (am_SH N, I, L, am_RR w) Q := by
  have loop : ∀ (r i : Nat), i + r = 8 → am_V 24 am_c24 d (am_SH N) Q 4 [some (.ref 24), some (.int (nI (cnt al i))), some (.int (nI i))] [] (am_SH N, I, L, am_RR w) := by
    intro r
    induction r with
    | zero =>
      intro i hi
      obtain rfl : i = 8 := by omega
      refine wp_iload (k := 4) rfl rfl ?_
      refine w_ic (k := 5) (x := nI 8) rfl (oi_nI 8) ?_
      refine w_n_ge (k := 6) (t' := 16) rfl rfl (by omega) (fun zq => ?_) (fun zq => absurd zq (by omega))
      refine wp_iload (k := 16) rfl rfl ?_
      refine w_ri (k := 17) rfl rfl rfl rfl ?_
      exact hq
    | succ r ih =>
      intro i hi
      have q0 := (aq_of N w (show i < 8 by omega)).1
      have th := oc_th (h i (by omega))
      have hc := fb_ct_le (fun k => (al k).isSome) i
      refine wp_iload (k := 4) rfl rfl ?_
      refine w_ic (k := 5) (x := nI 8) rfl (oi_nI 8) ?_
      refine w_n_ge (k := 6) (t' := 16) rfl rfl (by omega) (fun zq => absurd zq (by omega)) (fun zq => ?_)
      refine wp_aload (k := 7) rfl rfl ?_
      refine w_gr (k := 8) (s := 0) rfl rfl (by first | assumption | rfl) (by first | assumption | rfl) ?_
      refine wp_iload (k := 9) rfl rfl ?_
      refine w_aald (k := 10) rfl rfl (by first | assumption | rfl) (by omega) (rr25 w (by omega)) ?_
      refine w_gi (k := 11) (s := 0) rfl rfl (by first | assumption | rfl) th ?_
      refine w_b_eq (k := 12) (t' := 14) rfl rfl (fun k => ?_) (fun k => ?_)
      · have e : cnt al (i + 1) = cnt al i := by unfold cnt; rw [fb_ct_succ, k]; rfl
        refine w_incN (k := 14) (m := 1) rfl (oi_nI 1) rfl ?_
        refine w_goto (k := 15) (t' := 4) rfl rfl ?_
        rw [← e]
        exact ih (i + 1) (by omega)
      · have e : cnt al (i + 1) = cnt al i + 1 := by unfold cnt; rw [fb_ct_succ, k]; rfl
        refine w_incN (k := 13) (m := 1) rfl (oi_nI 1) rfl ?_
        refine w_incN (k := 14) (m := 1) rfl (oi_nI 1) rfl ?_
        refine w_goto (k := 15) (t' := 4) rfl rfl ?_
        rw [← e]
        exact ih (i + 1) (by omega)
  refine am_enter (ls := [some _, none, none]) (cs := am_c24) rfl rfl (Nat.le_of_ble_eq_true rfl) rfl ?_
  refine w_ic (k := 0) (x := nI 0) rfl (oi_nI 0) ?_
  refine wp_istore (k := 1) rfl rfl ?_
  refine w_ic (k := 2) (x := nI 0) rfl (oi_nI 0) ?_
  refine wp_istore (k := 3) rfl rfl ?_
  exact loop 8 0 (by omega)
theorem c_25 (h : tbc I L al) {u : Int32} (hq : Q (some (.int (nI (ctu al u 8)))) (am_SH N, I, L, am_RR w)) : am_call (d + 1) 25 [.ref 24, .int u] (am_SH N, I, L, am_RR w) Q := by
  have loop : ∀ (r i : Nat), i + r = 8 → am_V 25 am_c25 d (am_SH N) Q 4 [some (.ref 24), some (.int u), some (.int (nI (ctu al u i))), some (.int (nI i))] [] (am_SH N, I, L, am_RR w) := by
    intro r
    induction r with
    | zero =>
      intro i hi
      obtain rfl : i = 8 := by omega
      refine wp_iload (k := 4) rfl rfl ?_
      refine w_ic (k := 5) (x := nI 8) rfl (oi_nI 8) ?_
      refine w_n_ge (k := 6) (t' := 23) rfl rfl (by omega) (fun zq => ?_) (fun zq => absurd zq (by omega))
      refine wp_iload (k := 23) rfl rfl ?_
      refine w_ri (k := 24) rfl rfl rfl rfl ?_
      exact hq
    | succ r ih =>
      intro i hi
      have q0 := (aq_of N w (show i < 8 by omega)).1
      have ho := h i (by omega)
      have th := oc_th ho
      have hc := fb_ct_le (isu al u) i
      have no : isu al u i = false → am_V 25 am_c25 d (am_SH N) Q 21 [some (.ref 24), some (.int u), some (.int (nI (ctu al u i))), some (.int (nI i))] [] (am_SH N, I, L, am_RR w) := by
        intro hf
        have e : ctu al u (i + 1) = ctu al u i := by unfold ctu; rw [fb_ct_succ, hf]; rfl
        refine w_incN (k := 21) (m := 1) rfl (oi_nI 1) rfl ?_
        refine w_goto (k := 22) (t' := 4) rfl rfl ?_
        rw [← e]
        exact ih (i + 1) (by omega)
      refine wp_iload (k := 4) rfl rfl ?_
      refine w_ic (k := 5) (x := nI 8) rfl (oi_nI 8) ?_
      refine w_n_ge (k := 6) (t' := 23) rfl rfl (by omega) (fun zq => absurd zq (by omega)) (fun zq => ?_)
      refine wp_aload (k := 7) rfl rfl ?_
      refine w_gr (k := 8) (s := 0) rfl rfl (by first | assumption | rfl) (by first | assumption | rfl) ?_
      refine wp_iload (k := 9) rfl rfl ?_
      refine w_aald (k := 10) rfl rfl (by first | assumption | rfl) (by omega) (rr25 w (by omega)) ?_
      refine w_gi (k := 11) (s := 0) rfl rfl (by first | assumption | rfl) th ?_
      refine w_b_eq (k := 12) (t' := 21) rfl rfl (fun k => ?_) (fun k => ?_)
      · exact no (by unfold isu; cases ha : al i with | none => rfl | some a => rw [ha] at k; cases k)
      · cases ha : al i with
        | none => rw [ha] at k; cases k
        | some a =>
          rw [ha] at ho
          obtain ⟨a1, a2, a3, a4, -⟩ := ho
          refine wp_aload (k := 13) rfl rfl ?_
          refine w_gr (k := 14) (s := 0) rfl rfl (by first | assumption | rfl) (by first | assumption | rfl) ?_
          refine wp_iload (k := 15) rfl rfl ?_
          refine w_aald (k := 16) rfl rfl (by first | assumption | rfl) (by omega) (rr25 w (by omega)) ?_
          refine w_gi (k := 17) (s := 3) rfl rfl (by first | assumption | rfl) a4 ?_
          refine wp_iload (k := 18) rfl rfl ?_
          refine w_c_ne (k := 19) (t' := 21) rfl rfl (fun k2 => ?_) (fun k2 => ?_)
          · exact no (by unfold isu; rw [ha]; exact decide_eq_false k2)
          · have e : ctu al u (i + 1) = ctu al u i + 1 := by
              unfold ctu
              rw [fb_ct_succ, show isu al u i = true by unfold isu; rw [ha]; exact decide_eq_true k2]
              rfl
            refine w_incN (k := 20) (m := 1) rfl (oi_nI 1) rfl ?_
            refine w_incN (k := 21) (m := 1) rfl (oi_nI 1) rfl ?_
            refine w_goto (k := 22) (t' := 4) rfl rfl ?_
            rw [← e]
            exact ih (i + 1) (by omega)
  refine am_enter (ls := [some _, some _, none, none]) (cs := am_c25) rfl rfl (Nat.le_of_ble_eq_true rfl) rfl ?_
  refine w_ic (k := 0) (x := nI 0) rfl (oi_nI 0) ?_
  refine wp_istore (k := 1) rfl rfl ?_
  refine w_ic (k := 2) (x := nI 0) rfl (oi_nI 0) ?_
  refine wp_istore (k := 3) rfl rfl ?_
  exact loop 8 0 (by omega)
/-- an allocation by its number -/
def atk (al : Nat → Option AL) (k : Int32) : Option Nat := if k < 0 ∨ nI 8 ≤ k then none else if (al k.toNatClampNeg).isSome then some k.toNatClampNeg else none
theorem c_26 (h : tbc I L al) {k : Int32} (hq : Q (some (va_rf (pq (atk al k)))) (am_SH N, I, L, am_RR w)) : am_call (d + 1) 26 [.ref 24, .int k] (am_SH N, I, L, am_RR w) Q := by
  have no : ∀ ls, atk al k = none → am_V 26 am_c26 d (am_SH N) Q 16 ls [] (am_SH N, I, L, am_RR w) := by
    intro ls hn
    rw [hn] at hq
    refine wp_null (k := 16) rfl ?_
    refine w_rn (k := 17) rfl rfl rfl rfl ?_
    exact hq
  refine am_enter (ls := [some _, some _]) (cs := am_c26) rfl rfl (Nat.le_of_ble_eq_true rfl) rfl ?_
  refine wp_iload (k := 0) rfl rfl ?_
  refine w_z_lt (k := 1) (t' := 16) rfl rfl (fun k1 => ?_) (fun k1 => ?_)
  · exact no _ (by unfold atk; rw [if_pos (Or.inl k1)])
  · refine wp_iload (k := 2) rfl rfl ?_
    refine w_ic (k := 3) (x := nI 8) rfl (oi_nI 8) ?_
    refine w_c_ge (k := 4) (t' := 16) rfl rfl (fun k2 => ?_) (fun k2 => ?_)
    · exact no _ (by unfold atk; rw [if_pos (Or.inr k2)])
    · obtain ⟨j, hj, rfl⟩ := nI_of k1
      have hj2 : j < 8 := by
        rcases Nat.lt_or_ge j 8 with q | q
        · exact q
        · exact absurd (nI_le q (by omega)) k2
      have e : atk al (nI j) = if (al j).isSome then some j else none := by
        unfold atk
        rw [if_neg (fun q => q.elim k1 k2), nI_clamp (by omega)]
      have q0 := (aq_of N w hj2).1
      have th := oc_th (h j hj2)
      refine wp_aload (k := 5) rfl rfl ?_
      refine w_gr (k := 6) (s := 0) rfl rfl (by first | assumption | rfl) (by first | assumption | rfl) ?_
      refine wp_iload (k := 7) rfl rfl ?_
      refine w_aald (k := 8) rfl rfl (by first | assumption | rfl) (by omega) (rr25 w (by omega)) ?_
      refine w_gi (k := 9) (s := 0) rfl rfl (by first | assumption | rfl) th ?_
      refine w_b_eq (k := 10) (t' := 16) rfl rfl (fun k3 => ?_) (fun k3 => ?_)
      · exact no _ (by rw [e, if_neg (by rw [k3]; decide)])
      · rw [e, if_pos k3] at hq
        refine wp_aload (k := 11) rfl rfl ?_
        refine w_gr (k := 12) (s := 0) rfl rfl (by first | assumption | rfl) (by first | assumption | rfl) ?_
        refine wp_iload (k := 13) rfl rfl ?_
        refine w_aald (k := 14) rfl rfl (by first | assumption | rfl) (by omega) (rr25 w (by omega)) ?_
        refine w_goto (k := 15) (t' := 17) rfl rfl ?_
        refine w_ra (k := 17) rfl rfl rfl rfl ?_
        exact hq
theorem c_27 (h : tbc I L al) {ip port : Int32} (hq : Q (some (va_rf (pq (clf al ip port)))) (am_SH N, I, L, am_RR w)) : am_call (d + 1) 27 [.ref 24, .int ip, .int port] (am_SH N, I, L, am_RR w) Q := by
  have loop : ∀ (r i : Nat) (o : Option Value), i + r = 8 → clf al ip port = ff (isc al ip port) i r → am_V 27 am_c27 d (am_SH N) Q 2 [some (.ref 24), some (.int ip), some (.int port), some (.int (nI i)), o] [] (am_SH N, I, L, am_RR w) := by
    intro r
    induction r with
    | zero =>
      intro i o hi e
      refine wp_iload (k := 2) rfl rfl ?_
      refine w_ic (k := 3) (x := nI 8) rfl (oi_nI 8) ?_
      refine w_n_ge (k := 4) (t' := 25) rfl rfl (by omega) (fun zq => ?_) (fun zq => absurd zq (by omega))
      refine wp_null (k := 25) rfl ?_
      refine w_rn (k := 26) rfl rfl rfl rfl ?_
      rw [e] at hq
      exact hq
    | succ r ih =>
      intro i o hi e
      have q0 := (aq_of N w (show i < 8 by omega)).1
      have ho := h i (by omega)
      have th := oc_th ho
      rw [ff] at e
      have no : isc al ip port i = false → am_V 27 am_c27 d (am_SH N) Q 23 [some (.ref 24), some (.int ip), some (.int port), some (.int (nI i)), some (.ref (26 + 7 * i))] [] (am_SH N, I, L, am_RR w) := by
        intro hf
        rw [if_neg (by rw [hf]; decide)] at e
        refine w_incN (k := 23) (m := 1) rfl (oi_nI 1) rfl ?_
        refine w_goto (k := 24) (t' := 2) rfl rfl ?_
        exact ih (i + 1) _ (by omega) e
      refine wp_iload (k := 2) rfl rfl ?_
      refine w_ic (k := 3) (x := nI 8) rfl (oi_nI 8) ?_
      refine w_n_ge (k := 4) (t' := 25) rfl rfl (by omega) (fun zq => absurd zq (by omega)) (fun zq => ?_)
      refine wp_aload (k := 5) rfl rfl ?_
      refine w_gr (k := 6) (s := 0) rfl rfl (by first | assumption | rfl) (by first | assumption | rfl) ?_
      refine wp_iload (k := 7) rfl rfl ?_
      refine w_aald (k := 8) rfl rfl (by first | assumption | rfl) (by omega) (rr25 w (by omega)) ?_
      refine wp_astore (k := 9) (ls2 := [some _, some _, some _, some _, some _]) rfl rfl ?_
      refine wp_aload (k := 10) rfl rfl ?_
      refine w_gi (k := 11) (s := 0) rfl rfl (by first | assumption | rfl) th ?_
      refine w_b_eq (k := 12) (t' := 23) rfl rfl (fun k => ?_) (fun k => ?_)
      · exact no (by unfold isc; cases ha : al i with | none => rfl | some a => rw [ha] at k; cases k)
      · cases ha : al i with
        | none => rw [ha] at k; cases k
        | some a =>
          rw [ha] at ho
          obtain ⟨a1, a2, a3, a4, -⟩ := ho
          refine wp_aload (k := 13) rfl rfl ?_
          refine w_gi (k := 14) (s := 1) rfl rfl (by first | assumption | rfl) a2 ?_
          refine wp_iload (k := 15) rfl rfl ?_
          refine w_c_ne (k := 16) (t' := 23) rfl rfl (fun k2 => ?_) (fun k2 => ?_)
          · exact no (by unfold isc; rw [ha]; exact decide_eq_false (fun z => k2 z.1))
          · refine wp_aload (k := 17) rfl rfl ?_
            refine w_gi (k := 18) (s := 2) rfl rfl (by first | assumption | rfl) a3 ?_
            refine wp_iload (k := 19) rfl rfl ?_
            refine w_c_ne (k := 20) (t' := 23) rfl rfl (fun k3 => ?_) (fun k3 => ?_)
            · exact no (by unfold isc; rw [ha]; exact decide_eq_false (fun z => k3 z.2))
            · rw [if_pos (by unfold isc; rw [ha]; exact decide_eq_true ⟨k2, k3⟩)] at e
              rw [e] at hq
              refine wp_aload (k := 21) rfl rfl ?_
              refine w_ra (k := 22) rfl rfl rfl rfl ?_
              exact hq
  refine am_enter (ls := [some _, some _, some _, none, none]) (cs := am_c27) rfl rfl (Nat.le_of_ble_eq_true rfl) rfl ?_
  refine w_ic (k := 0) (x := nI 0) rfl (oi_nI 0) ?_
  refine wp_istore (k := 1) rfl rfl ?_
  exact loop 8 0 none (by omega) rfl
theorem c_28 (h : tbc I L al) {port : Int32} (hq : Q (some (va_rf (pq (ptf al port)))) (am_SH N, I, L, am_RR w)) : am_call (d + 1) 28 [.ref 24, .int port] (am_SH N, I, L, am_RR w) Q := by
  have loop : ∀ (r i : Nat), i + r = 8 → ptf al port = ff (isp al port) i r → am_V 28 am_c28 d (am_SH N) Q 2 [some (.ref 24), some (.int port), some (.int (nI i))] [] (am_SH N, I, L, am_RR w) := by
    intro r
    induction r with
    | zero =>
      intro i hi e
      refine wp_iload (k := 2) rfl rfl ?_
      refine w_ic (k := 3) (x := nI 8) rfl (oi_nI 8) ?_
      refine w_n_ge (k := 4) (t' := 25) rfl rfl (by omega) (fun zq => ?_) (fun zq => absurd zq (by omega))
      refine wp_null (k := 25) rfl ?_
      refine w_rn (k := 26) rfl rfl rfl rfl ?_
      rw [e] at hq
      exact hq
    | succ r ih =>
      intro i hi e
      have q0 := (aq_of N w (show i < 8 by omega)).1
      have ho := h i (by omega)
      have th := oc_th ho
      rw [ff] at e
      have no : isp al port i = false → am_V 28 am_c28 d (am_SH N) Q 23 [some (.ref 24), some (.int port), some (.int (nI i))] [] (am_SH N, I, L, am_RR w) := by
        intro hf
        rw [if_neg (by rw [hf]; decide)] at e
        refine w_incN (k := 23) (m := 1) rfl (oi_nI 1) rfl ?_
        refine w_goto (k := 24) (t' := 2) rfl rfl ?_
        exact ih (i + 1) (by omega) e
      refine wp_iload (k := 2) rfl rfl ?_
      refine w_ic (k := 3) (x := nI 8) rfl (oi_nI 8) ?_
      refine w_n_ge (k := 4) (t' := 25) rfl rfl (by omega) (fun zq => absurd zq (by omega)) (fun zq => ?_)
      refine wp_aload (k := 5) rfl rfl ?_
      refine w_gr (k := 6) (s := 0) rfl rfl (by first | assumption | rfl) (by first | assumption | rfl) ?_
      refine wp_iload (k := 7) rfl rfl ?_
      refine w_aald (k := 8) rfl rfl (by first | assumption | rfl) (by omega) (rr25 w (by omega)) ?_
      refine w_gi (k := 9) (s := 0) rfl rfl (by first | assumption | rfl) th ?_
      refine w_b_eq (k := 10) (t' := 23) rfl rfl (fun k => ?_) (fun k => ?_)
      · exact no (by unfold isp; cases ha : al i with | none => rfl | some a => rw [ha] at k; cases k)
      · cases ha : al i with
        | none => rw [ha] at k; cases k
        | some a =>
          rw [ha] at ho
          obtain ⟨a1, a2, a3, a4, a5, -⟩ := ho
          refine wp_aload (k := 11) rfl rfl ?_
          refine w_gr (k := 12) (s := 0) rfl rfl (by first | assumption | rfl) (by first | assumption | rfl) ?_
          refine wp_iload (k := 13) rfl rfl ?_
          refine w_aald (k := 14) rfl rfl (by first | assumption | rfl) (by omega) (rr25 w (by omega)) ?_
          refine w_gi (k := 15) (s := 4) rfl rfl (by first | assumption | rfl) a5 ?_
          refine wp_iload (k := 16) rfl rfl ?_
          refine w_c_ne (k := 17) (t' := 23) rfl rfl (fun k2 => ?_) (fun k2 => ?_)
          · exact no (by unfold isp; rw [ha]; exact decide_eq_false k2)
          · rw [if_pos (by unfold isp; rw [ha]; exact decide_eq_true k2)] at e
            rw [e] at hq
            refine wp_aload (k := 18) rfl rfl ?_
            refine w_gr (k := 19) (s := 0) rfl rfl (by first | assumption | rfl) (by first | assumption | rfl) ?_
            refine wp_iload (k := 20) rfl rfl ?_
            refine w_aald (k := 21) rfl rfl (by first | assumption | rfl) (by omega) (rr25 w (by omega)) ?_
            refine w_ra (k := 22) rfl rfl rfl rfl ?_
            exact hq
  refine am_enter (ls := [some _, some _, none]) (cs := am_c28) rfl rfl (Nat.le_of_ble_eq_true rfl) rfl ?_
  refine w_ic (k := 0) (x := nI 0) rfl (oi_nI 0) ?_
  refine wp_istore (k := 1) rfl rfl ?_
  exact loop 8 0 (by omega) rfl
theorem c_29 (h : tbc I L al) (hq : Q (some (va_rf (pq (frf al)))) (am_SH N, I, L, am_RR w)) : am_call (d + 1) 29 [.ref 24] (am_SH N, I, L, am_RR w) Q := by
  have loop : ∀ (r i : Nat), i + r = 8 → frf al = ff (fun k => (al k).isNone) i r → am_V 29 am_c29 d (am_SH N) Q 2 [some (.ref 24), some (.int (nI i))] [] (am_SH N, I, L, am_RR w) := by
    intro r
    induction r with
    | zero =>
      intro i hi e
      refine wp_iload (k := 2) rfl rfl ?_
      refine w_ic (k := 3) (x := nI 8) rfl (oi_nI 8) ?_
      refine w_n_ge (k := 4) (t' := 18) rfl rfl (by omega) (fun zq => ?_) (fun zq => absurd zq (by omega))
      refine wp_null (k := 18) rfl ?_
      refine w_rn (k := 19) rfl rfl rfl rfl ?_
      rw [e] at hq
      exact hq
    | succ r ih =>
      intro i hi e
      have q0 := (aq_of N w (show i < 8 by omega)).1
      have th := oc_th (h i (by omega))
      rw [ff] at e
      refine wp_iload (k := 2) rfl rfl ?_
      refine w_ic (k := 3) (x := nI 8) rfl (oi_nI 8) ?_
      refine w_n_ge (k := 4) (t' := 18) rfl rfl (by omega) (fun zq => absurd zq (by omega)) (fun zq => ?_)
      refine wp_aload (k := 5) rfl rfl ?_
      refine w_gr (k := 6) (s := 0) rfl rfl (by first | assumption | rfl) (by first | assumption | rfl) ?_
      refine wp_iload (k := 7) rfl rfl ?_
      refine w_aald (k := 8) rfl rfl (by first | assumption | rfl) (by omega) (rr25 w (by omega)) ?_
      refine w_gi (k := 9) (s := 0) rfl rfl (by first | assumption | rfl) th ?_
      refine w_b_ne (k := 10) (t' := 16) rfl rfl (fun k => ?_) (fun k => ?_)
      · rw [if_neg (by cases ha : al i with | none => rw [ha] at k; cases k | some a => exact fun z => by cases z)] at e
        refine w_incN (k := 16) (m := 1) rfl (oi_nI 1) rfl ?_
        refine w_goto (k := 17) (t' := 2) rfl rfl ?_
        exact ih (i + 1) (by omega) e
      · rw [if_pos (by cases ha : al i with | none => rfl | some a => rw [ha] at k; cases k)] at e
        rw [e] at hq
        refine wp_aload (k := 11) rfl rfl ?_
        refine w_gr (k := 12) (s := 0) rfl rfl (by first | assumption | rfl) (by first | assumption | rfl) ?_
        refine wp_iload (k := 13) rfl rfl ?_
        refine w_aald (k := 14) rfl rfl (by first | assumption | rfl) (by omega) (rr25 w (by omega)) ?_
        refine w_ra (k := 15) rfl rfl rfl rfl ?_
        exact hq
  refine am_enter (ls := [some _, none]) (cs := am_c29) rfl rfl (Nat.le_of_ble_eq_true rfl) rfl ?_
  refine w_ic (k := 0) (x := nI 0) rfl (oi_nI 0) ?_
  refine wp_istore (k := 1) rfl rfl ?_
  exact loop 8 0 (by omega) rfl
theorem c_30 (h : tbc I L al) (hq : Q (some (.int (nI (fpl al 8 49152)))) (am_SH N, I, L, am_RR w)) : am_call (d + 2) 30 [.ref 24] (am_SH N, I, L, am_RR w) Q := by
  have loop : ∀ (r i p : Nat), i + r = 8 → p ≤ 49152 + i → fpl al 8 49152 = fpl al r p → am_V 30 am_c30 (d + 1) (am_SH N) Q 4 [some (.ref 24), some (.int (nI p)), some (.int (nI i))] [] (am_SH N, I, L, am_RR w) := by
    intro r
    induction r with
    | zero =>
      intro i p hi hp e
      refine wp_iload (k := 4) rfl rfl ?_
      refine w_ic (k := 5) (x := nI 8) rfl (oi_nI 8) ?_
      refine w_n_ge (k := 6) (t' := 14) rfl rfl (by omega) (fun zq => ?_) (fun zq => absurd zq (by omega))
      refine wp_iload (k := 14) rfl rfl ?_
      refine w_ri (k := 15) rfl rfl rfl rfl ?_
      rw [e] at hq
      exact hq
    | succ r ih =>
      intro i p hi hp e
      rw [show fpl al (r + 1) p = if (ptf al (nI p)).isSome then fpl al r (p + 1) else p from rfl] at e
      refine wp_iload (k := 4) rfl rfl ?_
      refine w_ic (k := 5) (x := nI 8) rfl (oi_nI 8) ?_
      refine w_n_ge (k := 6) (t' := 14) rfl rfl (by omega) (fun zq => absurd zq (by omega)) (fun zq => ?_)
      refine wp_aload (k := 7) rfl rfl ?_
      refine wp_iload (k := 8) rfl rfl ?_
      refine w_Vq (k := 9) [_] rfl rfl rfl (Nat.le_of_ble_eq_true rfl) (by first | assumption | rfl) (Or.inl ⟨rfl, rfl⟩) ?_
      refine (c_28 h ?_)
      refine ⟨_, rfl, ?_⟩
      cases hf : ptf al (nI p) with
      | none =>
        rw [hf, if_neg (by decide)] at e
        refine wp_ifnullN (k := 10) rfl ?_
        refine wp_iload (k := 14) rfl rfl ?_
        refine w_ri (k := 15) rfl rfl rfl rfl ?_
        rw [e] at hq
        exact hq
      | some j =>
        rw [hf, if_pos (show (some j).isSome = true from rfl)] at e
        refine wp_ifnull (k := 10) rfl ?_
        refine w_incN (k := 11) (m := 1) rfl (oi_nI 1) rfl ?_
        refine w_incN (k := 12) (m := 1) rfl (oi_nI 1) rfl ?_
        refine w_goto (k := 13) (t' := 4) rfl rfl ?_
        exact ih (i + 1) (p + 1) (by omega) (by omega) e
  refine am_enter (ls := [some _, none, none]) (cs := am_c30) rfl rfl (Nat.le_of_ble_eq_true rfl) rfl ?_
  refine w_ic (k := 0) (x := nI 49152) rfl (oi_nI 49152) ?_
  refine wp_istore (k := 1) rfl rfl ?_
  refine w_ic (k := 2) (x := nI 0) rfl (oi_nI 0) ?_
  refine wp_istore (k := 3) rfl rfl ?_
  exact loop 8 0 49152 (by omega) (by omega) rfl
/-- an allocation when time has come to now -/
def drp (now : Int64) (o : Option AL) : Option AL := match o with
  | none => none
  | some a => if now < a.2.1 then some (a.1, a.2.1, a.2.2.1, fp_ now a.2.2.2.1, fch now a.2.2.2.2) else none
theorem c_23 (h : tbc I L al) {n : Int32} {t : Int64} (ht : L 24 1 = t) (hq : ∀ I' L', tbc I' L' (fun k => drp (t + n.toInt64) (al k)) → L' 24 1 = t + n.toInt64 → (∀ x, x < 26 ∨ 81 < x → I' x = I x) → (∀ x, x < 24 ∨ x = 25 ∨ 81 < x → L' x = L x) → Q (some (.int (nI (cnt al 8) - nI (cnt (fun k => drp (t + n.toInt64) (al k)) 8)))) (am_SH N, I', L', am_RR w)) : am_call (d + 2) 23 [.ref 24, .int n] (am_SH N, I, L, am_RR w) Q := by
  refine am_enter (ls := [some _, some _, none, none]) (cs := am_c23) rfl rfl (Nat.le_of_ble_eq_true rfl) rfl ?_
  refine wp_aload (k := 0) rfl rfl ?_
  refine wp_dup (k := 1) rfl rfl ?_
  refine w_gl (k := 2) (s := 1) rfl rfl (by first | assumption | rfl) (by first | assumption | rfl) ?_
  refine wp_iload (k := 3) rfl rfl ?_
  refine wp_i2l (k := 4) rfl ?_
  refine wp_ladd (k := 5) rfl ?_
  refine w_pl (k := 6) (s := 1) rfl rfl (by first | assumption | rfl) ?_
  generalize hnow : t + n.toInt64 = now at *
  have h0 : tbc I (am_u L 24 1 now) al := tbc_k h (fun _ _ _ => rfl) (fun x h1 h2 => am_uR (by omega))
  have loop : ∀ (r i : Nat) (I1 : Nat → Nat → Int32) (L1 : Nat → Nat → Int64), i + r = 8 → tbc I1 L1 (fun k => if k < i then drp now (al k) else al k) → L1 24 1 = now → (∀ x, x < 26 ∨ 81 < x → I1 x = I x) → (∀ x, x < 24 ∨ x = 25 ∨ 81 < x → L1 x = L x) → am_V 23 am_c23 (d + 1) (am_SH N) Q 12 [some (.ref 24), some (.int n), some (.int (nI (cnt al 8))), some (.int (nI i))] [] (am_SH N, I1, L1, am_RR w) := by
    intro r
    induction r with
    | zero =>
      intro i I1 L1 hi h1 l1 f1 g1
      obtain rfl : i = 8 := by omega
      have h2 : tbc I1 L1 (fun k => drp now (al k)) := fun k hk => by
        have := h1 k hk
        simp only [if_pos hk] at this
        exact this
      refine wp_iload (k := 12) rfl rfl ?_
      refine w_ic (k := 13) (x := nI 8) rfl (oi_nI 8) ?_
      refine w_n_ge (k := 14) (t' := 30) rfl rfl (by omega) (fun zq => ?_) (fun zq => absurd zq (by omega))
      refine wp_iload (k := 30) rfl rfl ?_
      refine wp_aload (k := 31) rfl rfl ?_
      refine w_Vi (k := 32) [] rfl rfl rfl (Nat.le_of_ble_eq_true rfl) (by first | assumption | rfl) (Or.inl ⟨rfl, rfl⟩) ?_
      refine (c_24 h2 ?_)
      refine ⟨_, rfl, ?_⟩
      refine wp_isub (k := 33) rfl ?_
      refine w_ri (k := 34) rfl rfl rfl rfl ?_
      exact hq I1 L1 h2 l1 f1 g1
    | succ r ih =>
      intro i I1 L1 hi h1 l1 f1 g1
      have ha := aq_of N w (show i < 8 by omega)
      have q0 := ha.1
      have ho := h1 i (by omega)
      simp only [if_neg (Nat.lt_irrefl i)] at ho
      have th := oc_th ho
      refine wp_iload (k := 12) rfl rfl ?_
      refine w_ic (k := 13) (x := nI 8) rfl (oi_nI 8) ?_
      refine w_n_ge (k := 14) (t' := 30) rfl rfl (by omega) (fun zq => absurd zq (by omega)) (fun zq => ?_)
      refine wp_aload (k := 15) rfl rfl ?_
      refine w_gr (k := 16) (s := 0) rfl rfl (by first | assumption | rfl) (by first | assumption | rfl) ?_
      refine wp_iload (k := 17) rfl rfl ?_
      refine w_aald (k := 18) rfl rfl (by first | assumption | rfl) (by omega) (rr25 w (by omega)) ?_
      refine w_gi (k := 19) (s := 0) rfl rfl (by first | assumption | rfl) th ?_
      refine w_b_eq (k := 20) (t' := 28) rfl rfl (fun k => ?_) (fun k => ?_)
      · have e : ∀ j, (if j < i then drp now (al j) else al j) = (if j < i + 1 then drp now (al j) else al j) := by
          intro j
          by_cases c : j < i
          · rw [if_pos c, if_pos (by omega)]
          · by_cases c2 : j = i
            · subst c2
              rw [if_neg c, if_pos (by omega)]
              cases hj : al j with
              | none => rfl
              | some a => rw [hj] at k; cases k
            · rw [if_neg c, if_neg (by omega)]
        refine w_incN (k := 28) (m := 1) rfl (oi_nI 1) rfl ?_
        refine w_goto (k := 29) (t' := 12) rfl rfl ?_
        exact ih (i + 1) I1 L1 (by omega) (fun j hj => by have := h1 j hj; simp only [e j] at this; exact this) l1 f1 g1
      · cases hj : al i with
        | none => rw [hj] at k; cases k
        | some a =>
          rw [hj] at ho
          obtain ⟨a1, a2, a3, a4, a5, a6, a7, a8, a9, a10⟩ := ho
          refine wp_aload (k := 21) rfl rfl ?_
          refine w_gr (k := 22) (s := 0) rfl rfl (by first | assumption | rfl) (by first | assumption | rfl) ?_
          refine wp_iload (k := 23) rfl rfl ?_
          refine w_aald (k := 24) rfl rfl (by first | assumption | rfl) (by omega) (rr25 w (by omega)) ?_
          refine wp_aload (k := 25) rfl rfl ?_
          refine w_gl (k := 26) (s := 1) rfl rfl (by first | assumption | rfl) l1 ?_
          refine w_Vv (k := 27) [_] rfl rfl rfl (Nat.le_of_ble_eq_true rfl) (by first | assumption | rfl) (Or.inl ⟨rfl, rfl⟩) ?_
          refine (c_6 ha a9 a10 a6 (fun I2 L2 t2 p2 c2 f2 g2 s2 l2 => ⟨rfl, ?_⟩))
          refine w_incN (k := 28) (m := 1) rfl (oi_nI 1) rfl ?_
          refine w_goto (k := 29) (t' := 12) rfl rfl ?_
          have o2 : oc I2 L2 (26 + 7 * i) (drp now (al i)) := by
            rw [hj]
            unfold drp
            simp only
            by_cases c : now < a.2.1
            · rw [if_pos c]
              rw [decide_eq_true c] at t2
              refine ⟨t2, ?_, ?_, ?_, ?_, ?_, ?_, ?_, p2, c2⟩
              · rw [s2 1 (by decide) (by decide) (by decide)]; exact a2
              · rw [s2 2 (by decide) (by decide) (by decide)]; exact a3
              · rw [s2 3 (by decide) (by decide) (by decide)]; exact a4
              · rw [s2 4 (by decide) (by decide) (by decide)]; exact a5
              · rw [l2]; exact a6
              · rw [l2]; exact a7
              · rw [s2 7 (by decide) (by decide) (by decide)]; exact a8
            · rw [if_neg c]
              rw [decide_eq_false c] at t2
              exact t2
          have h2 := tbc_u h1 f2 g2 o2
          refine ih (i + 1) I2 L2 (by omega) (fun j hj' => ?_) (by rw [g2 24 (by omega)]; exact l1) (fun x hx => by rw [f2 x (by omega), f1 x hx]) (fun x hx => by rw [g2 x (by omega), g1 x hx])
          have := h2 j hj'
          by_cases c : j = i
          · subst c
            simp only [if_true] at this
            simp only [if_pos (Nat.lt_succ_self j)]
            exact this
          · simp only [if_neg c] at this
            by_cases c2 : j < i
            · simp only [if_pos c2] at this
              simp only [if_pos (Nat.lt_succ_of_lt c2)]
              exact this
            · simp only [if_neg c2] at this
              simp only [if_neg (show ¬ j < i + 1 by omega)]
              exact this
  refine wp_aload (k := 7) rfl rfl ?_
  refine w_Vi (k := 8) [] rfl rfl rfl (Nat.le_of_ble_eq_true rfl) (by first | assumption | rfl) (Or.inl ⟨rfl, rfl⟩) ?_
  refine (c_24 h0 ?_)
  refine ⟨_, rfl, ?_⟩
  refine wp_istore (k := 9) rfl rfl ?_
  refine w_ic (k := 10) (x := nI 0) rfl (oi_nI 0) ?_
  refine wp_istore (k := 11) rfl rfl ?_
  exact loop 8 0 I _ (by omega) (fun j hj => by simp only [if_neg (Nat.not_lt_zero j)]; exact h0 j hj) am_us (fun _ _ => rfl) (fun x hx => am_uR (by omega))
end BK
