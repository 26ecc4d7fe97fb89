/-! ===== what was sent: the class ===== -/
abbrev SN : Type := Bool × Int32 × Int32 × Int32 × List Nat
/-- the post of the class: whether there is one, to whom, from where, its bytes -/
def po_c (I : Nat → Nat → Int32) (s : SN) : Prop := I 82 3 = bI s.1 ∧ I 82 4 = s.2.1 ∧ I 82 5 = s.2.2.1 ∧ I 82 6 = s.2.2.2.1 ∧ rw_B I 83 84 436 s.2.2.2.2
def tl_c (I : Nat → Nat → Int32) (T : Nat → Int32) : Prop := ∀ j, j < 6 → I 90 (4 + j) = T j
def inc (T : Nat → Int32) (j : Nat) : Nat → Int32 := fun i => if i = j then T i + nI 1 else T i
def sp_st (s : SN) (x : Int32) : Int32 := if x < 0 ∨ nI 6 < x then -1 else if s.1 = false then nI 0 else if x = nI 0 then nI s.2.2.2.2.length else if x = nI 1 then s.2.1 else if x = nI 2 then s.2.2.1 else if x = nI 3 then s.2.2.2.1 else if x = nI 4 then (if msg s.2.2.2.2 then mth (nb s.2.2.2.2 0 2) else -1) else if x = nI 5 then (if msg s.2.2.2.2 then rnk (nb s.2.2.2.2 0 2) else -1) else nI (if msg s.2.2.2.2 then (ats s.2.2.2.2).length else 0)
section PO
variable {d N : Nat} {I : Nat → Nat → Int32} {L : Nat → Nat → Int64} {w : Option Nat} {Q : am_Q} {S : List Nat} {s : SN} {T : Nat → Int32}
theorem rwS (N : Nat) (w : Option Nat) : rw_at (am_SH N) (am_RR w) 83 84 436 := ⟨rfl, rfl, rfl, by decide, by decide⟩
theorem pnS (N : Nat) (w : Option Nat) : pn_at (am_SH N) (am_RR w) 99 83 := ⟨rfl, rfl, rfl⟩
theorem lqS (N : Nat) (w : Option Nat) : lq (am_SH N) (am_RR w) 85 83 := ⟨rfl, rfl, rfl, rfl, rfl, rfl, rfl, rfl, rfl, rfl, by decide, by decide⟩
theorem lqT (N : Nat) (w : Option Nat) : lq (am_SH N) (am_RR w) 94 5 := ⟨rfl, rfl, rfl, rfl, rfl, rfl, rfl, rfl, rfl, rfl, by decide, by decide⟩
theorem c_75 (h : po_c I s) (hq : ∀ I', po_c I' (false, s.2.1, s.2.2.1, s.2.2.2.1, []) → fc [82, 83] I I' → Q none (am_SH N, I', L, am_RR w)) : am_call (d + 2) 75 [.ref 82] (am_SH N, I, L, am_RR w) Q := by
  obtain ⟨h1, h2, h3, h4, h5⟩ := h
  refine am_enter (ls := [some _]) (cs := am_c75) rfl rfl (Nat.le_of_ble_eq_true rfl) rfl ?_
  refine wp_aload (k := 0) rfl rfl ?_
  refine w_ic (k := 1) (x := bI false) rfl rfl ?_
  refine w_pz (k := 2) (s := 3) rfl rfl (by first | assumption | rfl) (bI_01 _) ?_
  refine wp_aload (k := 3) rfl rfl ?_
  refine w_gr (k := 4) (s := 0) rfl rfl (by first | assumption | rfl) (by first | assumption | rfl) ?_
  refine w_ic (k := 5) (x := nI 0) rfl (oi_nI 0) ?_
  refine w_Vv (k := 6) [_] rfl rfl rfl (Nat.le_of_ble_eq_true rfl) (by first | assumption | rfl) (Or.inl ⟨rfl, rfl⟩) ?_
  refine (c_86 (rwS N w) (rw_keep h5 (am_uR (by decide)) (am_uR (by decide))) (Nat.zero_le _) (fun I1 k1 f1 => ⟨rfl, ?_⟩))
  refine w_rv (k := 7) rfl rfl rfl rfl ?_
  rw [List.take_zero] at k1
  refine hq I1 ⟨?_, ?_, ?_, ?_, k1⟩ (fc_t (fc_p (by decide)) (fc_1 (a := 83) f1 (by decide)))
  · rw [f1 82 (by decide), am_us]
  · rw [f1 82 (by decide), am_uw (by decide) rfl]; exact h2
  · rw [f1 82 (by decide), am_uw (by decide) rfl]; exact h3
  · rw [f1 82 (by decide), am_uw (by decide) rfl]; exact h4
theorem c_78 {j : Nat} (hj : j < 6) (h : tl_c I T) (hq : ∀ I', tl_c I' (inc T j) → (∀ x, x ≠ 90 → I' x = I x) → Q none (am_SH N, I', L, am_RR w)) : am_call (d + 1) 78 [.ref 82, .int (nI (4 + j))] (am_SH N, I, L, am_RR w) Q := by
  refine am_enter (ls := [some _, some _]) (cs := am_c78) rfl rfl (Nat.le_of_ble_eq_true rfl) rfl ?_
  refine wp_iload (k := 0) rfl rfl ?_
  refine w_m_lt (k := 1) (t' := 15) rfl rfl (by omega) (fun zq => absurd zq (by omega)) (fun zq => ?_)
  refine wp_iload (k := 2) rfl rfl ?_
  refine wp_aload (k := 3) rfl rfl ?_
  refine w_gr (k := 4) (s := 2) rfl rfl (by first | assumption | rfl) (by first | assumption | rfl) ?_
  refine w_alen (k := 5) rfl (by first | assumption | rfl) (by decide) ?_
  refine w_n_ge (k := 6) (t' := 15) rfl rfl (by omega) (fun zq => absurd zq (by omega)) (fun zq => ?_)
  refine wp_aload (k := 7) rfl rfl ?_
  refine w_gr (k := 8) (s := 2) rfl rfl (by first | assumption | rfl) (by first | assumption | rfl) ?_
  refine wp_iload (k := 9) rfl rfl ?_
  refine wp_dup2 (k := 10) rfl rfl rfl ?_
  refine w_iald (k := 11) rfl rfl (by first | assumption | rfl) (by omega) (h j hj) ?_
  refine w_ic (k := 12) (x := nI 1) rfl (oi_nI 1) ?_
  refine wp_iadd (k := 13) rfl ?_
  refine w_iast (k := 14) rfl rfl (by omega) (by first | assumption | rfl) (by omega) ?_
  refine w_rv (k := 15) rfl rfl rfl rfl ?_
  refine hq _ (fun i hi => ?_) (fun x hx => am_uR hx)
  unfold inc
  rw [am_u_app]
  by_cases e : i = j
  · rw [if_pos ⟨rfl, by omega⟩, if_pos e, e]
  · rw [if_neg (by omega), if_neg e]
    exact h i hi
theorem c_76 (h : po_c I s) (ht : tl_c I T) {a b c : Int32} (hq : ∀ I', po_c I' (true, a, b, c, s.2.2.2.2) → tl_c I' (inc T 0) → fc [82, 90] I I' → Q none (am_SH N, I', L, am_RR w)) : am_call (d + 2) 76 [.ref 82, .int a, .int b, .int c] (am_SH N, I, L, am_RR w) Q := by
  obtain ⟨h1, h2, h3, h4, h5⟩ := h
  refine am_enter (ls := [some _, some _, some _, some _]) (cs := am_c76) rfl rfl (Nat.le_of_ble_eq_true rfl) rfl ?_
  refine wp_aload (k := 0) rfl rfl ?_
  refine w_ic (k := 1) (x := bI true) rfl rfl ?_
  refine w_pz (k := 2) (s := 3) rfl rfl (by first | assumption | rfl) (bI_01 _) ?_
  refine wp_aload (k := 3) rfl rfl ?_
  refine wp_iload (k := 4) rfl rfl ?_
  refine w_pi (k := 5) (s := 4) rfl rfl (by first | assumption | rfl) ?_
  refine wp_aload (k := 6) rfl rfl ?_
  refine wp_iload (k := 7) rfl rfl ?_
  refine w_pi (k := 8) (s := 5) rfl rfl (by first | assumption | rfl) ?_
  refine wp_aload (k := 9) rfl rfl ?_
  refine wp_iload (k := 10) rfl rfl ?_
  refine w_pi (k := 11) (s := 6) rfl rfl (by first | assumption | rfl) ?_
  refine wp_aload (k := 12) rfl rfl ?_
  refine w_ic (k := 13) (x := nI 4) rfl (oi_nI 4) ?_
  generalize hI1 : am_u (am_u (am_u (am_u I 82 3 (bI true)) 82 4 a) 82 5 b) 82 6 c = I1
  have f1 : ∀ x, x ≠ 82 → I1 x = I x := fun x hx => by rw [← hI1, am_uR hx, am_uR hx, am_uR hx, am_uR hx]
  have t1 : tl_c I1 T := fun j hj => by rw [f1 90 (by decide)]; exact ht j hj
  refine w_Vv (k := 14) [_] rfl rfl rfl (Nat.le_of_ble_eq_true rfl) (by first | assumption | rfl) (Or.inl ⟨rfl, rfl⟩) ?_
  refine (c_78 (j := 0) (by decide) t1 (fun I2 t2 f2 => ⟨rfl, ?_⟩))
  refine w_rv (k := 15) rfl rfl rfl rfl ?_
  refine hq I2 ⟨?_, ?_, ?_, ?_, rw_keep h5 ?_ ?_⟩ t2 (fc_t (fc_1 (a := 82) f1 (by decide)) (fc_1 (a := 90) f2 (by decide)))
  · rw [f2 82 (by decide), ← hI1]; simp [am_u_app]
  · rw [f2 82 (by decide), ← hI1]; simp [am_u_app]
  · rw [f2 82 (by decide), ← hI1]; simp [am_u_app]
  · rw [f2 82 (by decide), ← hI1]; simp [am_u_app]
  · rw [f2 83 (by decide), f1 83 (by decide)]
  · rw [f2 84 (by decide), f1 84 (by decide)]
theorem po_k {P : List Nat} {I I' : Nat → Nat → Int32} (h : po_c I s) (f : fc P I I') (h2 : 82 ∉ P) (h3 : 83 ∉ P) (h4 : 84 ∉ P) : po_c I' s := by
  obtain ⟨a1, a2, a3, a4, a5⟩ := h
  exact ⟨by rw [f 82 h2]; exact a1, by rw [f 82 h2]; exact a2, by rw [f 82 h2]; exact a3, by rw [f 82 h2]; exact a4, rw_keep a5 (f 83 h3) (f 84 h4)⟩
theorem c_77 (h : po_c I s) (ht : tl_c I T) (hq : ∀ I', po_c I' s → lr_ I' 85 s.2.2.2.2 → tl_c I' (if s.1 then T else inc T 5) → fc [85, 86, 87, 88, 89, 90] I I' → Q (some (.int (if s.1 then nI 1 else nI 0))) (am_SH N, I', L, am_RR w)) : am_call (d + 4) 77 [.ref 82] (am_SH N, I, L, am_RR w) Q := by
  refine am_enter (ls := [some _]) (cs := am_c77) rfl rfl (Nat.le_of_ble_eq_true rfl) rfl ?_
  refine wp_aload (k := 0) rfl rfl ?_
  refine w_gr (k := 1) (s := 1) rfl rfl (by first | assumption | rfl) (by first | assumption | rfl) ?_
  refine w_Vi (k := 2) [] rfl rfl rfl (Nat.le_of_ble_eq_true rfl) (by first | assumption | rfl) (Or.inl ⟨rfl, rfl⟩) ?_
  refine (c_35 (lqS N w) (rwS N w) h.2.2.2.2 (by decide) (by decide) (fun I1 l1 f1 => ⟨_, rfl, ?_⟩))
  refine wp_pop (k := 3) rfl rfl ?_
  have f1' : fc [85, 86, 87, 88, 89, 90] I I1 := fun x hx => f1 x (by simp only [List.mem_cons, List.not_mem_nil, or_false, not_or] at hx; omega)
  have p1 := po_k h f1' (by decide) (by decide) (by decide)
  have t1 : tl_c I1 T := fun j hj => by rw [f1 90 (by decide)]; exact ht j hj
  have v1 := p1.1
  cases hs : s.1 with
  | true =>
    rw [hs] at v1
    simp only [hs, if_true] at hq
    refine wp_aload (k := 4) rfl rfl ?_
    refine w_gi (k := 5) (s := 3) rfl rfl (by first | assumption | rfl) v1 ?_
    refine w_b_ne (k := 6) (t' := 10) rfl rfl (fun zq => ?_) (fun zq => absurd (zq.symm.trans rfl) (by decide))
    refine wp_aload (k := 10) rfl rfl ?_
    refine w_gi (k := 11) (s := 3) rfl rfl (by first | assumption | rfl) v1 ?_
    refine w_b_eq (k := 12) (t' := 15) rfl rfl (fun zq => absurd (zq.symm.trans rfl) (by decide)) (fun zq => ?_)
    refine w_ic (k := 13) (x := nI 1) rfl (oi_nI 1) ?_
    refine w_goto (k := 14) (t' := 16) rfl rfl ?_
    refine w_ri (k := 16) rfl rfl rfl rfl ?_
    exact hq I1 p1 l1 t1 f1'
  | false =>
    rw [hs] at v1
    simp only [hs, Bool.false_eq_true, if_false] at hq
    refine wp_aload (k := 4) rfl rfl ?_
    refine w_gi (k := 5) (s := 3) rfl rfl (by first | assumption | rfl) v1 ?_
    refine w_b_ne (k := 6) (t' := 10) rfl rfl (fun zq => absurd (zq.symm.trans rfl) (by decide)) (fun zq => ?_)
    refine wp_aload (k := 7) rfl rfl ?_
    refine w_ic (k := 8) (x := nI 9) rfl (oi_nI 9) ?_
    refine w_Vv (k := 9) [_] rfl rfl rfl (Nat.le_of_ble_eq_true rfl) (by first | assumption | rfl) (Or.inl ⟨rfl, rfl⟩) ?_
    refine (c_78 (j := 5) (by decide) t1 (fun I2 t2 f2 => ⟨rfl, ?_⟩))
    have f2' : fc [85, 86, 87, 88, 89, 90] I I2 := fc_t f1' (fc_1 (a := 90) f2 (by decide))
    have p2 := po_k h f2' (by decide) (by decide) (by decide)
    have v2 := p2.1
    rw [hs] at v2
    refine wp_aload (k := 10) rfl rfl ?_
    refine w_gi (k := 11) (s := 3) rfl rfl (by first | assumption | rfl) v2 ?_
    refine w_b_eq (k := 12) (t' := 15) rfl rfl (fun zq => ?_) (fun zq => absurd (zq.symm.trans rfl) (by decide))
    refine w_ic (k := 15) (x := nI 0) rfl (oi_nI 0) ?_
    refine w_ri (k := 16) rfl rfl rfl rfl ?_
    exact hq I2 p2 (lr_k l1 (fun j hj => f2 _ (by omega))) t2 f2'
theorem c_79 (ht : tl_c I T) {x : Int32} (hq : Q (some (.int (if x < nI 4 ∨ nI 9 < x then -1 else T (x.toNatClampNeg - 4)))) (am_SH N, I, L, am_RR w)) : am_call (d + 1) 79 [.ref 82, .int x] (am_SH N, I, L, am_RR w) Q := by
  refine am_enter (ls := [some _, some _]) (cs := am_c79) rfl rfl (Nat.le_of_ble_eq_true rfl) rfl ?_
  refine wp_iload (k := 0) rfl rfl ?_
  refine w_ic (k := 1) (x := nI 4) rfl (oi_nI 4) ?_
  refine w_c_lt (k := 2) (t' := 11) rfl rfl (fun c1 => ?_) (fun c1 => ?_)
  · rw [if_pos (Or.inl c1)] at hq
    refine w_ic (k := 11) (x := (-1)) rfl (by decide) ?_
    refine w_ri (k := 12) rfl rfl rfl rfl ?_
    exact hq
  · refine wp_iload (k := 3) rfl rfl ?_
    refine w_ic (k := 4) (x := nI 9) rfl (oi_nI 9) ?_
    refine w_c_gt (k := 5) (t' := 11) rfl rfl (fun c2 => ?_) (fun c2 => ?_)
    · rw [if_pos (Or.inr c2)] at hq
      refine w_ic (k := 11) (x := (-1)) rfl (by decide) ?_
      refine w_ri (k := 12) rfl rfl rfl rfl ?_
      exact hq
    · rw [if_neg (fun z => z.elim c1 c2)] at hq
      have c0 : ¬ x < 0 := fun z => c1 (Int32.lt_trans z (by decide))
      obtain ⟨j, hj, rfl⟩ := nI_of c0
      have h4 : 4 ≤ j := (nI_leI (by decide) (by omega)).mp (Int32.not_lt.mp c1)
      have h9 : j ≤ 9 := (nI_leI (by omega) (by decide)).mp (Int32.not_lt.mp c2)
      rw [nI_clamp (by omega)] at hq
      have hv := ht (j - 4) (by omega)
      rw [show 4 + (j - 4) = j by omega] at hv
      refine wp_aload (k := 6) rfl rfl ?_
      refine w_gr (k := 7) (s := 2) rfl rfl (by first | assumption | rfl) (by first | assumption | rfl) ?_
      refine wp_iload (k := 8) rfl rfl ?_
      refine w_iald (k := 9) rfl rfl (by first | assumption | rfl) (by omega) hv ?_
      refine w_goto (k := 10) (t' := 12) rfl rfl ?_
      refine w_ri (k := 12) rfl rfl rfl rfl ?_
      exact hq
theorem c_80 (h : po_c I s) (hl : lr_ I 85 s.2.2.2.2) {x : Int32} (hq : Q (some (.int (sp_st s x))) (am_SH N, I, L, am_RR w)) : am_call (d + 3) 80 [.ref 82, .int x] (am_SH N, I, L, am_RR w) Q := by
  obtain ⟨h1, h2, h3, h4, h5⟩ := id h
  obtain ⟨l1, l2, -, -⟩ := id hl
  unfold sp_st at hq
  have no : ∀ ls, (x < 0 ∨ nI 6 < x) → am_V 80 am_c80 (d + 2) (am_SH N) Q 5 ls [] (am_SH N, I, L, am_RR w) := by
    intro ls hy
    rw [if_pos hy] at hq
    refine w_ic (k := 5) (x := (-1)) rfl (by decide) ?_
    refine w_ri (k := 6) rfl rfl rfl rfl ?_
    exact hq
  refine am_enter (ls := [some _, some _]) (cs := am_c80) rfl rfl (Nat.le_of_ble_eq_true rfl) rfl ?_
  refine wp_iload (k := 0) rfl rfl ?_
  refine w_z_lt (k := 1) (t' := 5) rfl rfl (fun c1 => ?_) (fun c1 => ?_)
  · exact no _ (Or.inl c1)
  · refine wp_iload (k := 2) rfl rfl ?_
    refine w_ic (k := 3) (x := nI 6) rfl (oi_nI 6) ?_
    refine w_c_le (k := 4) (t' := 7) rfl rfl (fun c2 => ?_) (fun c2 => ?_)
    · rw [if_neg (fun z => z.elim c1 (Int32.not_lt.mpr c2))] at hq
      cases hs : s.1 with
      | false =>
        rw [hs] at h1
        rw [if_pos hs] at hq
        refine wp_aload (k := 7) rfl rfl ?_
        refine w_gi (k := 8) (s := 3) rfl rfl (by first | assumption | rfl) h1 ?_
        refine w_b_ne (k := 9) (t' := 12) rfl rfl (fun zq => absurd (zq.symm.trans rfl) (by decide)) (fun zq => ?_)
        refine w_ic (k := 10) (x := nI 0) rfl (oi_nI 0) ?_
        refine w_ri (k := 11) rfl rfl rfl rfl ?_
        exact hq
      | true =>
        rw [hs] at h1
        rw [if_neg (by rw [hs]; decide)] at hq
        refine wp_aload (k := 7) rfl rfl ?_
        refine w_gi (k := 8) (s := 3) rfl rfl (by first | assumption | rfl) h1 ?_
        refine w_b_ne (k := 9) (t' := 12) rfl rfl (fun zq => ?_) (fun zq => absurd (zq.symm.trans rfl) (by decide))
        refine wp_iload (k := 12) rfl rfl ?_
        by_cases k0 : x = nI 0
        · rw [if_pos k0] at hq
          subst k0
          refine w_sw (k := 13) (t' := 14) rfl (by decide) ?_
          refine wp_aload (k := 14) rfl rfl ?_
          refine w_gr (k := 15) (s := 0) rfl rfl (by first | assumption | rfl) (by first | assumption | rfl) ?_
          refine w_Vi (k := 16) [] rfl rfl rfl (Nat.le_of_ble_eq_true rfl) (by first | assumption | rfl) (Or.inl ⟨rfl, rfl⟩) ?_
          refine (c_82 (rwS N w) h5 ?_)
          refine ⟨_, rfl, ?_⟩
          refine w_ri (k := 17) rfl rfl rfl rfl ?_
          exact hq
        · rw [if_neg k0] at hq
          by_cases k1 : x = nI 1
          · rw [if_pos k1] at hq
            subst k1
            refine w_sw (k := 13) (t' := 18) rfl (by decide) ?_
            refine wp_aload (k := 18) rfl rfl ?_
            refine w_gi (k := 19) (s := 4) rfl rfl (by first | assumption | rfl) h2 ?_
            refine w_ri (k := 20) rfl rfl rfl rfl ?_
            exact hq
          · rw [if_neg k1] at hq
            by_cases k2 : x = nI 2
            · rw [if_pos k2] at hq
              subst k2
              refine w_sw (k := 13) (t' := 21) rfl (by decide) ?_
              refine wp_aload (k := 21) rfl rfl ?_
              refine w_gi (k := 22) (s := 5) rfl rfl (by first | assumption | rfl) h3 ?_
              refine w_ri (k := 23) rfl rfl rfl rfl ?_
              exact hq
            · rw [if_neg k2] at hq
              by_cases k3 : x = nI 3
              · rw [if_pos k3] at hq
                subst k3
                refine w_sw (k := 13) (t' := 24) rfl (by decide) ?_
                refine wp_aload (k := 24) rfl rfl ?_
                refine w_gi (k := 25) (s := 6) rfl rfl (by first | assumption | rfl) h4 ?_
                refine w_ri (k := 26) rfl rfl rfl rfl ?_
                exact hq
              · rw [if_neg k3] at hq
                by_cases k4 : x = nI 4
                · rw [if_pos k4] at hq
                  subst k4
                  refine w_sw (k := 13) (t' := 27) rfl (by decide) ?_
                  refine wp_aload (k := 27) rfl rfl ?_
                  refine w_gr (k := 28) (s := 1) rfl rfl (by first | assumption | rfl) (by first | assumption | rfl) ?_
                  refine w_Vi (k := 29) [] rfl rfl rfl (Nat.le_of_ble_eq_true rfl) (by first | assumption | rfl) (Or.inl ⟨rfl, rfl⟩) ?_
                  refine am_enter (ls := [some _]) (cs := am_c39) rfl rfl (Nat.le_of_ble_eq_true rfl) rfl ?_
                  refine wp_aload (k := 0) rfl rfl ?_
                  refine w_gi (k := 1) (s := 5) rfl rfl (by first | assumption | rfl) l1 ?_
                  refine w_rz (k := 2) rfl rfl rfl ?_
                  refine ⟨_, rfl, ?_⟩
                  refine w_b_eq (k := 30) (t' := 35) rfl rfl (fun c => ?_) (fun c => ?_)
                  · rw [if_neg (by rw [c]; decide)] at hq
                    refine w_ic (k := 35) (x := (-1)) rfl (by decide) ?_
                    refine w_ri (k := 36) rfl rfl rfl rfl ?_
                    exact hq
                  · rw [if_pos c] at hq
                    refine wp_aload (k := 31) rfl rfl ?_
                    refine w_gr (k := 32) (s := 1) rfl rfl (by first | assumption | rfl) (by first | assumption | rfl) ?_
                    refine w_Vi (k := 33) [] rfl rfl rfl (Nat.le_of_ble_eq_true rfl) (by first | assumption | rfl) (Or.inl ⟨rfl, rfl⟩) ?_
                    refine (c_41 (lqS N w) (rwS N w) h5 ?_)
                    refine ⟨_, rfl, ?_⟩
                    refine w_goto (k := 34) (t' := 36) rfl rfl ?_
                    refine w_ri (k := 36) rfl rfl rfl rfl ?_
                    exact hq
                · rw [if_neg k4] at hq
                  by_cases k5 : x = nI 5
                  · rw [if_pos k5] at hq
                    subst k5
                    refine w_sw (k := 13) (t' := 37) rfl (by decide) ?_
                    refine wp_aload (k := 37) rfl rfl ?_
                    refine w_gr (k := 38) (s := 1) rfl rfl (by first | assumption | rfl) (by first | assumption | rfl) ?_
                    refine w_Vi (k := 39) [] rfl rfl rfl (Nat.le_of_ble_eq_true rfl) (by first | assumption | rfl) (Or.inl ⟨rfl, rfl⟩) ?_
                    refine am_enter (ls := [some _]) (cs := am_c39) rfl rfl (Nat.le_of_ble_eq_true rfl) rfl ?_
                    refine wp_aload (k := 0) rfl rfl ?_
                    refine w_gi (k := 1) (s := 5) rfl rfl (by first | assumption | rfl) l1 ?_
                    refine w_rz (k := 2) rfl rfl rfl ?_
                    refine ⟨_, rfl, ?_⟩
                    refine w_b_eq (k := 40) (t' := 45) rfl rfl (fun c => ?_) (fun c => ?_)
                    · rw [if_neg (by rw [c]; decide)] at hq
                      refine w_ic (k := 45) (x := (-1)) rfl (by decide) ?_
                      refine w_ri (k := 46) rfl rfl rfl rfl ?_
                      exact hq
                    · rw [if_pos c] at hq
                      refine wp_aload (k := 41) rfl rfl ?_
                      refine w_gr (k := 42) (s := 1) rfl rfl (by first | assumption | rfl) (by first | assumption | rfl) ?_
                      refine w_Vi (k := 43) [] rfl rfl rfl (Nat.le_of_ble_eq_true rfl) (by first | assumption | rfl) (Or.inl ⟨rfl, rfl⟩) ?_
                      refine (c_42 (lqS N w) (rwS N w) h5 ?_)
                      refine ⟨_, rfl, ?_⟩
                      refine w_goto (k := 44) (t' := 46) rfl rfl ?_
                      refine w_ri (k := 46) rfl rfl rfl rfl ?_
                      exact hq
                  · rw [if_neg k5] at hq
                    have e : am_sw 47 x [(0, 14), (1, 18), (2, 21), (3, 24), (4, 27), (5, 37)] = 47 := am_sw_no (by
                      intro p hp
                      simp only [List.mem_cons, List.not_mem_nil, or_false] at hp
                      rcases hp with rfl | rfl | rfl | rfl | rfl | rfl
                      · exact k0
                      · exact k1
                      · exact k2
                      · exact k3
                      · exact k4
                      · exact k5)
                    refine w_sw (k := 13) (t' := 47) rfl (by show (am_sw 47 x [(0, 14), (1, 18), (2, 21), (3, 24), (4, 27), (5, 37)]).toNat = 47; rw [e]; rfl) ?_
                    refine wp_aload (k := 47) rfl rfl ?_
                    refine w_gr (k := 48) (s := 1) rfl rfl (by first | assumption | rfl) (by first | assumption | rfl) ?_
                    refine w_Vi (k := 49) [] rfl rfl rfl (Nat.le_of_ble_eq_true rfl) (by first | assumption | rfl) (Or.inl ⟨rfl, rfl⟩) ?_
                    refine am_enter (ls := [some _]) (cs := am_c40) rfl rfl (Nat.le_of_ble_eq_true rfl) rfl ?_
                    refine wp_aload (k := 0) rfl rfl ?_
                    refine w_gi (k := 1) (s := 6) rfl rfl (by first | assumption | rfl) l2 ?_
                    refine w_ri (k := 2) rfl rfl rfl rfl ?_
                    refine ⟨_, rfl, ?_⟩
                    refine w_ri (k := 50) rfl rfl rfl rfl ?_
                    exact hq
    · exact no _ (Or.inr (Int32.not_le.mp c2))
theorem c_158 (h : po_c I s) (hl : lr_ I 85 s.2.2.2.2) {x : Int32} (hq : Q (some (.int (sp_st s x))) (am_SH N, I, L, am_RR w)) : am_call (d + 4) 158 [.ref 4, .int x] (am_SH N, I, L, am_RR w) Q := by
  refine am_enter (ls := [some _, some _]) (cs := am_c158) rfl rfl (Nat.le_of_ble_eq_true rfl) rfl ?_
  refine wp_aload (k := 0) rfl rfl ?_
  refine w_gr (k := 1) (s := 6) rfl rfl (by first | assumption | rfl) (by first | assumption | rfl) ?_
  refine wp_iload (k := 2) rfl rfl ?_
  refine w_Vi (k := 3) [_] rfl rfl rfl (Nat.le_of_ble_eq_true rfl) (by first | assumption | rfl) (Or.inl ⟨rfl, rfl⟩) ?_
  refine (c_80 h hl ?_)
  refine ⟨_, rfl, ?_⟩
  refine w_ri (k := 4) rfl rfl rfl rfl ?_
  exact hq
theorem c_159 (h : po_c I s) {i : Int32} (hq : Q (some (.int (byA s.2.2.2.2 i))) (am_SH N, I, L, am_RR w)) : am_call (d + 2) 159 [.ref 4, .int i] (am_SH N, I, L, am_RR w) Q := by
  refine am_enter (ls := [some _, some _]) (cs := am_c159) rfl rfl (Nat.le_of_ble_eq_true rfl) rfl ?_
  refine wp_aload (k := 0) rfl rfl ?_
  refine w_gr (k := 1) (s := 6) rfl rfl (by first | assumption | rfl) (by first | assumption | rfl) ?_
  refine w_Va (k := 2) [] rfl rfl rfl (Nat.le_of_ble_eq_true rfl) (by first | assumption | rfl) (Or.inl ⟨rfl, rfl⟩) ?_
  refine am_enter (ls := [some _]) (cs := am_c73) rfl rfl (Nat.le_of_ble_eq_true rfl) rfl ?_
  refine wp_aload (k := 0) rfl rfl ?_
  refine w_gr (k := 1) (s := 0) rfl rfl (by first | assumption | rfl) (by first | assumption | rfl) ?_
  refine w_ra (k := 2) rfl rfl rfl rfl ?_
  refine ⟨_, rfl, ?_⟩
  refine wp_iload (k := 3) rfl rfl ?_
  refine w_Vi (k := 4) [_] rfl rfl rfl (Nat.le_of_ble_eq_true rfl) (by first | assumption | rfl) (Or.inl ⟨rfl, rfl⟩) ?_
  refine (c_84 (rwS N w) h.2.2.2.2 ?_)
  refine ⟨_, rfl, ?_⟩
  refine w_ri (k := 5) rfl rfl rfl rfl ?_
  exact hq
theorem c_160 (h : po_c I s) (hl : lr_ I 85 s.2.2.2.2) {i x : Int32} (hq : Q (some (.int (sp_at s.2.2.2.2 i x))) (am_SH N, I, L, am_RR w)) : am_call (d + 4) 160 [.ref 4, .int i, .int x] (am_SH N, I, L, am_RR w) Q := by
  refine am_enter (ls := [some _, some _, some _]) (cs := am_c160) rfl rfl (Nat.le_of_ble_eq_true rfl) rfl ?_
  refine wp_aload (k := 0) rfl rfl ?_
  refine w_gr (k := 1) (s := 6) rfl rfl (by first | assumption | rfl) (by first | assumption | rfl) ?_
  refine w_Va (k := 2) [] rfl rfl rfl (Nat.le_of_ble_eq_true rfl) (by first | assumption | rfl) (Or.inl ⟨rfl, rfl⟩) ?_
  refine am_enter (ls := [some _]) (cs := am_c74) rfl rfl (Nat.le_of_ble_eq_true rfl) rfl ?_
  refine wp_aload (k := 0) rfl rfl ?_
  refine w_gr (k := 1) (s := 1) rfl rfl (by first | assumption | rfl) (by first | assumption | rfl) ?_
  refine w_ra (k := 2) rfl rfl rfl rfl ?_
  refine ⟨_, rfl, ?_⟩
  refine wp_iload (k := 3) rfl rfl ?_
  refine wp_iload (k := 4) rfl rfl ?_
  refine w_Vi (k := 5) [_, _] rfl rfl rfl (Nat.le_of_ble_eq_true rfl) (by first | assumption | rfl) (Or.inl ⟨rfl, rfl⟩) ?_
  refine (c_54 (lqS N w) (rwS N w) h.2.2.2.2 hl ?_)
  refine ⟨_, rfl, ?_⟩
  refine w_ri (k := 6) rfl rfl rfl rfl ?_
  exact hq
def sp_ct (al : Nat → Option AL) (t : Int64) (u a : Nat) (T : Nat → Int32) (x : Int32) : Int32 := if x = nI 0 then (t &&& lN 2147483647).toInt32 else if x = nI 1 then nI u else if x = nI 2 then nI (cnt al 8) else if x = nI 3 then nI a else if x < nI 4 ∨ nI 9 < x then -1 else T (x.toNatClampNeg - 4)
theorem c_164 {al : Nat → Option AL} (h : tbc I L al) {t : Int64} (ht : L 24 1 = t) {u : Nat} (hu : I 18 2 = nI u) {A : List Nat} (hA : cT I A) (hT : tl_c I T) {x : Int32} (hq : Q (some (.int (sp_ct al t u A.length T x))) (am_SH N, I, L, am_RR w)) : am_call (d + 3) 164 [.ref 4, .int x] (am_SH N, I, L, am_RR w) Q := by
  unfold sp_ct at hq
  refine am_enter (ls := [some _, some _]) (cs := am_c164) rfl rfl (Nat.le_of_ble_eq_true rfl) rfl ?_
  refine wp_iload (k := 0) rfl rfl ?_
  by_cases k0 : x = nI 0
  · rw [if_pos k0] at hq
    subst k0
    refine w_sw (k := 1) (t' := 2) rfl (by decide) ?_
    refine wp_aload (k := 2) rfl rfl ?_
    refine w_gr (k := 3) (s := 5) rfl rfl (by first | assumption | rfl) (by first | assumption | rfl) ?_
    refine w_Vl (k := 4) [] rfl rfl rfl (Nat.le_of_ble_eq_true rfl) (by first | assumption | rfl) (Or.inl ⟨rfl, rfl⟩) ?_
    refine am_enter (ls := [some _]) (cs := am_c22) rfl rfl (Nat.le_of_ble_eq_true rfl) rfl ?_
    refine wp_aload (k := 0) rfl rfl ?_
    refine w_gl (k := 1) (s := 1) rfl rfl (by first | assumption | rfl) (by first | assumption | rfl) ?_
    refine w_rl (k := 2) rfl rfl rfl rfl ?_
    refine ⟨_, rfl, ?_⟩
    refine w_lc (k := 5) (x := lN 2147483647) rfl (ol_lN 2147483647) ?_
    refine wp_land (k := 6) rfl ?_
    refine wp_l2i (k := 7) rfl ?_
    refine w_ri (k := 8) rfl rfl rfl rfl ?_
    exact hq
  · rw [if_neg k0] at hq
    by_cases k1 : x = nI 1
    · rw [if_pos k1] at hq
      subst k1
      refine w_sw (k := 1) (t' := 9) rfl (by decide) ?_
      refine wp_aload (k := 9) rfl rfl ?_
      refine w_gr (k := 10) (s := 3) rfl rfl (by first | assumption | rfl) (by first | assumption | rfl) ?_
      refine w_Vi (k := 11) [] rfl rfl rfl (Nat.le_of_ble_eq_true rfl) (by first | assumption | rfl) (Or.inl ⟨rfl, rfl⟩) ?_
      refine am_enter (ls := [some _]) (cs := am_c127) rfl rfl (Nat.le_of_ble_eq_true rfl) rfl ?_
      refine wp_aload (k := 0) rfl rfl ?_
      refine w_gi (k := 1) (s := 2) rfl rfl (by first | assumption | rfl) (by first | assumption | rfl) ?_
      refine w_ri (k := 2) rfl rfl rfl rfl ?_
      refine ⟨_, rfl, ?_⟩
      refine w_ri (k := 12) rfl rfl rfl rfl ?_
      exact hq
    · rw [if_neg k1] at hq
      by_cases k2 : x = nI 2
      · rw [if_pos k2] at hq
        subst k2
        refine w_sw (k := 1) (t' := 13) rfl (by decide) ?_
        refine wp_aload (k := 13) rfl rfl ?_
        refine w_gr (k := 14) (s := 5) rfl rfl (by first | assumption | rfl) (by first | assumption | rfl) ?_
        refine w_Vi (k := 15) [] rfl rfl rfl (Nat.le_of_ble_eq_true rfl) (by first | assumption | rfl) (Or.inl ⟨rfl, rfl⟩) ?_
        refine (c_24 h ?_)
        refine ⟨_, rfl, ?_⟩
        refine w_ri (k := 16) rfl rfl rfl rfl ?_
        exact hq
      · rw [if_neg k2] at hq
        by_cases k3 : x = nI 3
        · rw [if_pos k3] at hq
          subst k3
          refine w_sw (k := 1) (t' := 17) rfl (by decide) ?_
          refine wp_aload (k := 17) rfl rfl ?_
          refine w_gr (k := 18) (s := 0) rfl rfl (by first | assumption | rfl) (by first | assumption | rfl) ?_
          refine w_Vi (k := 19) [] rfl rfl rfl (Nat.le_of_ble_eq_true rfl) (by first | assumption | rfl) (Or.inl ⟨rfl, rfl⟩) ?_
          refine (c_82 (rwT N w) hA ?_)
          refine ⟨_, rfl, ?_⟩
          refine w_ri (k := 20) rfl rfl rfl rfl ?_
          exact hq
        · rw [if_neg k3] at hq
          have e : am_sw 21 x [(0, 2), (1, 9), (2, 13), (3, 17)] = 21 := am_sw_no (by
            intro p hp
            simp only [List.mem_cons, List.not_mem_nil, or_false] at hp
            rcases hp with rfl | rfl | rfl | rfl
            · exact k0
            · exact k1
            · exact k2
            · exact k3)
          refine w_sw (k := 1) (t' := 21) rfl (by show (am_sw 21 x [(0, 2), (1, 9), (2, 13), (3, 17)]).toNat = 21; rw [e]; rfl) ?_
          refine wp_aload (k := 21) rfl rfl ?_
          refine w_gr (k := 22) (s := 6) rfl rfl (by first | assumption | rfl) (by first | assumption | rfl) ?_
          refine wp_iload (k := 23) rfl rfl ?_
          refine w_Vi (k := 24) [_] rfl rfl rfl (Nat.le_of_ble_eq_true rfl) (by first | assumption | rfl) (Or.inl ⟨rfl, rfl⟩) ?_
          refine (c_79 hT ?_)
          refine ⟨_, rfl, ?_⟩
          refine w_ri (k := 25) rfl rfl rfl rfl ?_
          exact hq
end PO
