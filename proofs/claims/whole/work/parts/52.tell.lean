/-! ===== what is told of allocations; tick ===== -/
theorem am_sw_no {d : Int} {x : Int32} : ∀ {l : List (Int × Int)}, (∀ p ∈ l, x ≠ Int32.ofInt p.1) → am_sw d x l = d
  | [], _ => rfl
  | (a, t) :: l, h => by
    rw [am_sw, if_neg (h (a, t) List.mem_cons_self)]
    exact am_sw_no (fun p hp => h p (List.mem_cons_of_mem _ hp))
def tel (a : AL) (now : Int64) (x : Int32) : Int32 := if x = nI 0 then a.1.1 else if x = nI 1 then a.1.2.1 else if x = nI 2 then a.1.2.2.1 else if x = nI 3 then a.1.2.2.2 else if x = nI 4 then (a.2.1 - now).toInt32 else if x = nI 5 then nI a.2.2.2.1.length else if x = nI 6 then nI a.2.2.2.2.length else -1
def sp_al (al : Nat → Option AL) (now : Int64) (k x : Int32) : Int32 := match atk al k with
  | none => -1
  | some j => match al j with
    | none => -1
    | some a => tel a now x
def sp_pm (al : Nat → Option AL) (now : Int64) (k ip : Int32) : Int32 := match atk al k with
  | none => nI 0
  | some j => match al j with
    | none => nI 0
    | some a => match pf a.2.2.2.1 ip with
      | none => nI 0
      | some i => ((a.2.2.2.1.getD i p0).2 - now).toInt32
def sp_ch (al : Nat → Option AL) (now : Int64) (k n : Int32) : Int32 := match atk al k with
  | none => nI 0
  | some j => match al j with
    | none => nI 0
    | some a => match cf a.2.2.2.2 n with
      | none => nI 0
      | some i => ((a.2.2.2.2.getD i c0).2.2.2 - now).toInt32
theorem atk_lt {al : Nat → Option AL} {k : Int32} {j : Nat} (h : atk al k = some j) : j < 8 ∧ k = nI j ∧ ∃ a, al j = some a := by
  unfold atk at h
  by_cases c : k < 0 ∨ nI 8 ≤ k
  · rw [if_pos c] at h; cases h
  · rw [if_neg c] at h
    obtain ⟨i, hi, rfl⟩ := nI_of (fun z => c (Or.inl z))
    have hi2 : i < 8 := by
      rcases Nat.lt_or_ge i 8 with q | q
      · exact q
      · exact absurd (Or.inr (nI_le q (by omega))) c
    rw [nI_clamp (by omega)] at h
    by_cases c2 : (al i).isSome = true
    · rw [if_pos c2] at h
      cases h
      exact ⟨hi2, rfl, Option.isSome_iff_exists.mp c2⟩
    · rw [if_neg c2] at h; cases h
section TL
variable {d N : Nat} {I : Nat → Nat → Int32} {L : Nat → Nat → Int64} {w : Option Nat} {Q : am_Q} {al : Nat → Option AL}
theorem c_20 {q : Nat} {a : AL} (hq0 : (am_SH N)[q]? = some (0, 16)) (h : ac I L q a) {x : Int32} {now : Int64} (hq : Q (some (.int (tel a now x))) (am_SH N, I, L, am_RR w)) : am_call (d + 2) 20 [.ref q, .int x, .long now] (am_SH N, I, L, am_RR w) Q := by
  obtain ⟨a1, a2, a3, a4, a5, a6, a7, a8, ⟨p1, -⟩, ⟨c1, -⟩⟩ := h
  unfold tel at hq
  refine am_enter (ls := [some _, some _, some _, none]) (cs := am_c20) rfl rfl (Nat.le_of_ble_eq_true rfl) rfl ?_
  refine wp_iload (k := 0) rfl rfl ?_
  by_cases k0 : x = nI 0
  · rw [if_pos k0] at hq
    subst k0
    refine w_sw (k := 1) (t' := 2) rfl (by decide) ?_
    refine wp_aload (k := 2) rfl rfl ?_
    refine w_gi (k := 3) (s := 1) rfl rfl (by first | assumption | rfl) a2 ?_
    refine w_ri (k := 4) rfl rfl rfl rfl ?_
    exact hq
  · rw [if_neg k0] at hq
    by_cases k1 : x = nI 1
    · rw [if_pos k1] at hq
      subst k1
      refine w_sw (k := 1) (t' := 5) rfl (by decide) ?_
      refine wp_aload (k := 5) rfl rfl ?_
      refine w_gi (k := 6) (s := 2) rfl rfl (by first | assumption | rfl) a3 ?_
      refine w_ri (k := 7) rfl rfl rfl rfl ?_
      exact hq
    · rw [if_neg k1] at hq
      by_cases k2 : x = nI 2
      · rw [if_pos k2] at hq
        subst k2
        refine w_sw (k := 1) (t' := 8) rfl (by decide) ?_
        refine wp_aload (k := 8) rfl rfl ?_
        refine w_gi (k := 9) (s := 3) rfl rfl (by first | assumption | rfl) a4 ?_
        refine w_ri (k := 10) rfl rfl rfl rfl ?_
        exact hq
      · rw [if_neg k2] at hq
        by_cases k3 : x = nI 3
        · rw [if_pos k3] at hq
          subst k3
          refine w_sw (k := 1) (t' := 11) rfl (by decide) ?_
          refine wp_aload (k := 11) rfl rfl ?_
          refine w_gi (k := 12) (s := 4) rfl rfl (by first | assumption | rfl) a5 ?_
          refine w_ri (k := 13) rfl rfl rfl rfl ?_
          exact hq
        · rw [if_neg k3] at hq
          by_cases k4 : x = nI 4
          · rw [if_pos k4] at hq
            subst k4
            refine w_sw (k := 1) (t' := 14) rfl (by decide) ?_
            refine wp_aload (k := 14) rfl rfl ?_
            refine wp_lload (k := 15) rfl rfl ?_
            refine w_Vi (k := 16) [_] rfl rfl rfl (Nat.le_of_ble_eq_true rfl) (by first | assumption | rfl) (Or.inl ⟨rfl, rfl⟩) ?_
            refine am_enter (ls := [some _, some _, none]) (cs := am_c5) rfl rfl (Nat.le_of_ble_eq_true rfl) rfl ?_
            refine wp_aload (k := 0) rfl rfl ?_
            refine w_gl (k := 1) (s := 5) rfl rfl (by first | assumption | rfl) a6 ?_
            refine wp_lload (k := 2) rfl rfl ?_
            refine wp_lsub (k := 3) rfl ?_
            refine wp_l2i (k := 4) rfl ?_
            refine w_ri (k := 5) rfl rfl rfl rfl ?_
            refine ⟨_, rfl, ?_⟩
            refine w_ri (k := 17) rfl rfl rfl rfl ?_
            exact hq
          · rw [if_neg k4] at hq
            by_cases k5 : x = nI 5
            · rw [if_pos k5] at hq
              subst k5
              refine w_sw (k := 1) (t' := 18) rfl (by decide) ?_
              refine wp_aload (k := 18) rfl rfl ?_
              refine w_gi (k := 19) (s := 10) rfl rfl (by first | assumption | rfl) p1 ?_
              refine w_ri (k := 20) rfl rfl rfl rfl ?_
              exact hq
            · rw [if_neg k5] at hq
              by_cases k6 : x = nI 6
              · rw [if_pos k6] at hq
                subst k6
                refine w_sw (k := 1) (t' := 21) rfl (by decide) ?_
                refine wp_aload (k := 21) rfl rfl ?_
                refine w_gi (k := 22) (s := 15) rfl rfl (by first | assumption | rfl) c1 ?_
                refine w_ri (k := 23) rfl rfl rfl rfl ?_
                exact hq
              · rw [if_neg k6] at hq
                have e : am_sw 24 x [(0, 2), (1, 5), (2, 8), (3, 11), (4, 14), (5, 18), (6, 21)] = 24 := am_sw_no (by
                  intro p hp
                  simp only [List.mem_cons, List.not_mem_nil, or_false] at hp
                  rcases hp with rfl | rfl | rfl | rfl | rfl | rfl | rfl
                  · exact k0
                  · exact k1
                  · exact k2
                  · exact k3
                  · exact k4
                  · exact k5
                  · exact k6)
                refine w_sw (k := 1) (t' := 24) rfl (by show (am_sw 24 x [(0, 2), (1, 5), (2, 8), (3, 11), (4, 14), (5, 18), (6, 21)]).toNat = 24; rw [e]; rfl) ?_
                refine w_ic (k := 24) (x := (-1)) rfl (by decide) ?_
                refine w_ri (k := 25) rfl rfl rfl rfl ?_
                exact hq
theorem c_161 (h : tbc I L al) {t : Int64} (ht : L 24 1 = t) {k x : Int32} (hq : Q (some (.int (sp_al al t k x))) (am_SH N, I, L, am_RR w)) : am_call (d + 3) 161 [.ref 4, .int k, .int x] (am_SH N, I, L, am_RR w) Q := by
  unfold sp_al at hq
  refine am_enter (ls := [some _, some _, some _, none]) (cs := am_c161) rfl rfl (Nat.le_of_ble_eq_true rfl) rfl ?_
  refine wp_aload (k := 0) rfl rfl ?_
  refine w_gr (k := 1) (s := 5) rfl rfl (by first | assumption | rfl) (by first | assumption | rfl) ?_
  refine wp_iload (k := 2) rfl rfl ?_
  refine w_Vq (k := 3) [_] rfl rfl rfl (Nat.le_of_ble_eq_true rfl) (by first | assumption | rfl) (Or.inl ⟨rfl, rfl⟩) ?_
  refine (c_26 h ?_)
  refine ⟨_, rfl, ?_⟩
  cases ha : atk al k with
  | none =>
    rw [ha] at hq
    refine wp_astoreN (k := 4) rfl rfl ?_
    refine wp_aloadN (k := 5) rfl rfl ?_
    refine wp_ifnonnullN (k := 6) rfl ?_
    refine w_ic (k := 7) (x := (-1)) rfl (by decide) ?_
    refine w_goto (k := 8) (t' := 15) rfl rfl ?_
    refine w_ri (k := 15) rfl rfl rfl rfl ?_
    exact hq
  | some j =>
    obtain ⟨hj, rfl, a, hja⟩ := atk_lt ha
    have q0 := (aq_of N w hj).1
    have ho := h j hj
    rw [hja] at ho
    rw [ha] at hq
    simp only [hja] at hq
    refine wp_astore (k := 4) rfl rfl ?_
    refine wp_aload (k := 5) rfl rfl ?_
    refine wp_ifnonnull (k := 6) rfl ?_
    refine wp_aload (k := 9) rfl rfl ?_
    refine wp_iload (k := 10) rfl rfl ?_
    refine wp_aload (k := 11) rfl rfl ?_
    refine w_gr (k := 12) (s := 5) rfl rfl (by first | assumption | rfl) (by first | assumption | rfl) ?_
    refine w_Vl (k := 13) [] rfl rfl rfl (Nat.le_of_ble_eq_true rfl) (by first | assumption | rfl) (Or.inl ⟨rfl, rfl⟩) ?_
    refine am_enter (ls := [some _]) (cs := am_c22) rfl rfl (Nat.le_of_ble_eq_true rfl) rfl ?_
    refine wp_aload (k := 0) rfl rfl ?_
    refine w_gl (k := 1) (s := 1) rfl rfl (by first | assumption | rfl) (by first | assumption | rfl) ?_
    refine w_rl (k := 2) rfl rfl rfl rfl ?_
    refine ⟨_, rfl, ?_⟩
    refine w_Vi (k := 14) [_, _] rfl rfl rfl (Nat.le_of_ble_eq_true rfl) (by first | assumption | rfl) (Or.inl ⟨rfl, rfl⟩) ?_
    refine (c_20 q0 ho ?_)
    refine ⟨_, rfl, ?_⟩
    refine w_ri (k := 15) rfl rfl rfl rfl ?_
    exact hq
theorem c_162 (h : tbc I L al) {t : Int64} (ht : L 24 1 = t) {k ip : Int32} (hq : Q (some (.int (sp_pm al t k ip))) (am_SH N, I, L, am_RR w)) : am_call (d + 3) 162 [.ref 4, .int k, .int ip] (am_SH N, I, L, am_RR w) Q := by
  unfold sp_pm at hq
  refine am_enter (ls := [some _, some _, some _, none]) (cs := am_c162) rfl rfl (Nat.le_of_ble_eq_true rfl) rfl ?_
  refine wp_aload (k := 0) rfl rfl ?_
  refine w_gr (k := 1) (s := 5) rfl rfl (by first | assumption | rfl) (by first | assumption | rfl) ?_
  refine wp_iload (k := 2) rfl rfl ?_
  refine w_Vq (k := 3) [_] rfl rfl rfl (Nat.le_of_ble_eq_true rfl) (by first | assumption | rfl) (Or.inl ⟨rfl, rfl⟩) ?_
  refine (c_26 h ?_)
  refine ⟨_, rfl, ?_⟩
  cases ha : atk al k with
  | none =>
    rw [ha] at hq
    refine wp_astoreN (k := 4) rfl rfl ?_
    refine wp_aloadN (k := 5) rfl rfl ?_
    refine wp_ifnonnullN (k := 6) rfl ?_
    refine w_ic (k := 7) (x := nI 0) rfl (oi_nI 0) ?_
    refine w_goto (k := 8) (t' := 15) rfl rfl ?_
    refine w_ri (k := 15) rfl rfl rfl rfl ?_
    exact hq
  | some j =>
    obtain ⟨hj, rfl, a, hja⟩ := atk_lt ha
    have qa := aq_of N w hj
    have q0 := qa.1
    have ho := h j hj
    rw [hja] at ho
    rw [ha] at hq
    simp only [hja] at hq
    refine wp_astore (k := 4) rfl rfl ?_
    refine wp_aload (k := 5) rfl rfl ?_
    refine wp_ifnonnull (k := 6) rfl ?_
    refine wp_aload (k := 9) rfl rfl ?_
    refine wp_iload (k := 10) rfl rfl ?_
    refine wp_aload (k := 11) rfl rfl ?_
    refine w_gr (k := 12) (s := 5) rfl rfl (by first | assumption | rfl) (by first | assumption | rfl) ?_
    refine w_Vl (k := 13) [] rfl rfl rfl (Nat.le_of_ble_eq_true rfl) (by first | assumption | rfl) (Or.inl ⟨rfl, rfl⟩) ?_
    refine am_enter (ls := [some _]) (cs := am_c22) rfl rfl (Nat.le_of_ble_eq_true rfl) rfl ?_
    refine wp_aload (k := 0) rfl rfl ?_
    refine w_gl (k := 1) (s := 1) rfl rfl (by first | assumption | rfl) (by first | assumption | rfl) ?_
    refine w_rl (k := 2) rfl rfl rfl rfl ?_
    refine ⟨_, rfl, ?_⟩
    refine w_Vi (k := 14) [_, _] rfl rfl rfl (Nat.le_of_ble_eq_true rfl) (by first | assumption | rfl) (Or.inl ⟨rfl, rfl⟩) ?_
    refine (c_11 qa ho.2.2.2.2.2.2.2.2.1 ?_)
    refine ⟨_, rfl, ?_⟩
    refine w_ri (k := 15) rfl rfl rfl rfl ?_
    exact hq
theorem c_163 (h : tbc I L al) {t : Int64} (ht : L 24 1 = t) {k n : Int32} (hq : Q (some (.int (sp_ch al t k n))) (am_SH N, I, L, am_RR w)) : am_call (d + 3) 163 [.ref 4, .int k, .int n] (am_SH N, I, L, am_RR w) Q := by
  unfold sp_ch at hq
  refine am_enter (ls := [some _, some _, some _, none]) (cs := am_c163) rfl rfl (Nat.le_of_ble_eq_true rfl) rfl ?_
  refine wp_aload (k := 0) rfl rfl ?_
  refine w_gr (k := 1) (s := 5) rfl rfl (by first | assumption | rfl) (by first | assumption | rfl) ?_
  refine wp_iload (k := 2) rfl rfl ?_
  refine w_Vq (k := 3) [_] rfl rfl rfl (Nat.le_of_ble_eq_true rfl) (by first | assumption | rfl) (Or.inl ⟨rfl, rfl⟩) ?_
  refine (c_26 h ?_)
  refine ⟨_, rfl, ?_⟩
  cases ha : atk al k with
  | none =>
    rw [ha] at hq
    refine wp_astoreN (k := 4) rfl rfl ?_
    refine wp_aloadN (k := 5) rfl rfl ?_
    refine wp_ifnonnullN (k := 6) rfl ?_
    refine w_ic (k := 7) (x := nI 0) rfl (oi_nI 0) ?_
    refine w_goto (k := 8) (t' := 15) rfl rfl ?_
    refine w_ri (k := 15) rfl rfl rfl rfl ?_
    exact hq
  | some j =>
    obtain ⟨hj, rfl, a, hja⟩ := atk_lt ha
    have qa := aq_of N w hj
    have q0 := qa.1
    have ho := h j hj
    rw [hja] at ho
    rw [ha] at hq
    simp only [hja] at hq
    refine wp_astore (k := 4) rfl rfl ?_
    refine wp_aload (k := 5) rfl rfl ?_
    refine wp_ifnonnull (k := 6) rfl ?_
    refine wp_aload (k := 9) rfl rfl ?_
    refine wp_iload (k := 10) rfl rfl ?_
    refine wp_aload (k := 11) rfl rfl ?_
    refine w_gr (k := 12) (s := 5) rfl rfl (by first | assumption | rfl) (by first | assumption | rfl) ?_
    refine w_Vl (k := 13) [] rfl rfl rfl (Nat.le_of_ble_eq_true rfl) (by first | assumption | rfl) (Or.inl ⟨rfl, rfl⟩) ?_
    refine am_enter (ls := [some _]) (cs := am_c22) rfl rfl (Nat.le_of_ble_eq_true rfl) rfl ?_
    refine wp_aload (k := 0) rfl rfl ?_
    refine w_gl (k := 1) (s := 1) rfl rfl (by first | assumption | rfl) (by first | assumption | rfl) ?_
    refine w_rl (k := 2) rfl rfl rfl rfl ?_
    refine ⟨_, rfl, ?_⟩
    refine w_Vi (k := 14) [_, _] rfl rfl rfl (Nat.le_of_ble_eq_true rfl) (by first | assumption | rfl) (Or.inl ⟨rfl, rfl⟩) ?_
    refine (c_16 qa ho.2.2.2.2.2.2.2.2.2 ?_)
    refine ⟨_, rfl, ?_⟩
    refine w_ri (k := 15) rfl rfl rfl rfl ?_
    exact hq
def oktk (n : Int32) : Bool := decide (¬ n < 0 ∧ ¬ nI 10000 < n)
def alt (al : Nat → Option AL) (t : Int64) (n : Int32) : Nat → Option AL := if oktk n then (fun k => drp (t + n.toInt64) (al k)) else al
def tit (t : Int64) (n : Int32) : Int64 := if oktk n then t + n.toInt64 else t
def rtk (al : Nat → Option AL) (t : Int64) (n : Int32) : Int32 := if oktk n then nI (cnt al 8) - nI (cnt (fun k => drp (t + n.toInt64) (al k)) 8) else -1
theorem c_155 (h : tbc I L al) {n : Int32} {t : Int64} (ht : L 24 1 = t) (hq : ∀ I' L', tbc I' L' (alt al t n) → L' 24 1 = tit t n → (∀ x, x < 26 ∨ 81 < x → I' x = I x) → (∀ x, x < 24 ∨ x = 25 ∨ 81 < x → L' x = L x) → Q (some (.int (rtk al t n))) (am_SH N, I', L', am_RR w)) : am_call (d + 3) 155 [.ref 4, .int n] (am_SH N, I, L, am_RR w) Q := by
  unfold alt tit rtk at hq
  have no : ∀ ls, oktk n = false → am_V 155 am_c155 (d + 2) (am_SH N) Q 5 ls [] (am_SH N, I, L, am_RR w) := by
    intro ls hf
    rw [hf] at hq
    refine w_ic (k := 5) (x := (-1)) rfl (by decide) ?_
    refine w_ri (k := 6) rfl rfl rfl rfl ?_
    exact hq I L h ht (fun _ _ => rfl) (fun _ _ => rfl)
  refine am_enter (ls := [some _, some _]) (cs := am_c155) rfl rfl (Nat.le_of_ble_eq_true rfl) rfl ?_
  refine wp_iload (k := 0) rfl rfl ?_
  refine w_z_lt (k := 1) (t' := 5) rfl rfl (fun k1 => ?_) (fun k1 => ?_)
  · exact no _ (decide_eq_false (fun z => z.1 k1))
  · refine wp_iload (k := 2) rfl rfl ?_
    refine w_ic (k := 3) (x := nI 10000) rfl (oi_nI 10000) ?_
    refine w_c_le (k := 4) (t' := 7) rfl rfl (fun k2 => ?_) (fun k2 => ?_)
    · have ko : oktk n = true := decide_eq_true ⟨k1, Int32.not_lt.mpr k2⟩
      rw [ko] at hq
      refine wp_aload (k := 7) rfl rfl ?_
      refine w_gr (k := 8) (s := 5) rfl rfl (by first | assumption | rfl) (by first | assumption | rfl) ?_
      refine wp_iload (k := 9) rfl rfl ?_
      refine w_Vi (k := 10) [_] rfl rfl rfl (Nat.le_of_ble_eq_true rfl) (by first | assumption | rfl) (Or.inl ⟨rfl, rfl⟩) ?_
      refine (c_23 h ht (fun I1 L1 a b c e => ⟨_, rfl, ?_⟩))
      refine w_ri (k := 11) rfl rfl rfl rfl ?_
      exact hq I1 L1 a b c e
    · exact no _ (decide_eq_false (fun z => z.2 (Int32.not_le.mp k2)))
/-! ===== the same of the reference ===== -/
theorem c_207 {k : Nat} (hk : k < 8) {C : CH} (h : ch_m I L k C) {now : Int64} (ht : L 100 34 = now) (hq : ∀ I' L', ch_m I' L' k (fch now C) → fs k I I' → fs k L L' → (∀ x, x ≠ 130 → x ≠ 131 → x ≠ 132 → x ≠ 133 → I' x = I x) → (∀ x, x ≠ 134 → L' x = L x) → Q none (am_SH N, I', L', am_RR w)) : am_call (d + 1) 207 [.ref 100, .int (nI k)] (am_SH N, I, L, am_RR w) Q := by
  obtain ⟨h1, h2, h3⟩ := h
  have loop : ∀ (r i : Nat) (K : CH) (I1 : Nat → Nat → Int32) (L1 : Nat → Nat → Int64) (o4 o5 : Option Value), i + r = C.length → K = (C.take i).filter (fun c => decide (now < c.2.2.2)) → (∀ j, j < K.length → hcm I1 L1 (8 * k + j) (K.getD j c0)) → (∀ j, i ≤ j → j < C.length → hcm I1 L1 (8 * k + j) (C.getD j c0)) → fs k I I1 → fs k L L1 → (∀ x, x ≠ 131 → x ≠ 132 → x ≠ 133 → I1 x = I x) → (∀ x, x ≠ 134 → L1 x = L x) → am_V 207 am_c207 d (am_SH N) Q 4 [some (.ref 100), some (.int (nI k)), some (.int (nI K.length)), some (.int (nI i)), o4, o5] [] (am_SH N, I1, L1, am_RR w) := by
    intro r
    induction r with
    | zero =>
      intro i K I1 L1 o4 o5 hi hK hk' hr f1 g1 x1 y1
      have hKC : K = fch now C := by rw [hK, List.take_of_length_le (by omega)]; rfl
      have hKl : K.length ≤ i := by rw [hK]; exact fil_len _
      have hz : I1 130 k = nI C.length := by rw [x1 130 (by decide) (by decide) (by decide)]; exact h1
      refine wp_iload (k := 4) rfl rfl ?_
      refine wp_aload (k := 5) rfl rfl ?_
      refine w_gr (k := 6) (s := 45) rfl rfl (by first | assumption | rfl) (by first | assumption | rfl) ?_
      refine wp_iload (k := 7) rfl rfl ?_
      refine w_iald (k := 8) rfl rfl (by first | assumption | rfl) (by omega) hz ?_
      refine w_n_ge (k := 9) (t' := 65) rfl rfl (by omega) (fun zq => ?_) (fun zq => absurd zq (by omega))
      refine wp_aload (k := 65) rfl rfl ?_
      refine w_gr (k := 66) (s := 45) rfl rfl (by first | assumption | rfl) (by first | assumption | rfl) ?_
      refine wp_iload (k := 67) rfl rfl ?_
      refine wp_iload (k := 68) rfl rfl ?_
      refine w_iast (k := 69) rfl rfl (by omega) (by first | assumption | rfl) (by omega) ?_
      refine w_rv (k := 70) rfl rfl rfl rfl ?_
      refine hq _ _ ?_ (fs_t f1 (fs_u (so_1 (by omega)))) g1 (fun x a b c e => by rw [am_uR a, x1 x b c e]) y1
      rw [← hKC]
      refine ⟨am_us, by omega, fun j hj => ?_⟩
      have := hk' j hj
      unfold hcm at this ⊢
      rw [am_uR (by decide), am_uR (by decide), am_uR (by decide)]
      exact this
    | succ r ih =>
      intro i K I1 L1 o4 o5 hi hK hk' hr f1 g1 x1 y1
      have hKl : K.length ≤ i := by rw [hK]; exact fil_len _
      have hz : I1 130 k = nI C.length := by rw [x1 130 (by decide) (by decide) (by decide)]; exact h1
      have ht1 : L1 100 34 = now := by rw [y1 100 (by decide)]; exact ht
      have hst := fil_step (fun c : Int32 × Int32 × Int32 × Int64 => decide (now < c.2.2.2)) c0 (P := C) (i := i) (by omega)
      rw [← hK] at hst
      obtain ⟨v1, v2, v3, v4⟩ := hr i (Nat.le_refl _) (by omega)
      refine wp_iload (k := 4) rfl rfl ?_
      refine wp_aload (k := 5) rfl rfl ?_
      refine w_gr (k := 6) (s := 45) rfl rfl (by first | assumption | rfl) (by first | assumption | rfl) ?_
      refine wp_iload (k := 7) rfl rfl ?_
      refine w_iald (k := 8) rfl rfl (by first | assumption | rfl) (by omega) hz ?_
      refine w_n_ge (k := 9) (t' := 65) rfl rfl (by omega) (fun zq => absurd zq (by omega)) (fun zq => ?_)
      refine w_ic (k := 10) (x := nI 8) rfl (oi_nI 8) ?_
      refine wp_iload (k := 11) rfl rfl ?_
      refine w_mulN (k := 12) rfl ?_
      refine wp_iload (k := 13) rfl rfl ?_
      refine w_addN (k := 14) rfl ?_
      refine wp_istore (k := 15) (ls2 := [some _, some _, some _, some _, some _, _]) rfl rfl ?_
      refine w_ic (k := 16) (x := nI 8) rfl (oi_nI 8) ?_
      refine wp_iload (k := 17) rfl rfl ?_
      refine w_mulN (k := 18) rfl ?_
      refine wp_iload (k := 19) rfl rfl ?_
      refine w_addN (k := 20) rfl ?_
      refine wp_istore (k := 21) (ls2 := [some _, some _, some _, some _, some _, some _]) rfl rfl ?_
      refine wp_aload (k := 22) rfl rfl ?_
      refine w_gr (k := 23) (s := 49) rfl rfl (by first | assumption | rfl) (by first | assumption | rfl) ?_
      refine wp_iload (k := 24) rfl rfl ?_
      refine w_lald (k := 25) rfl rfl (by first | assumption | rfl) (by omega) v4 ?_
      refine wp_aload (k := 26) rfl rfl ?_
      refine w_gl (k := 27) (s := 34) rfl rfl (by first | assumption | rfl) ht1 ?_
      refine w_L_le (k := 28) (t' := 63) rfl rfl rfl (fun c => ?_) (fun c => ?_)
      · rw [if_neg (by simpa using c), List.append_nil] at hst
        refine w_incN (k := 63) (m := 1) rfl (oi_nI 1) rfl ?_
        refine w_ls (ls2 := [some _, some _, some _, some _, some _, some _]) rfl ?_
        refine w_goto (k := 64) (t' := 4) rfl rfl ?_
        exact ih (i + 1) K I1 L1 _ _ (by omega) hst.symm hk' (fun j h1 h2 => hr j (by omega) h2) f1 g1 x1 y1
      · rw [if_pos (by simpa using c)] at hst
        refine wp_aload (k := 30) rfl rfl ?_
        refine w_gr (k := 31) (s := 46) rfl rfl (by first | assumption | rfl) (by first | assumption | rfl) ?_
        refine wp_iload (k := 32) rfl rfl ?_
        refine wp_aload (k := 33) rfl rfl ?_
        refine w_gr (k := 34) (s := 46) rfl rfl (by first | assumption | rfl) (by first | assumption | rfl) ?_
        refine wp_iload (k := 35) rfl rfl ?_
        refine w_iald (k := 36) rfl rfl (by first | assumption | rfl) (by omega) v1 ?_
        refine w_iast (k := 37) rfl rfl (by omega) (by first | assumption | rfl) (by omega) ?_
        refine wp_aload (k := 38) rfl rfl ?_
        refine w_gr (k := 39) (s := 47) rfl rfl (by first | assumption | rfl) (by first | assumption | rfl) ?_
        refine wp_iload (k := 40) rfl rfl ?_
        refine wp_aload (k := 41) rfl rfl ?_
        refine w_gr (k := 42) (s := 47) rfl rfl (by first | assumption | rfl) (by first | assumption | rfl) ?_
        refine wp_iload (k := 43) rfl rfl ?_
        refine w_iald (k := 44) rfl rfl (by first | assumption | rfl) (by omega) (am_uv (by decide) v2) ?_
        refine w_iast (k := 45) rfl rfl (by omega) (by first | assumption | rfl) (by omega) ?_
        refine wp_aload (k := 46) rfl rfl ?_
        refine w_gr (k := 47) (s := 48) rfl rfl (by first | assumption | rfl) (by first | assumption | rfl) ?_
        refine wp_iload (k := 48) rfl rfl ?_
        refine wp_aload (k := 49) rfl rfl ?_
        refine w_gr (k := 50) (s := 48) rfl rfl (by first | assumption | rfl) (by first | assumption | rfl) ?_
        refine wp_iload (k := 51) rfl rfl ?_
        refine w_iald (k := 52) rfl rfl (by first | assumption | rfl) (by omega) (am_uv (by decide) (am_uv (by decide) v3)) ?_
        refine w_iast (k := 53) rfl rfl (by omega) (by first | assumption | rfl) (by omega) ?_
        refine wp_aload (k := 54) rfl rfl ?_
        refine w_gr (k := 55) (s := 49) rfl rfl (by first | assumption | rfl) (by first | assumption | rfl) ?_
        refine wp_iload (k := 56) rfl rfl ?_
        refine wp_aload (k := 57) rfl rfl ?_
        refine w_gr (k := 58) (s := 49) rfl rfl (by first | assumption | rfl) (by first | assumption | rfl) ?_
        refine wp_iload (k := 59) rfl rfl ?_
        refine w_lald (k := 60) rfl rfl (by first | assumption | rfl) (by omega) v4 ?_
        refine w_last (k := 61) rfl rfl (by first | assumption | rfl) (by omega) ?_
        refine w_incN (k := 62) (m := 1) rfl (oi_nI 1) rfl ?_
        refine w_incN (k := 63) (m := 1) rfl (oi_nI 1) rfl ?_
        refine w_goto (k := 64) (t' := 4) rfl rfl ?_
        have cp := cp_step (o := 8 * k) (hold := hcm I1 L1) (hold' := hcm (am_u (am_u (am_u I1 131 (8 * k + K.length) (C.getD i c0).1) 132 (8 * k + K.length) (C.getD i c0).2.1) 133 (8 * k + K.length) (C.getD i c0).2.2.1) (am_u L1 134 (8 * k + K.length) (C.getD i c0).2.2.2)) hk' hr hKl (by unfold hcm; simp [am_u_app]) (fun m x hm hx => by unfold hcm at hx ⊢; simp [am_u_app, hm]; exact hx)
        have hl : (K ++ [C.getD i c0]).length = K.length + 1 := by simp
        rw [← hl]
        exact ih (i + 1) _ _ _ _ _ (by omega) hst.symm cp.1 cp.2 (fs_t f1 (fs_t (fs_t (fs_u (so_8 (by decide) (by omega))) (fs_u (so_8 (by decide) (by omega)))) (fs_u (so_8 (by decide) (by omega))))) (fs_t g1 (fs_u (so_8 (by decide) (by omega)))) (fun x a b c => by rw [am_uR c, am_uR b, am_uR a, x1 x a b c]) (fun x a => by rw [am_uR a, y1 x a])
  refine am_enter (ls := [some _, some _, none, none, none, none]) (cs := am_c207) rfl rfl (Nat.le_of_ble_eq_true rfl) rfl ?_
  refine w_ic (k := 0) (x := nI 0) rfl (oi_nI 0) ?_
  refine wp_istore (k := 1) rfl rfl ?_
  refine w_ic (k := 2) (x := nI 0) rfl (oi_nI 0) ?_
  refine wp_istore (k := 3) rfl rfl ?_
  exact loop _ 0 [] I L none none (Nat.zero_add _) (by simp) (fun j hj => absurd hj (Nat.not_lt_zero j)) (fun j _ hj => h3 j hj) fs_rf fs_rf (fun _ _ _ _ => rfl) (fun _ _ => rfl)
/-- how many allocations are over at now -/
def ovr (al : Nat → Option AL) (now : Int64) (n : Nat) : Nat := fb_ct (fun k => (al k).isSome && (drp now (al k)).isNone) n
theorem ovr_cnt (al : Nat → Option AL) (now : Int64) : ∀ n, cnt al n = cnt (fun k => drp now (al k)) n + ovr al now n
  | 0 => rfl
  | n + 1 => by
    have ih := ovr_cnt al now n
    have key : ∀ o : Option AL, (if o.isSome then 1 else 0) = (if (drp now o).isSome then 1 else 0) + (if (o.isSome && (drp now o).isNone) then 1 else 0) := by
      intro o
      cases o with
      | none => rfl
      | some a =>
        unfold drp
        by_cases c : now < a.2.1
        · simp [c]
        · simp [c]
    have k := key (al n)
    unfold cnt ovr at ih ⊢
    simp only [fb_ct_succ] at ih ⊢
    rw [ih]
    omega
/-- all tables' cells may have changed, no other -/
def fsa {α : Type} (f f' : Nat → Nat → α) : Prop := ∀ p, p < 120 ∨ 134 < p → f' p = f p
theorem fsa_of {α : Type} {k : Nat} {f f' : Nat → Nat → α} (h : fs k f f') : fsa f f' := fun _ hp => fs_p h hp
theorem fsa_t {α : Type} {f f1 f2 : Nat → Nat → α} (h1 : fsa f f1) (h2 : fsa f1 f2) : fsa f f2 := fun p hp => by rw [h2 p hp, h1 p hp]
theorem c_206 (h : tbm I L al) (hok : tok al) {now : Int64} (ht : L 100 34 = now) (hq : ∀ I' L', tbm I' L' (fun k => drp now (al k)) → fsa I I' → fsa L L' → Q (some (.int (nI (ovr al now 8)))) (am_SH N, I', L', am_RR w)) : am_call (d + 2) 206 [.ref 100] (am_SH N, I, L, am_RR w) Q := by
  have loop : ∀ (r i : Nat) (I1 : Nat → Nat → Int32) (L1 : Nat → Nat → Int64) (o3 o4 : Option Value), i + r = 8 → tbm I1 L1 (fun k => if k < i then drp now (al k) else al k) → fsa I I1 → fsa L L1 → am_V 206 am_c206 (d + 1) (am_SH N) Q 4 [some (.ref 100), some (.int (nI (ovr al now i))), some (.int (nI i)), o3, o4] [] (am_SH N, I1, L1, am_RR w) := by
    intro r
    induction r with
    | zero =>
      intro i I1 L1 o3 o4 hi h1 f1 g1
      obtain rfl : i = 8 := by omega
      have h2 : tbm I1 L1 (fun k => drp now (al k)) := fun k hk => by
        have := h1 k hk
        simp only [if_pos hk] at this
        exact this
      refine wp_iload (k := 4) rfl rfl ?_
      refine w_ic (k := 5) (x := nI 8) rfl (oi_nI 8) ?_
      refine w_n_ge (k := 6) (t' := 95) rfl rfl (by omega) (fun zq => ?_) (fun zq => absurd zq (by omega))
      refine wp_iload (k := 95) rfl rfl ?_
      refine w_ri (k := 96) rfl rfl rfl rfl ?_
      exact hq I1 L1 h2 f1 g1
    | succ r ih =>
      intro i I1 L1 o3 o4 hi h1 f1 g1
      have ho := h1 i (by omega)
      simp only [if_neg (Nat.lt_irrefl i)] at ho
      have th := om_th ho
      have ht1 : L1 100 34 = now := by rw [g1 100 (by decide)]; exact ht
      have hov := fb_ct_le (fun k => (al k).isSome && (drp now (al k)).isNone) i
      -- to the next, with slot i anew
      have nx : ∀ (I2 : Nat → Nat → Int32) (L2 : Nat → Nat → Int64) (o3 o4 : Option Value) (z : Nat), om I2 L2 i (drp now (al i)) → fs i I1 I2 → fs i L1 L2 → z = ovr al now (i + 1) → am_V 206 am_c206 (d + 1) (am_SH N) Q 93 [some (.ref 100), some (.int (nI z)), some (.int (nI i)), o3, o4] [] (am_SH N, I2, L2, am_RR w) := by
        intro I2 L2 o3 o4 z o2 f2 g2 hz
        have h2 := tbm_u h1 f2 g2 o2
        refine w_incN (k := 93) (m := 1) rfl (oi_nI 1) rfl ?_
        refine w_goto (k := 94) (t' := 4) rfl rfl ?_
        rw [hz]
        refine ih (i + 1) I2 L2 _ _ (by omega) (fun j hj' => ?_) (fsa_t f1 (fsa_of f2)) (fsa_t g1 (fsa_of g2))
        have := h2 j hj'
        by_cases c : j = i
        · subst c
          simp only [if_true] at this
          simp only [if_pos (Nat.lt_succ_self j)]
          exact this
        · simp only [if_neg c] at this
          by_cases c2 : j < i
          · simp only [if_pos c2] at this
            simp only [if_pos (Nat.lt_succ_of_lt c2)]
            exact this
          · simp only [if_neg c2] at this
            simp only [if_neg (show ¬ j < i + 1 by omega)]
            exact this
      cases hj : al i with
      | none =>
        rw [hj] at th
        rw [hj] at ho
        refine wp_iload (k := 4) rfl rfl ?_
        refine w_ic (k := 5) (x := nI 8) rfl (oi_nI 8) ?_
        refine w_n_ge (k := 6) (t' := 95) rfl rfl (by omega) (fun zq => absurd zq (by omega)) (fun zq => ?_)
        refine wp_aload (k := 7) rfl rfl ?_
        refine w_gr (k := 8) (s := 35) rfl rfl (by first | assumption | rfl) (by first | assumption | rfl) ?_
        refine wp_iload (k := 9) rfl rfl ?_
        refine w_cald (k := 10) rfl rfl (by first | assumption | rfl) (by omega) th ?_
        refine w_b_ne (k := 11) (t' := 13) rfl rfl (fun zq => absurd (zq.symm.trans rfl) (by decide)) (fun zq => ?_)
        refine w_goto (k := 12) (t' := 93) rfl rfl ?_
        refine nx I1 L1 _ _ _ ?_ fs_rf fs_rf ?_
        · rw [hj]; exact ho
        · unfold ovr; rw [fb_ct_succ, hj]; rfl
      | some a =>
        rw [hj] at th
        rw [hj] at ho
        obtain ⟨a1, a2, a3, a4, a5, a6, a7, a8, a9⟩ := ho
        refine wp_iload (k := 4) rfl rfl ?_
        refine w_ic (k := 5) (x := nI 8) rfl (oi_nI 8) ?_
        refine w_n_ge (k := 6) (t' := 95) rfl rfl (by omega) (fun zq => absurd zq (by omega)) (fun zq => ?_)
        refine wp_aload (k := 7) rfl rfl ?_
        refine w_gr (k := 8) (s := 35) rfl rfl (by first | assumption | rfl) (by first | assumption | rfl) ?_
        refine wp_iload (k := 9) rfl rfl ?_
        refine w_cald (k := 10) rfl rfl (by first | assumption | rfl) (by omega) th ?_
        refine w_b_ne (k := 11) (t' := 13) rfl rfl (fun zq => ?_) (fun zq => absurd (zq.symm.trans (show (some a).isSome = true from rfl)) (by decide))
        refine wp_aload (k := 13) rfl rfl ?_
        refine w_gr (k := 14) (s := 40) rfl rfl (by first | assumption | rfl) (by first | assumption | rfl) ?_
        refine wp_iload (k := 15) rfl rfl ?_
        refine w_lald (k := 16) rfl rfl (by first | assumption | rfl) (by omega) a6 ?_
        refine wp_aload (k := 17) rfl rfl ?_
        refine w_gl (k := 18) (s := 34) rfl rfl (by first | assumption | rfl) ht1 ?_
        refine w_L_gt (k := 19) (t' := 28) rfl rfl rfl (fun c => ?_) (fun c => ?_)
        · -- goes on
          obtain ⟨p1, p2, p3⟩ := a8
          have lp : ∀ (r j : Nat) (K : PM) (I2 : Nat → Nat → Int32) (L2 : Nat → Nat → Int64), j + r = a.2.2.2.1.length → K = (a.2.2.2.1.take j).filter (fun p => decide (now < p.2)) → (∀ z, z < K.length → hpm I2 L2 (16 * i + z) (K.getD z p0)) → (∀ z, j ≤ z → z < a.2.2.2.1.length → hpm I2 L2 (16 * i + z) (a.2.2.2.1.getD z p0)) → fs i I1 I2 → fs i L1 L2 → (∀ x, x ≠ 128 → I2 x = I1 x) → (∀ x, x ≠ 129 → L2 x = L1 x) → am_V 206 am_c206 (d + 1) (am_SH N) Q 32 [some (.ref 100), some (.int (nI (ovr al now i))), some (.int (nI i)), some (.int (nI K.length)), some (.int (nI j))] [] (am_SH N, I2, L2, am_RR w) := by
            intro r
            induction r with
            | zero =>
              intro j K I2 L2 hj' hK hk' hr f2 g2 x2 y2
              have hKC : K = fp_ now a.2.2.2.1 := by rw [hK, List.take_of_length_le (by omega)]; rfl
              have hKl : K.length ≤ j := by rw [hK]; exact fil_len _
              have hz : I2 127 i = nI a.2.2.2.1.length := by rw [x2 127 (by decide)]; exact p1
              have t3 : L2 100 34 = now := by rw [y2 100 (by decide)]; exact ht1
              have cm : ch_m (am_u I2 127 i (nI K.length)) L2 i a.2.2.2.2 := by
                obtain ⟨b1, b2, b3⟩ := a9
                refine ⟨by rw [am_uR (by decide), x2 130 (by decide)]; exact b1, b2, fun z hz => ?_⟩
                have := b3 z hz
                unfold hcm at this ⊢
                rw [am_uR (by decide), am_uR (by decide), am_uR (by decide), x2 131 (by decide), x2 132 (by decide), x2 133 (by decide), y2 134 (by decide)]
                exact this
              refine wp_iload (k := 32) rfl rfl ?_
              refine wp_aload (k := 33) rfl rfl ?_
              refine w_gr (k := 34) (s := 42) rfl rfl (by first | assumption | rfl) (by first | assumption | rfl) ?_
              refine wp_iload (k := 35) rfl rfl ?_
              refine w_iald (k := 36) rfl rfl (by first | assumption | rfl) (by omega) hz ?_
              refine w_n_ge (k := 37) (t' := 85) rfl rfl (by omega) (fun zq => ?_) (fun zq => absurd zq (by omega))
              refine wp_aload (k := 85) rfl rfl ?_
              refine w_gr (k := 86) (s := 42) rfl rfl (by first | assumption | rfl) (by first | assumption | rfl) ?_
              refine wp_iload (k := 87) rfl rfl ?_
              refine wp_iload (k := 88) rfl rfl ?_
              refine w_iast (k := 89) rfl rfl (by omega) (by first | assumption | rfl) (by omega) ?_
              refine wp_aload (k := 90) rfl rfl ?_
              refine wp_iload (k := 91) rfl rfl ?_
              refine w_Vv (k := 92) [_] rfl rfl rfl (Nat.le_of_ble_eq_true rfl) (by first | assumption | rfl) (Or.inl ⟨rfl, rfl⟩) ?_
              refine (c_207 (by omega) cm t3 (fun I3 L3 c3 f3 g3 x3 y3 => ⟨rfl, ?_⟩))
              have f3' : fs i I1 I3 := fs_t f2 (fs_t (fs_u (so_1 (by omega))) f3)
              refine nx I3 L3 _ _ _ ?_ f3' (fs_t g2 g3) ?_
              · rw [hj]
                unfold drp
                simp only
                rw [if_pos c]
                have z1 : ∀ p, p ≠ 127 → p ≠ 128 → p ≠ 130 → p ≠ 131 → p ≠ 132 → p ≠ 133 → I3 p = I1 p := fun p e1 e2 e3 e4 e5 e6 => by rw [x3 p e3 e4 e5 e6, am_uR e1, x2 p e2]
                refine ⟨?_, ?_, ?_, ?_, ?_, ?_, ?_, ?_, c3⟩
                · rw [z1 120 (by decide) (by decide) (by decide) (by decide) (by decide) (by decide)]; exact a1
                · rw [z1 121 (by decide) (by decide) (by decide) (by decide) (by decide) (by decide)]; exact a2
                · rw [z1 122 (by decide) (by decide) (by decide) (by decide) (by decide) (by decide)]; exact a3
                · rw [z1 123 (by decide) (by decide) (by decide) (by decide) (by decide) (by decide)]; exact a4
                · rw [z1 124 (by decide) (by decide) (by decide) (by decide) (by decide) (by decide)]; exact a5
                · rw [y3 125 (by decide), y2 125 (by decide)]; exact a6
                · rw [z1 126 (by decide) (by decide) (by decide) (by decide) (by decide) (by decide)]; exact a7
                · rw [← hKC]
                  refine ⟨by rw [x3 127 (by decide) (by decide) (by decide) (by decide), am_us], (show K.length ≤ 16 by omega), fun z hz => ?_⟩
                  have := hk' z hz
                  unfold hpm at this ⊢
                  rw [x3 128 (by decide) (by decide) (by decide) (by decide), am_uR (by decide), y3 129 (by decide)]
                  exact this
              · unfold ovr
                rw [fb_ct_succ, hj]
                simp [drp, c]
            | succ r ihp =>
              intro j K I2 L2 hj' hK hk' hr f2 g2 x2 y2
              have hKl : K.length ≤ j := by rw [hK]; exact fil_len _
              have hz : I2 127 i = nI a.2.2.2.1.length := by rw [x2 127 (by decide)]; exact p1
              have t3 : L2 100 34 = now := by rw [y2 100 (by decide)]; exact ht1
              have hst := fil_step (fun p : Int32 × Int64 => decide (now < p.2)) p0 (P := a.2.2.2.1) (i := j) (by omega)
              rw [← hK] at hst
              obtain ⟨v1, v2⟩ := hr j (Nat.le_refl _) (by omega)
              refine wp_iload (k := 32) rfl rfl ?_
              refine wp_aload (k := 33) rfl rfl ?_
              refine w_gr (k := 34) (s := 42) rfl rfl (by first | assumption | rfl) (by first | assumption | rfl) ?_
              refine wp_iload (k := 35) rfl rfl ?_
              refine w_iald (k := 36) rfl rfl (by first | assumption | rfl) (by omega) hz ?_
              refine w_n_ge (k := 37) (t' := 85) rfl rfl (by omega) (fun zq => absurd zq (by omega)) (fun zq => ?_)
              refine wp_aload (k := 38) rfl rfl ?_
              refine w_gr (k := 39) (s := 44) rfl rfl (by first | assumption | rfl) (by first | assumption | rfl) ?_
              refine w_ic (k := 40) (x := nI 16) rfl (oi_nI 16) ?_
              refine wp_iload (k := 41) rfl rfl ?_
              refine w_mulN (k := 42) rfl ?_
              refine wp_iload (k := 43) rfl rfl ?_
              refine w_addN (k := 44) rfl ?_
              refine w_lald (k := 45) rfl rfl (by first | assumption | rfl) (by omega) v2 ?_
              refine wp_aload (k := 46) rfl rfl ?_
              refine w_gl (k := 47) (s := 34) rfl rfl (by first | assumption | rfl) t3 ?_
              refine w_L_le (k := 48) (t' := 83) rfl rfl rfl (fun c5 => ?_) (fun c5 => ?_)
              · rw [if_neg (by simpa using c5), List.append_nil] at hst
                refine w_incN (k := 83) (m := 1) rfl (oi_nI 1) rfl ?_
                refine w_goto (k := 84) (t' := 32) rfl rfl ?_
                exact ihp (j + 1) K I2 L2 (by omega) hst.symm hk' (fun z h1 h2 => hr z (by omega) h2) f2 g2 x2 y2
              · rw [if_pos (by simpa using c5)] at hst
                refine wp_aload (k := 50) rfl rfl ?_
                refine w_gr (k := 51) (s := 43) rfl rfl (by first | assumption | rfl) (by first | assumption | rfl) ?_
                refine w_ic (k := 52) (x := nI 16) rfl (oi_nI 16) ?_
                refine wp_iload (k := 53) rfl rfl ?_
                refine w_mulN (k := 54) rfl ?_
                refine wp_iload (k := 55) rfl rfl ?_
                refine w_addN (k := 56) rfl ?_
                refine wp_aload (k := 57) rfl rfl ?_
                refine w_gr (k := 58) (s := 43) rfl rfl (by first | assumption | rfl) (by first | assumption | rfl) ?_
                refine w_ic (k := 59) (x := nI 16) rfl (oi_nI 16) ?_
                refine wp_iload (k := 60) rfl rfl ?_
                refine w_mulN (k := 61) rfl ?_
                refine wp_iload (k := 62) rfl rfl ?_
                refine w_addN (k := 63) rfl ?_
                refine w_iald (k := 64) rfl rfl (by first | assumption | rfl) (by omega) v1 ?_
                refine w_iast (k := 65) rfl rfl (by omega) (by first | assumption | rfl) (by omega) ?_
                refine wp_aload (k := 66) rfl rfl ?_
                refine w_gr (k := 67) (s := 44) rfl rfl (by first | assumption | rfl) (by first | assumption | rfl) ?_
                refine w_ic (k := 68) (x := nI 16) rfl (oi_nI 16) ?_
                refine wp_iload (k := 69) rfl rfl ?_
                refine w_mulN (k := 70) rfl ?_
                refine wp_iload (k := 71) rfl rfl ?_
                refine w_addN (k := 72) rfl ?_
                refine wp_aload (k := 73) rfl rfl ?_
                refine w_gr (k := 74) (s := 44) rfl rfl (by first | assumption | rfl) (by first | assumption | rfl) ?_
                refine w_ic (k := 75) (x := nI 16) rfl (oi_nI 16) ?_
                refine wp_iload (k := 76) rfl rfl ?_
                refine w_mulN (k := 77) rfl ?_
                refine wp_iload (k := 78) rfl rfl ?_
                refine w_addN (k := 79) rfl ?_
                refine w_lald (k := 80) rfl rfl (by first | assumption | rfl) (by omega) v2 ?_
                refine w_last (k := 81) rfl rfl (by first | assumption | rfl) (by omega) ?_
                refine w_incN (k := 82) (m := 1) rfl (oi_nI 1) rfl ?_
                refine w_incN (k := 83) (m := 1) rfl (oi_nI 1) rfl ?_
                refine w_goto (k := 84) (t' := 32) rfl rfl ?_
                have cp := cp_step (o := 16 * i) (hold := hpm I2 L2) (hold' := hpm (am_u I2 128 (16 * i + K.length) (a.2.2.2.1.getD j p0).1) (am_u L2 129 (16 * i + K.length) (a.2.2.2.1.getD j p0).2)) hk' hr hKl (by unfold hpm; simp [am_u_app]) (fun m x hm hx => by unfold hpm at hx ⊢; simp [am_u_app, hm]; exact hx)
                have hl : (K ++ [a.2.2.2.1.getD j p0]).length = K.length + 1 := by simp
                rw [← hl]
                exact ihp (j + 1) _ _ _ (by omega) hst.symm cp.1 cp.2 (fs_t f2 (fs_u (so_16 (by decide) (by omega)))) (fs_t g2 (fs_u (so_16 (by decide) (by omega)))) (fun x e => by rw [am_uR e, x2 x e]) (fun x e => by rw [am_uR e, y2 x e])
          refine w_ic (k := 28) (x := nI 0) rfl (oi_nI 0) ?_
          refine wp_istore (k := 29) (ls2 := [some _, some _, some _, some _, _]) rfl rfl ?_
          refine w_ic (k := 30) (x := nI 0) rfl (oi_nI 0) ?_
          refine wp_istore (k := 31) (ls2 := [some _, some _, some _, some _, some _]) rfl rfl ?_
          exact lp _ 0 [] I1 L1 (Nat.zero_add _) (by simp) (fun z hz => absurd hz (Nat.not_lt_zero z)) (fun z _ hz => p3 z hz) fs_rf fs_rf (fun _ _ => rfl) (fun _ _ => rfl)
        · -- is over
          refine wp_aload (k := 21) rfl rfl ?_
          refine w_gr (k := 22) (s := 35) rfl rfl (by first | assumption | rfl) (by first | assumption | rfl) ?_
          refine wp_iload (k := 23) rfl rfl ?_
          refine w_ic (k := 24) (x := bI false) rfl rfl ?_
          refine w_cast (k := 25) rfl rfl (by first | assumption | rfl) (by omega) (show vp_nar .boolean (bI false) = bI false from by decide) ?_
          refine w_incN (k := 26) (m := 1) rfl (oi_nI 1) rfl ?_
          refine w_goto (k := 27) (t' := 93) rfl rfl ?_
          refine nx _ L1 _ _ _ ?_ (fs_u (so_1 (by omega))) fs_rf ?_
          · rw [hj]
            unfold drp
            simp only
            rw [if_neg c]
            exact am_us
          · unfold ovr
            rw [fb_ct_succ, hj]
            simp [drp, c]
  refine am_enter (ls := [some _, none, none, none, none]) (cs := am_c206) rfl rfl (Nat.le_of_ble_eq_true rfl) rfl ?_
  refine w_ic (k := 0) (x := nI 0) rfl (oi_nI 0) ?_
  refine wp_istore (k := 1) rfl rfl ?_
  refine w_ic (k := 2) (x := nI 0) rfl (oi_nI 0) ?_
  refine wp_istore (k := 3) rfl rfl ?_
  exact loop 8 0 I L none none (by omega) (fun j hj => by simp only [if_neg (Nat.not_lt_zero j)]; exact h j hj) (fun _ _ => rfl) (fun _ _ => rfl)
end TL
