/-! ===== who may ask: the class ===== -/
/-- the bytes of the value of attribute i -/
def vl (B : List Nat) (i : Nat) : List Nat := (B.drop ((ats B).getD i a0).2.2).take ((ats B).getD i a0).2.1
/-- KEY of user k -/
def kyu (U : UR) (rl : List Nat) (k : Nat) : List Nat := ky (U.getD k ud).1 rl (nz 8 (uN (U.getD k ud).2))
def acs (U : UR) (rl : List Nat) (fr : Int64) (B : List Nat) (m : Int32) : Nat × Option Nat :=
  if m = nI 3 ∨ m = nI 4 ∨ m = nI 8 ∨ m = nI 9 then (match fnd B 28 with
    | none => (401, none)
    | some i => match fnd B 6 with
      | none => (400, none)
      | some u => match fnd B 20 with
        | none => (400, none)
        | some r => match fnd B 21 with
          | none => (400, none)
          | some n => if lN (vlo B n) = fr then (match uf U (vl B u) with
              | none => (401, none)
              | some k => if vl B r = rl ∧ vl B i = mcy (kyu U rl k) (B.take (((ats B).getD i a0).2.2 - 4)) then (if 0 < (strg (cts B)).length then (420, none) else (0, some k)) else (401, none))
            else (438, none))
  else if m = nI 1 then (if 0 < (strg (cts B)).length then (420, none) else (0, none)) else (400, none)
theorem vb_snoc (l : List Nat) (c : Nat) : vb 0 (l ++ [c]) = vb 0 l * 256 + c := by unfold vb; rw [List.foldl_append]; rfl
theorem nb_vb {B : List Nat} {s : Nat} : ∀ {w : Nat}, s + w ≤ B.length → nb B s w = vb 0 ((B.drop s).take w)
  | 0, _ => rfl
  | w + 1, h => by
    show nb B s w * 256 + B.getD (s + w) 0 = _
    rw [nb_vb (w := w) (by omega), ← vb_snoc]
    congr 1
    apply gd_ext
    · simp; omega
    · intro i hi
      have hi' : i < w + 1 := by simp at hi; omega
      rw [gd_dropTake hi']
      by_cases hw : i < w
      · rw [gd_app1 (by simp; omega), gd_dropTake hw]
      · have : i = w := by omega
        subst this
        rw [gd_app2 (by simp; omega)]
        simp [show min i (B.length - s) = i by omega]
theorem vl_len {B : List Nat} (hm : msg B = true) {i : Nat} (hi : i < (ats B).length) : (vl B i).length = ((ats B).getD i a0).2.1 := by
  have := ats_fit hm hi
  unfold vl; rw [List.length_take, List.length_drop]; omega
theorem vl_lt {B : List Nat} (hB : ∀ c ∈ B, c < 256) (i : Nat) : ∀ c ∈ vl B i, c < 256 := fun c hc => hB c (List.mem_of_mem_drop (List.mem_of_mem_take hc))
theorem vl_nb {B : List Nat} (hm : msg B = true) {i : Nat} (hi : i < (ats B).length) (h8 : ((ats B).getD i a0).2.1 ≤ 8) : vlo B i = vb 0 (vl B i) := by
  unfold vlo vl
  rw [Nat.min_eq_right h8]
  exact nb_vb (ats_fit hm hi)
theorem vb_8 {l : List Nat} (hl : l.length ≤ 8) (hb : ∀ c ∈ l, c < 256) : vb 0 l < 2 ^ 64 := Nat.lt_of_lt_of_le (vb_lt l hb) (Nat.le_trans (Nat.pow_le_pow_right (by decide) hl) (by decide))
theorem lN_e64 {a b : Nat} (ha : a < 2 ^ 64) (hb : b < 2 ^ 64) (h : lN a = lN b) : a = b := by
  have := congrArg uN h
  rwa [uN_lN ha, uN_lN hb] at this
theorem vb_eq {l m : List Nat} (h : l.length = m.length) (h1 : ∀ c ∈ l, c < 256) (h2 : ∀ c ∈ m, c < 256) (e : vb 0 l = vb 0 m) : l = m := by
  rw [← be_vb l h1, ← be_vb m h2, h, e]
theorem wd_at {B l : List Nat} (hB : ∀ c ∈ B, c < 256) (hm : msg B = true) {i : Nat} (hi : i < (ats B).length) (h8 : ((ats B).getD i a0).2.1 ≤ 8) (hl : wd l) : (lN (vlo B i) = lN (vb 0 l) ∧ ((ats B).getD i a0).2.1 = l.length) ↔ vl B i = l := by
  rw [vl_nb hm hi h8]
  constructor
  · rintro ⟨h1, h2⟩
    exact vb_eq (by rw [vl_len hm hi, h2]) (vl_lt hB i) (fun c hc => (hl.2 c hc).2) (lN_e64 (vb_8 (by rw [vl_len hm hi]; exact h8) (vl_lt hB i)) (vb_64 hl) h1)
  · rintro rfl
    exact ⟨rfl, (vl_len hm hi).symm⟩
section AC
variable {d N : Nat} {I : Nat → Nat → Int32} {L : Nat → Nat → Int64} {w : Option Nat} {Q : am_Q} {A : List Nat} {U : UR} {rl : List Nat}
theorem c_95 {M : List Nat} {s : Nat} (hA : cT I A) (hM : rw_B I 15 16 32 M) (hl : M.length = 32) (hs : s + 32 ≤ A.length) (hq : Q (some (.int (bI (decide ((A.drop s).take 32 = M))))) (am_SH N, I, L, am_RR w)) : am_call (d + 2) 95 [.ref 7, .ref 5, .int (nI s)] (am_SH N, I, L, am_RR w) Q := by
  have hA4 := hA.1
  have hx : ∀ i, i < 32 → ((A.drop s).take 32).getD i 0 = A.getD (s + i) 0 := fun i hi => gd_dropTake hi
  have loop : ∀ (r j : Nat), j + r = 32 → (∀ i, i < j → A.getD (s + i) 0 = M.getD i 0) → am_V 95 am_c95 (d + 1) (am_SH N) Q 2 [some (.ref 7), some (.ref 5), some (.int (nI s)), some (.int (nI j))] [] (am_SH N, I, L, am_RR w) := by
    intro r
    induction r with
    | zero =>
      intro j hj hi
      rw [decide_eq_true (gd_ext (by simp; omega) (fun i hi' => by
        have : i < 32 := by simp at hi'; omega
        rw [hx i this]; exact hi i (by omega)))] at hq
      refine wp_iload (k := 2) rfl rfl ?_
      refine w_ic (k := 3) (x := nI 32) rfl (oi_nI 32) ?_
      refine w_n_ge (k := 4) (t' := 19) rfl rfl (by omega) (fun zq => ?_) (fun zq => absurd zq (by omega))
      refine w_ic (k := 19) (x := bI true) rfl rfl ?_
      refine w_rz (k := 20) rfl rfl rfl ?_
      exact hq
    | succ r ih =>
      intro j hj hi
      refine wp_iload (k := 2) rfl rfl ?_
      refine w_ic (k := 3) (x := nI 32) rfl (oi_nI 32) ?_
      refine w_n_ge (k := 4) (t' := 19) rfl rfl (by omega) (fun zq => absurd zq (by omega)) (fun zq => ?_)
      refine wp_aload (k := 5) rfl rfl ?_
      refine wp_iload (k := 6) rfl rfl ?_
      refine wp_iload (k := 7) rfl rfl ?_
      refine w_addN (k := 8) rfl ?_
      refine w_Vi (k := 9) [_] rfl rfl rfl (Nat.le_of_ble_eq_true rfl) (by first | assumption | rfl) (Or.inl ⟨rfl, rfl⟩) ?_
      refine (c_84 (rwT N w) hA ?_)
      refine ⟨_, rfl, ?_⟩
      refine wp_aload (k := 10) rfl rfl ?_
      refine w_gr (k := 11) (s := 3) rfl rfl (by first | assumption | rfl) (by first | assumption | rfl) ?_
      refine wp_iload (k := 12) rfl rfl ?_
      refine w_Vi (k := 13) [_] rfl rfl rfl (Nat.le_of_ble_eq_true rfl) (by first | assumption | rfl) (Or.inl ⟨rfl, rfl⟩) ?_
      refine (c_84 (rwM N w) hM ?_)
      refine ⟨_, rfl, ?_⟩
      rw [byA_n (by omega) (by omega), byA_n (by omega) (by omega)]
      have b1 := gd_lt hA.2.2.2 (s + j)
      have b2 := gd_lt hM.2.2.2 j
      refine w_n_eq (k := 14) (t' := 17) rfl rfl (by omega) (fun k1 => ?_) (fun k1 => ?_)
      · refine w_incN (k := 17) (m := 1) rfl (oi_nI 1) rfl ?_
        refine w_goto (k := 18) (t' := 2) rfl rfl ?_
        exact ih (j + 1) (by omega) (fun i hi' => by
          by_cases e : i = j
          · rw [e]; exact k1
          · exact hi i (by omega))
      · rw [decide_eq_false (fun e => k1 (by rw [← hx j (by omega), e]))] at hq
        refine w_ic (k := 15) (x := bI false) rfl rfl ?_
        refine w_rz (k := 16) rfl rfl rfl ?_
        exact hq
  refine am_enter (ls := [some _, some _, some _, none]) (cs := am_c95) rfl rfl (Nat.le_of_ble_eq_true rfl) rfl ?_
  refine w_ic (k := 0) (x := nI 0) rfl (oi_nI 0) ?_
  refine wp_istore (k := 1) rfl rfl ?_
  exact loop 32 0 rfl (fun i hi => absurd hi (Nat.not_lt_zero _))
theorem c_108 {m : Int32} (hq : Q (some (.int (bI (decide (m = nI 3 ∨ m = nI 4 ∨ m = nI 8 ∨ m = nI 9))))) (am_SH N, I, L, am_RR w)) : am_call (d + 1) 108 [.int m] (am_SH N, I, L, am_RR w) Q := by
  refine am_enter (ls := [some _]) (cs := am_c108) rfl rfl (Nat.le_of_ble_eq_true rfl) rfl ?_
  refine wp_iload (k := 0) rfl rfl ?_
  refine w_ic (k := 1) (x := nI 3) rfl (oi_nI 3) ?_
  refine w_c_eq (k := 2) (t' := 12) rfl rfl (fun c1 => ?_) (fun c1 => ?_)
  · rw [decide_eq_true (Or.inl c1)] at hq
    refine w_ic (k := 12) (x := bI true) rfl rfl ?_
    refine w_goto (k := 13) (t' := 15) rfl rfl ?_
    refine w_rz (k := 15) rfl rfl rfl ?_
    exact hq
  · refine wp_iload (k := 3) rfl rfl ?_
    refine w_ic (k := 4) (x := nI 4) rfl (oi_nI 4) ?_
    refine w_c_eq (k := 5) (t' := 12) rfl rfl (fun c2 => ?_) (fun c2 => ?_)
    · rw [decide_eq_true (Or.inr (Or.inl c2))] at hq
      refine w_ic (k := 12) (x := bI true) rfl rfl ?_
      refine w_goto (k := 13) (t' := 15) rfl rfl ?_
      refine w_rz (k := 15) rfl rfl rfl ?_
      exact hq
    · refine wp_iload (k := 6) rfl rfl ?_
      refine w_ic (k := 7) (x := nI 8) rfl (oi_nI 8) ?_
      refine w_c_eq (k := 8) (t' := 12) rfl rfl (fun c3 => ?_) (fun c3 => ?_)
      · rw [decide_eq_true (Or.inr (Or.inr (Or.inl c3)))] at hq
        refine w_ic (k := 12) (x := bI true) rfl rfl ?_
        refine w_goto (k := 13) (t' := 15) rfl rfl ?_
        refine w_rz (k := 15) rfl rfl rfl ?_
        exact hq
      · refine wp_iload (k := 9) rfl rfl ?_
        refine w_ic (k := 10) (x := nI 9) rfl (oi_nI 9) ?_
        refine w_c_ne (k := 11) (t' := 14) rfl rfl (fun c4 => ?_) (fun c4 => ?_)
        · rw [decide_eq_false (by rintro (h | h | h | h) <;> contradiction)] at hq
          refine w_ic (k := 14) (x := bI false) rfl rfl ?_
          refine w_rz (k := 15) rfl rfl rfl ?_
          exact hq
        · rw [decide_eq_true (Or.inr (Or.inr (Or.inr c4)))] at hq
          refine w_ic (k := 12) (x := bI true) rfl rfl ?_
          refine w_goto (k := 13) (t' := 15) rfl rfl ?_
          refine w_rz (k := 15) rfl rfl rfl ?_
          exact hq
theorem c_110 (hA : cT I A) (hl : lr_ I 94 A) (hm : msg A = true) {i : Nat} (hi : i < (ats A).length) (h8 : ((ats A).getD i a0).2.1 ≤ 8) {l : List Nat} (hw : wd l) (hq : Q (some (.int (bI (decide (vl A i = l))))) (am_SH N, I, L, am_RR w)) : am_call (d + 4) 110 [.ref 91, .int (nI i), .long (lN (vb 0 l))] (am_SH N, I, L, am_RR w) Q := by
  have hx := wd_at hA.2.2.2 hm hi h8 hw
  have := hw.1
  refine am_enter (ls := [some _, some _, some _, none]) (cs := am_c110) rfl rfl (Nat.le_of_ble_eq_true rfl) rfl ?_
  refine wp_aload (k := 0) rfl rfl ?_
  refine w_gr (k := 1) (s := 6) rfl rfl (by first | assumption | rfl) (by first | assumption | rfl) ?_
  refine wp_iload (k := 2) rfl rfl ?_
  refine w_Vl (k := 3) [_] rfl rfl rfl (Nat.le_of_ble_eq_true rfl) (by first | assumption | rfl) (Or.inl ⟨rfl, rfl⟩) ?_
  refine (c_45 (lqT N w) (rwT N w) hA hl hm hi ?_)
  refine ⟨_, rfl, ?_⟩
  refine wp_lload (k := 4) rfl rfl ?_
  refine w_L_ne (k := 5) (t' := 16) rfl rfl rfl (fun k1 => ?_) (fun k1 => ?_)
  · rw [decide_eq_false (fun e => k1 (hx.mpr e).1)] at hq
    refine w_ic (k := 16) (x := bI false) rfl rfl ?_
    refine w_rz (k := 17) rfl rfl rfl ?_
    exact hq
  · refine wp_aload (k := 7) rfl rfl ?_
    refine w_gr (k := 8) (s := 6) rfl rfl (by first | assumption | rfl) (by first | assumption | rfl) ?_
    refine wp_iload (k := 9) rfl rfl ?_
    refine w_Vi (k := 10) [_] rfl rfl rfl (Nat.le_of_ble_eq_true rfl) (by first | assumption | rfl) (Or.inl ⟨rfl, rfl⟩) ?_
    refine (c_43 (lqT N w) hl hm hi ?_)
    refine ⟨_, rfl, ?_⟩
    refine wp_lload (k := 11) rfl rfl ?_
    refine w_Si (k := 12) [_] rfl rfl rfl (Nat.le_of_ble_eq_true rfl) (Or.inl ⟨rfl, rfl⟩) ?_
    refine (c_125 hw.1 hw.2 ?_)
    refine ⟨_, rfl, ?_⟩
    refine w_n_ne (k := 13) (t' := 16) rfl rfl (by omega) (fun k2 => ?_) (fun k2 => ?_)
    · rw [decide_eq_false (fun e => k2 (hx.mpr e).2)] at hq
      refine w_ic (k := 16) (x := bI false) rfl rfl ?_
      refine w_rz (k := 17) rfl rfl rfl ?_
      exact hq
    · rw [decide_eq_true (hx.mp ⟨k1, k2⟩)] at hq
      refine w_ic (k := 14) (x := bI true) rfl rfl ?_
      refine w_goto (k := 15) (t' := 17) rfl rfl ?_
      refine w_rz (k := 17) rfl rfl rfl ?_
      exact hq
theorem c_130 {k : Nat} (hk : k < 8) (hq : Q (some (.long (L 19 k))) (am_SH N, I, L, am_RR w)) : am_call (d + 1) 130 [.ref 18, .int (nI k)] (am_SH N, I, L, am_RR w) Q := by
  refine am_enter (ls := [some _, some _]) (cs := am_c130) rfl rfl (Nat.le_of_ble_eq_true rfl) rfl ?_
  refine wp_iload (k := 0) rfl rfl ?_
  refine w_m_lt (k := 1) (t' := 10) rfl rfl (by omega) (fun zq => absurd zq (by omega)) (fun zq => ?_)
  refine wp_iload (k := 2) rfl rfl ?_
  refine w_ic (k := 3) (x := nI 8) rfl (oi_nI 8) ?_
  refine w_n_ge (k := 4) (t' := 10) rfl rfl (by omega) (fun zq => absurd zq (by omega)) (fun zq => ?_)
  refine wp_aload (k := 5) rfl rfl ?_
  refine w_gr (k := 6) (s := 0) rfl rfl (by first | assumption | rfl) (by first | assumption | rfl) ?_
  refine wp_iload (k := 7) rfl rfl ?_
  refine w_lald (k := 8) rfl rfl (by first | assumption | rfl) (by omega) (by first | assumption | rfl) ?_
  refine w_goto (k := 9) (t' := 11) rfl rfl ?_
  refine w_rl (k := 11) rfl rfl rfl rfl ?_
  exact hq
theorem c_131 {k : Nat} (hk : k < 8) (hq : Q (some (.long (L 20 k))) (am_SH N, I, L, am_RR w)) : am_call (d + 1) 131 [.ref 18, .int (nI k)] (am_SH N, I, L, am_RR w) Q := by
  refine am_enter (ls := [some _, some _]) (cs := am_c131) rfl rfl (Nat.le_of_ble_eq_true rfl) rfl ?_
  refine wp_iload (k := 0) rfl rfl ?_
  refine w_m_lt (k := 1) (t' := 10) rfl rfl (by omega) (fun zq => absurd zq (by omega)) (fun zq => ?_)
  refine wp_iload (k := 2) rfl rfl ?_
  refine w_ic (k := 3) (x := nI 8) rfl (oi_nI 8) ?_
  refine w_n_ge (k := 4) (t' := 10) rfl rfl (by omega) (fun zq => absurd zq (by omega)) (fun zq => ?_)
  refine wp_aload (k := 5) rfl rfl ?_
  refine w_gr (k := 6) (s := 1) rfl rfl (by first | assumption | rfl) (by first | assumption | rfl) ?_
  refine wp_iload (k := 7) rfl rfl ?_
  refine w_lald (k := 8) rfl rfl (by first | assumption | rfl) (by omega) (by first | assumption | rfl) ?_
  refine w_goto (k := 9) (t' := 11) rfl rfl ?_
  refine w_rl (k := 11) rfl rfl rfl rfl ?_
  exact hq
theorem c_132 (hq : Q (some (.long (L 18 3))) (am_SH N, I, L, am_RR w)) : am_call (d + 1) 132 [.ref 18] (am_SH N, I, L, am_RR w) Q := by
  refine am_enter (ls := [some _]) (cs := am_c132) rfl rfl (Nat.le_of_ble_eq_true rfl) rfl ?_
  refine wp_aload (k := 0) rfl rfl ?_
  refine w_gl (k := 1) (s := 3) rfl rfl (by first | assumption | rfl) (by first | assumption | rfl) ?_
  refine w_rl (k := 2) rfl rfl rfl rfl ?_
  exact hq
theorem c_134 (hq : Q (some (.long (L 18 4))) (am_SH N, I, L, am_RR w)) : am_call (d + 1) 134 [.ref 18] (am_SH N, I, L, am_RR w) Q := by
  refine am_enter (ls := [some _]) (cs := am_c134) rfl rfl (Nat.le_of_ble_eq_true rfl) rfl ?_
  refine wp_aload (k := 0) rfl rfl ?_
  refine w_gl (k := 1) (s := 4) rfl rfl (by first | assumption | rfl) (by first | assumption | rfl) ?_
  refine w_rl (k := 2) rfl rfl rfl rfl ?_
  exact hq
/-- the user that is found by the number of a value -/
theorem uf_v (hok : us_ok U) (h : us_c I L U) {x : List Nat} (hx : x.length ≤ 8) (hb : ∀ c ∈ x, c < 256) : (∀ k, ff (fun i => decide (L 19 i = lN (vb 0 x))) 0 U.length = some k → k < U.length ∧ uf U x = if x = (U.getD k ud).1 then some k else none) ∧ (ff (fun i => decide (L 19 i = lN (vb 0 x))) 0 U.length = none → uf U x = none) := by
  have hj : ∀ j, uf U x = some j → j < U.length ∧ (U.getD j ud).1 = x ∧ wd x := fun j e => by
    obtain ⟨-, h2, h3, -⟩ := ff_some e
    have hj : j < U.length := by omega
    have e := of_decide_eq_true h3
    exact ⟨hj, e, e ▸ hok.2.1 _ (ug hj)⟩
  refine ⟨fun k hk => ?_, fun hn => ?_⟩
  · obtain ⟨-, h2, h3, -⟩ := ff_some hk
    have hkl : k < U.length := by omega
    refine ⟨hkl, ?_⟩
    by_cases e : x = (U.getD k ud).1
    · rw [if_pos e, ← uf_c hok h (e ▸ hok.2.1 _ (ug hkl)), hk]
    · rw [if_neg e]
      cases hu : uf U x with
      | none => rfl
      | some j =>
        obtain ⟨j1, j2, j3⟩ := hj j hu
        rw [uf_c hok h j3, hu] at hk
        cases hk
        exact absurd j2.symm e
  · cases hu : uf U x with
    | none => rfl
    | some j =>
      obtain ⟨j1, j2, j3⟩ := hj j hu
      rw [uf_c hok h j3, hu] at hn
      cases hn
theorem c_109 (hA : cT I A) (hl : lr_ I 94 A) (hm : msg A = true) (hok : us_ok U) (hu : us_c I L U) (hrl : wd rl) {fr : Int64} (h3 : L 18 3 = lN (vb 0 rl)) (h4 : L 18 4 = fr) (hst : stc I) (hs : sl I) (h10 : I 91 10 = nI (strg (cts A)).length) (h14 : I 91 14 = -1) {m : Int32} (hq : ∀ I', sl I' → I' 91 14 = oI (acs U rl fr A m).2 → (∀ k, (acs U rl fr A m).2 = some k → rw_B I' 13 14 32 (kyu U rl k)) → fc [9, 10, 11, 12, 13, 14, 15, 16, 91] I I' → (∀ s, s ≠ 14 → I' 91 s = I 91 s) → Q (some (.int (nI (acs U rl fr A m).1))) (am_SH N, I', L, am_RR w)) : am_call (d + 5) 109 [.ref 91, .int m] (am_SH N, I, L, am_RR w) Q := by
  have st8 := strg_len (cts A)
  have l104 := ats_len A
  have stay : ∀ e, acs U rl fr A m = (e, none) → Q (some (.int (nI e))) (am_SH N, I, L, am_RR w) := fun e he => by
    rw [he] at hq
    exact hq I hs h14 (fun k hk => by cases hk) fc_rf (fun _ _ => rfl)
  refine am_enter (ls := [some _, some _, none, none, none, none, none]) (cs := am_c109) rfl rfl (Nat.le_of_ble_eq_true rfl) rfl ?_
  refine wp_iload (k := 0) rfl rfl ?_
  refine w_Si (k := 1) [_] rfl rfl rfl (Nat.le_of_ble_eq_true rfl) (Or.inl ⟨rfl, rfl⟩) ?_
  refine (c_108 ?_)
  refine ⟨_, rfl, ?_⟩
  refine w_b_ne (k := 2) (t' := 15) rfl rfl (fun c1 => ?_) (fun c1 => ?_)
  · have c1 := of_decide_eq_true c1
    have ax : acs U rl fr A m = (match fnd A 28 with
    | none => (401, none)
    | some i => match fnd A 6 with
      | none => (400, none)
      | some u => match fnd A 20 with
        | none => (400, none)
        | some r => match fnd A 21 with
          | none => (400, none)
          | some n => if lN (vlo A n) = fr then (match uf U (vl A u) with
              | none => (401, none)
              | some k => if vl A r = rl ∧ vl A i = mcy (kyu U rl k) (A.take (((ats A).getD i a0).2.2 - 4)) then (if 0 < (strg (cts A)).length then (420, none) else (0, some k)) else (401, none))
            else (438, none)) := by unfold acs; rw [if_pos c1]
    refine wp_aload (k := 15) rfl rfl ?_
    refine w_gr (k := 16) (s := 6) rfl rfl (by first | assumption | rfl) (by first | assumption | rfl) ?_
    refine w_ic (k := 17) (x := nI 28) rfl (oi_nI 28) ?_
    refine w_Vi (k := 18) [_] rfl rfl rfl (Nat.le_of_ble_eq_true rfl) (by first | assumption | rfl) (Or.inl ⟨rfl, rfl⟩) ?_
    refine (c_38 (lqT N w) hA.2.2.2 hl hm (by decide) ?_)
    refine ⟨_, rfl, ?_⟩
    refine wp_istore (k := 19) (ls2 := [some _, some _, some _, none, none, none, none]) rfl rfl ?_
    refine wp_aload (k := 20) rfl rfl ?_
    refine w_gr (k := 21) (s := 6) rfl rfl (by first | assumption | rfl) (by first | assumption | rfl) ?_
    refine w_ic (k := 22) (x := nI 6) rfl (oi_nI 6) ?_
    refine w_Vi (k := 23) [_] rfl rfl rfl (Nat.le_of_ble_eq_true rfl) (by first | assumption | rfl) (Or.inl ⟨rfl, rfl⟩) ?_
    refine (c_38 (lqT N w) hA.2.2.2 hl hm (by decide) ?_)
    refine ⟨_, rfl, ?_⟩
    refine wp_istore (k := 24) (ls2 := [some _, some _, some _, some _, none, none, none]) rfl rfl ?_
    refine wp_aload (k := 25) rfl rfl ?_
    refine w_gr (k := 26) (s := 6) rfl rfl (by first | assumption | rfl) (by first | assumption | rfl) ?_
    refine w_ic (k := 27) (x := nI 20) rfl (oi_nI 20) ?_
    refine w_Vi (k := 28) [_] rfl rfl rfl (Nat.le_of_ble_eq_true rfl) (by first | assumption | rfl) (Or.inl ⟨rfl, rfl⟩) ?_
    refine (c_38 (lqT N w) hA.2.2.2 hl hm (by decide) ?_)
    refine ⟨_, rfl, ?_⟩
    refine wp_istore (k := 29) (ls2 := [some _, some _, some _, some _, some _, none, none]) rfl rfl ?_
    refine wp_aload (k := 30) rfl rfl ?_
    refine w_gr (k := 31) (s := 6) rfl rfl (by first | assumption | rfl) (by first | assumption | rfl) ?_
    refine w_ic (k := 32) (x := nI 21) rfl (oi_nI 21) ?_
    refine w_Vi (k := 33) [_] rfl rfl rfl (Nat.le_of_ble_eq_true rfl) (by first | assumption | rfl) (Or.inl ⟨rfl, rfl⟩) ?_
    refine (c_38 (lqT N w) hA.2.2.2 hl hm (by decide) ?_)
    refine ⟨_, rfl, ?_⟩
    refine wp_istore (k := 34) (ls2 := [some _, some _, some _, some _, some _, some _, none]) rfl rfl ?_
    cases h28 : fnd A 28 with
    | none =>
      rw [h28] at ax
      refine wp_iload (k := 35) rfl rfl ?_
      refine w_ic (k := 36) (x := (-1)) rfl (by decide) ?_
      refine w_c_ne (k := 37) (t' := 40) rfl rfl (fun zq => absurd (show oI none = -1 from rfl) zq) (fun zq => ?_)
      refine w_ic (k := 38) (x := nI 401) rfl (oi_nI 401) ?_
      refine w_ri (k := 39) rfl rfl rfl rfl ?_
      exact stay _ ax
    | some i =>
      have e28 := fnd_lt h28
      rw [h28] at ax
      simp only at ax
      refine wp_iload (k := 35) rfl rfl ?_
      refine w_ic (k := 36) (x := (-1)) rfl (by decide) ?_
      refine w_c_ne (k := 37) (t' := 40) rfl rfl (fun zq => ?_) (fun zq => absurd zq (nI_ne1 (by omega)))
      cases h6 : fnd A 6 with
      | none =>
        rw [h6] at ax
        refine wp_iload (k := 40) rfl rfl ?_
        refine w_ic (k := 41) (x := (-1)) rfl (by decide) ?_
        refine w_c_eq (k := 42) (t' := 49) rfl rfl (fun zq => ?_) (fun zq => absurd rfl zq)
        refine w_ic (k := 49) (x := nI 400) rfl (oi_nI 400) ?_
        refine w_ri (k := 50) rfl rfl rfl rfl ?_
        exact stay _ ax
      | some u =>
        have e6 := fnd_lt h6
        rw [h6] at ax
        simp only at ax
        refine wp_iload (k := 40) rfl rfl ?_
        refine w_ic (k := 41) (x := (-1)) rfl (by decide) ?_
        refine w_c_eq (k := 42) (t' := 49) rfl rfl (fun zq => absurd zq (nI_ne1 (by omega))) (fun zq => ?_)
        cases h20 : fnd A 20 with
        | none =>
          rw [h20] at ax
          refine wp_iload (k := 43) rfl rfl ?_
          refine w_ic (k := 44) (x := (-1)) rfl (by decide) ?_
          refine w_c_eq (k := 45) (t' := 49) rfl rfl (fun zq => ?_) (fun zq => absurd rfl zq)
          refine w_ic (k := 49) (x := nI 400) rfl (oi_nI 400) ?_
          refine w_ri (k := 50) rfl rfl rfl rfl ?_
          exact stay _ ax
        | some r =>
          have e20 := fnd_lt h20
          rw [h20] at ax
          simp only at ax
          refine wp_iload (k := 43) rfl rfl ?_
          refine w_ic (k := 44) (x := (-1)) rfl (by decide) ?_
          refine w_c_eq (k := 45) (t' := 49) rfl rfl (fun zq => absurd zq (nI_ne1 (by omega))) (fun zq => ?_)
          cases h21 : fnd A 21 with
          | none =>
            rw [h21] at ax
            refine wp_iload (k := 46) rfl rfl ?_
            refine w_ic (k := 47) (x := (-1)) rfl (by decide) ?_
            refine w_c_ne (k := 48) (t' := 51) rfl rfl (fun zq => absurd (show oI none = -1 from rfl) zq) (fun zq => ?_)
            refine w_ic (k := 49) (x := nI 400) rfl (oi_nI 400) ?_
            refine w_ri (k := 50) rfl rfl rfl rfl ?_
            exact stay _ ax
          | some n =>
            have e21 := fnd_lt h21
            rw [h21] at ax
            simp only at ax
            have z6 := z_word (Or.inl e6.2.2.1) e6.2.2.2
            have z20 := z_word (Or.inr e20.2.2.1) e20.2.2.2
            have z28 := z_28 e28.2.2.1 e28.2.2.2
            refine wp_iload (k := 46) rfl rfl ?_
            refine w_ic (k := 47) (x := (-1)) rfl (by decide) ?_
            refine w_c_ne (k := 48) (t' := 51) rfl rfl (fun zq => ?_) (fun zq => absurd zq (nI_ne1 (by omega)))
            refine wp_aload (k := 51) rfl rfl ?_
            refine w_gr (k := 52) (s := 6) rfl rfl (by first | assumption | rfl) (by first | assumption | rfl) ?_
            refine wp_iload (k := 53) rfl rfl ?_
            refine w_Vl (k := 54) [_] rfl rfl rfl (Nat.le_of_ble_eq_true rfl) (by first | assumption | rfl) (Or.inl ⟨rfl, rfl⟩) ?_
            refine (c_45 (lqT N w) (rwT N w) hA hl hm e21.2.1 ?_)
            refine ⟨_, rfl, ?_⟩
            refine wp_aload (k := 55) rfl rfl ?_
            refine w_gr (k := 56) (s := 1) rfl rfl (by first | assumption | rfl) (by first | assumption | rfl) ?_
            refine w_Vl (k := 57) [] rfl rfl rfl (Nat.le_of_ble_eq_true rfl) (by first | assumption | rfl) (Or.inl ⟨rfl, rfl⟩) ?_
            refine (c_134 ?_)
            refine ⟨_, rfl, ?_⟩
            rw [h4]
            refine w_L_eq (k := 58) (t' := 62) rfl rfl rfl (fun k1 => ?_) (fun k1 => ?_)
            · rw [if_pos k1] at ax
              have hux := uf_v hok hu (x := vl A u) (by rw [vl_len hm e6.2.1]; exact z6.2) (vl_lt hA.2.2.2 u)
              rw [← vl_nb hm e6.2.1 z6.2] at hux
              have hU8 := hok.1
              refine wp_aload (k := 62) rfl rfl ?_
              refine w_gr (k := 63) (s := 1) rfl rfl (by first | assumption | rfl) (by first | assumption | rfl) ?_
              refine wp_aload (k := 64) rfl rfl ?_
              refine w_gr (k := 65) (s := 6) rfl rfl (by first | assumption | rfl) (by first | assumption | rfl) ?_
              refine wp_iload (k := 66) rfl rfl ?_
              refine w_Vl (k := 67) [_] rfl rfl rfl (Nat.le_of_ble_eq_true rfl) (by first | assumption | rfl) (Or.inl ⟨rfl, rfl⟩) ?_
              refine (c_45 (lqT N w) (rwT N w) hA hl hm e6.2.1 ?_)
              refine ⟨_, rfl, ?_⟩
              refine w_Vi (k := 68) [_] rfl rfl rfl (Nat.le_of_ble_eq_true rfl) (by first | assumption | rfl) (Or.inl ⟨rfl, rfl⟩) ?_
              refine (c_129 hU8 hu.1 ?_)
              refine ⟨_, rfl, ?_⟩
              refine wp_istore (k := 69) rfl rfl ?_
              cases hf : ff (fun i => decide (L 19 i = lN (vlo A u))) 0 U.length with
              | none =>
                rw [hux.2 hf] at ax
                refine wp_iload (k := 70) rfl rfl ?_
                refine w_ic (k := 71) (x := (-1)) rfl (by decide) ?_
                refine w_c_eq (k := 72) (t' := 88) rfl rfl (fun zq => ?_) (fun zq => absurd rfl zq)
                refine w_ic (k := 88) (x := nI 401) rfl (oi_nI 401) ?_
                refine w_ri (k := 89) rfl rfl rfl rfl ?_
                exact stay _ ax
              | some k =>
                obtain ⟨hkl, hux⟩ := hux.1 k hf
                have hwk := hok.2.1 _ (ug hkl)
                refine wp_iload (k := 70) rfl rfl ?_
                refine w_ic (k := 71) (x := (-1)) rfl (by decide) ?_
                refine w_c_eq (k := 72) (t' := 88) rfl rfl (fun zq => absurd zq (nI_ne1 (by omega))) (fun zq => ?_)
                refine wp_aload (k := 73) rfl rfl ?_
                refine wp_iload (k := 74) rfl rfl ?_
                refine wp_aload (k := 75) rfl rfl ?_
                refine w_gr (k := 76) (s := 1) rfl rfl (by first | assumption | rfl) (by first | assumption | rfl) ?_
                refine wp_iload (k := 77) rfl rfl ?_
                refine w_Vl (k := 78) [_] rfl rfl rfl (Nat.le_of_ble_eq_true rfl) (by first | assumption | rfl) (Or.inl ⟨rfl, rfl⟩) ?_
                refine (c_130 (by omega) ?_)
                refine ⟨_, rfl, ?_⟩
                rw [(hu.2 k hkl).1]
                refine w_Vi (k := 79) [_, _] rfl rfl rfl (Nat.le_of_ble_eq_true rfl) (by first | assumption | rfl) (Or.inl ⟨rfl, rfl⟩) ?_
                refine (c_110 hA hl hm e6.2.1 z6.2 hwk ?_)
                refine ⟨_, rfl, ?_⟩
                refine w_b_eq (k := 80) (t' := 88) rfl rfl (fun k2 => ?_) (fun k2 => ?_)
                · rw [hux, if_neg (of_decide_eq_false k2)] at ax
                  refine w_ic (k := 88) (x := nI 401) rfl (oi_nI 401) ?_
                  refine w_ri (k := 89) rfl rfl rfl rfl ?_
                  exact stay _ ax
                · rw [hux, if_pos (of_decide_eq_true k2)] at ax
                  simp only at ax
                  refine wp_aload (k := 81) rfl rfl ?_
                  refine wp_iload (k := 82) rfl rfl ?_
                  refine wp_aload (k := 83) rfl rfl ?_
                  refine w_gr (k := 84) (s := 1) rfl rfl (by first | assumption | rfl) (by first | assumption | rfl) ?_
                  refine w_Vl (k := 85) [] rfl rfl rfl (Nat.le_of_ble_eq_true rfl) (by first | assumption | rfl) (Or.inl ⟨rfl, rfl⟩) ?_
                  refine (c_132 ?_)
                  refine ⟨_, rfl, ?_⟩
                  rw [h3]
                  refine w_Vi (k := 86) [_, _] rfl rfl rfl (Nat.le_of_ble_eq_true rfl) (by first | assumption | rfl) (Or.inl ⟨rfl, rfl⟩) ?_
                  refine (c_110 hA hl hm e20.2.1 z20.2 hrl ?_)
                  refine ⟨_, rfl, ?_⟩
                  refine w_b_ne (k := 87) (t' := 90) rfl rfl (fun k3 => ?_) (fun k3 => ?_)
                  · have k3 := of_decide_eq_true k3
                    refine wp_aload (k := 90) rfl rfl ?_
                    refine w_gr (k := 91) (s := 5) rfl rfl (by first | assumption | rfl) (by first | assumption | rfl) ?_
                    refine wp_aload (k := 92) rfl rfl ?_
                    refine w_gr (k := 93) (s := 1) rfl rfl (by first | assumption | rfl) (by first | assumption | rfl) ?_
                    refine wp_iload (k := 94) rfl rfl ?_
                    refine w_Vl (k := 95) [_] rfl rfl rfl (Nat.le_of_ble_eq_true rfl) (by first | assumption | rfl) (Or.inl ⟨rfl, rfl⟩) ?_
                    refine (c_130 (by omega) ?_)
                    refine ⟨_, rfl, ?_⟩
                    refine wp_aload (k := 96) rfl rfl ?_
                    refine w_gr (k := 97) (s := 1) rfl rfl (by first | assumption | rfl) (by first | assumption | rfl) ?_
                    refine w_Vl (k := 98) [] rfl rfl rfl (Nat.le_of_ble_eq_true rfl) (by first | assumption | rfl) (Or.inl ⟨rfl, rfl⟩) ?_
                    refine (c_132 ?_)
                    refine ⟨_, rfl, ?_⟩
                    refine wp_aload (k := 99) rfl rfl ?_
                    refine w_gr (k := 100) (s := 1) rfl rfl (by first | assumption | rfl) (by first | assumption | rfl) ?_
                    refine wp_iload (k := 101) rfl rfl ?_
                    refine w_Vl (k := 102) [_] rfl rfl rfl (Nat.le_of_ble_eq_true rfl) (by first | assumption | rfl) (Or.inl ⟨rfl, rfl⟩) ?_
                    refine (c_131 (by omega) ?_)
                    refine ⟨_, rfl, ?_⟩
                    rw [(hu.2 k hkl).1, (hu.2 k hkl).2, h3]
                    refine w_Vv (k := 103) [_, _, _] rfl rfl rfl (Nat.le_of_ble_eq_true rfl) (by first | assumption | rfl) (Or.inl ⟨rfl, rfl⟩) ?_
                    refine (c_92 hwk hrl (wd_nz _) hst hs (fun I1 s1 k1' f1 => ⟨rfl, ?_⟩))
                    have A1 := cT_k hA f1 (by decide) (by decide)
                    have l1 : lr_ I1 94 A := lr_k hl (fun j hj => f1 _ (by simp; omega))
                    have st1 : stc I1 := ⟨fun i hi => by rw [f1 0 (by decide)]; exact hst.1 i hi, fun i hi => by rw [f1 1 (by decide)]; exact hst.2.1 i hi, fun i hi => by rw [f1 2 (by decide)]; exact hst.2.2 i hi⟩
                    have at28 := ats_at hA.2.2.2 e28.2.1
                    have fit := ats_fit hm e28.2.1
                    have hA4 := hA.1
                    refine wp_aload (k := 104) rfl rfl ?_
                    refine w_gr (k := 105) (s := 5) rfl rfl (by first | assumption | rfl) (by first | assumption | rfl) ?_
                    refine wp_aload (k := 106) rfl rfl ?_
                    refine w_gr (k := 107) (s := 0) rfl rfl (by first | assumption | rfl) (by first | assumption | rfl) ?_
                    refine wp_aload (k := 108) rfl rfl ?_
                    refine w_gr (k := 109) (s := 6) rfl rfl (by first | assumption | rfl) (by first | assumption | rfl) ?_
                    refine wp_iload (k := 110) rfl rfl ?_
                    refine w_Vi (k := 111) [_] rfl rfl rfl (Nat.le_of_ble_eq_true rfl) (by first | assumption | rfl) (Or.inl ⟨rfl, rfl⟩) ?_
                    refine (c_44 (lqT N w) l1 hm e28.2.1 ?_)
                    refine ⟨_, rfl, ?_⟩
                    refine w_ic (k := 112) (x := nI 4) rfl (oi_nI 4) ?_
                    refine w_subN (k := 113) rfl (by omega) ?_
                    refine w_Vv (k := 114) [_, _] rfl rfl rfl (Nat.le_of_ble_eq_true rfl) (by first | assumption | rfl) (Or.inl ⟨rfl, rfl⟩) ?_
                    refine (c_93 (rwT N w) A1 (by decide) (by omega) st1 s1 k1' (fun I2 s2 k2' m2 f2 => ⟨rfl, ?_⟩))
                    have A2 := cT_k A1 f2 (by decide) (by decide)
                    have l2 : lr_ I2 94 A := lr_k l1 (fun j hj => f2 _ (by simp; omega))
                    have F2 : fc [9, 10, 11, 12, 13, 14, 15, 16, 91] I I2 := fc_t (fc_mo f1 (by decide)) (fc_mo f2 (by decide))
                    have g2 : I2 91 = I 91 := by rw [f2 91 (by decide), f1 91 (by decide)]
                    have stay2 : ∀ e, acs U rl fr A m = (e, none) → Q (some (.int (nI e))) (am_SH N, I2, L, am_RR w) := fun e he => by
                      rw [he] at hq
                      exact hq I2 s2 (by rw [g2]; exact h14) (fun k hk => by cases hk) F2 (fun _ _ => by rw [g2])
                    have g10 : I2 91 10 = nI (strg (cts A)).length := by rw [g2]; exact h10
                    refine wp_aload (k := 115) rfl rfl ?_
                    refine w_gr (k := 116) (s := 5) rfl rfl (by first | assumption | rfl) (by first | assumption | rfl) ?_
                    refine wp_aload (k := 117) rfl rfl ?_
                    refine w_gr (k := 118) (s := 0) rfl rfl (by first | assumption | rfl) (by first | assumption | rfl) ?_
                    refine wp_aload (k := 119) rfl rfl ?_
                    refine w_gr (k := 120) (s := 6) rfl rfl (by first | assumption | rfl) (by first | assumption | rfl) ?_
                    refine wp_iload (k := 121) rfl rfl ?_
                    refine w_Vi (k := 122) [_] rfl rfl rfl (Nat.le_of_ble_eq_true rfl) (by first | assumption | rfl) (Or.inl ⟨rfl, rfl⟩) ?_
                    refine (c_44 (lqT N w) l2 hm e28.2.1 ?_)
                    refine ⟨_, rfl, ?_⟩
                    refine w_Vi (k := 123) [_, _] rfl rfl rfl (Nat.le_of_ble_eq_true rfl) (by first | assumption | rfl) (Or.inl ⟨rfl, rfl⟩) ?_
                    refine (c_95 A2 m2 (mcy_len _ _) (by omega) ?_)
                    refine ⟨_, rfl, ?_⟩
                    refine w_b_ne (k := 124) (t' := 127) rfl rfl (fun k4 => ?_) (fun k4 => ?_)
                    · rw [if_pos ⟨k3, by unfold vl; rw [z28]; exact of_decide_eq_true k4⟩] at ax
                      refine wp_aload (k := 127) rfl rfl ?_
                      refine w_gi (k := 128) (s := 10) rfl rfl (by first | assumption | rfl) g10 ?_
                      refine w_m_le (k := 129) (t' := 132) rfl rfl (by omega) (fun k5 => ?_) (fun k5 => ?_)
                      · rw [if_neg (by omega)] at ax
                        rw [ax] at hq
                        refine wp_aload (k := 132) rfl rfl ?_
                        refine wp_iload (k := 133) rfl rfl ?_
                        refine w_pi (k := 134) (s := 14) rfl rfl (by first | assumption | rfl) ?_
                        refine w_ic (k := 135) (x := nI 0) rfl (oi_nI 0) ?_
                        refine w_ri (k := 136) rfl rfl rfl rfl ?_
                        refine hq _ ?_ am_us (fun k' hk' => ?_) (fc_t F2 (fc_p (by decide))) (fun s hs => ?_)
                        · obtain ⟨⟨X1, x1⟩, ⟨X2, x2⟩, ⟨X3, x3⟩⟩ := s2
                          exact ⟨⟨X1, rw_keep x1 (am_uR (by decide)) (am_uR (by decide))⟩, ⟨X2, rw_keep x2 (am_uR (by decide)) (am_uR (by decide))⟩, ⟨X3, rw_keep x3 (am_uR (by decide)) (am_uR (by decide))⟩⟩
                        · cases hk'
                          exact rw_keep k2' (am_uR (by decide)) (am_uR (by decide))
                        · rw [am_uw hs rfl, g2]
                      · rw [if_pos (by omega)] at ax
                        refine w_ic (k := 130) (x := nI 420) rfl (oi_nI 420) ?_
                        refine w_ri (k := 131) rfl rfl rfl rfl ?_
                        exact stay2 _ ax
                    · rw [if_neg (fun q => of_decide_eq_false k4 (by have := q.2; unfold vl at this; rwa [z28] at this))] at ax
                      refine w_ic (k := 125) (x := nI 401) rfl (oi_nI 401) ?_
                      refine w_ri (k := 126) rfl rfl rfl rfl ?_
                      exact stay2 _ ax
                  · rw [if_neg (fun q => of_decide_eq_false k3 q.1)] at ax
                    refine w_ic (k := 88) (x := nI 401) rfl (oi_nI 401) ?_
                    refine w_ri (k := 89) rfl rfl rfl rfl ?_
                    exact stay _ ax
            · rw [if_neg k1] at ax
              refine w_ic (k := 60) (x := nI 438) rfl (oi_nI 438) ?_
              refine w_ri (k := 61) rfl rfl rfl rfl ?_
              exact stay _ ax
  · have c1 := of_decide_eq_false c1
    have ax : acs U rl fr A m = if m = nI 1 then (if 0 < (strg (cts A)).length then (420, none) else (0, none)) else (400, none) := by unfold acs; rw [if_neg c1]
    refine wp_iload (k := 3) rfl rfl ?_
    refine w_ic (k := 4) (x := nI 1) rfl (oi_nI 1) ?_
    refine w_c_eq (k := 5) (t' := 8) rfl rfl (fun k1 => ?_) (fun k1 => ?_)
    · rw [if_pos k1] at ax
      refine wp_aload (k := 8) rfl rfl ?_
      refine w_gi (k := 9) (s := 10) rfl rfl (by first | assumption | rfl) h10 ?_
      refine w_m_le (k := 10) (t' := 13) rfl rfl (by omega) (fun k2 => ?_) (fun k2 => ?_)
      · rw [if_neg (by omega)] at ax
        refine w_ic (k := 13) (x := nI 0) rfl (oi_nI 0) ?_
        refine w_ri (k := 14) rfl rfl rfl rfl ?_
        exact stay _ ax
      · rw [if_pos (by omega)] at ax
        refine w_ic (k := 11) (x := nI 420) rfl (oi_nI 420) ?_
        refine w_goto (k := 12) (t' := 14) rfl rfl ?_
        refine w_ri (k := 14) rfl rfl rfl rfl ?_
        exact stay _ ax
    · rw [if_neg k1] at ax
      refine w_ic (k := 6) (x := nI 400) rfl (oi_nI 400) ?_
      refine w_goto (k := 7) (t' := 14) rfl rfl ?_
      refine w_ri (k := 14) rfl rfl rfl rfl ?_
      exact stay _ ax
end AC
