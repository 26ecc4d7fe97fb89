/-! ===== the answer: the class ===== -/
def hdA (B : List Nat) (m : Int32) (e : Nat) : List Nat := hd20 (uI (tyC m (nI (if e = 0 then 2 else 3)))) (nb B 8 4) (nb B 12 4) (nb B 16 4)
def bod (rl : List Nat) (fr : Int64) (B : List Nat) (m ip port : Int32) (e : Nat) (rel lft : Int32) : List Nat := if e = 0 then told (hdA B m e) m rel lft ip port else errb (hdA B m e) rl fr (strg (cts B)) e
def sgb (U : UR) (rl : List Nat) (sg : Option Nat) (b : List Nat) : List Nat := match sg with
  | none => b
  | some k => at_ b 28 (mcy (kyu U rl k) b)
def fgb (B b : List Nat) : List Nat := if (fgi B (ats B)).isSome then at_ b 32808 (fgr b) else b
/-- what the error is, and the tables then -/
def prf (U : UR) (rl : List Nat) (fr : Int64) (n : Int32) (F : FR) (al : Nat → Option AL) (t : Int64) (B : List Nat) (ip port m : Int32) : PR := if (acs U rl fr B m).1 = 0 then pfm al t n (oI (acs U rl fr B m).2) F B ip port m else ((acs U rl fr B m).1, al, 0, 0)
def ans (U : UR) (rl : List Nat) (fr : Int64) (n : Int32) (F : FR) (al : Nat → Option AL) (t : Int64) (B : List Nat) (T : Nat → Int32) (ip port m : Int32) : (SN × (Nat → Int32)) × (Nat → Option AL) :=
  (((true, ip, port, nI 3478, fgb B (sgb U rl (acs U rl fr B m).2 (bod rl fr B m ip port (prf U rl fr n F al t B ip port m).1 (prf U rl fr n F al t B ip port m).2.2.1 (prf U rl fr n F al t B ip port m).2.2.2))), if (prf U rl fr n F al t B ip port m).1 = 0 then inc T 0 else inc (inc T 0) 4), (prf U rl fr n F al t B ip port m).2.1)
theorem acs_sg {U : UR} {rl : List Nat} {fr : Int64} {B : List Nat} {m : Int32} {k : Nat} (h : (acs U rl fr B m).2 = some k) : k < U.length := by
  unfold acs at h
  (repeat' split at h) <;> first | (cases h; done) | skip
  cases h
  obtain ⟨-, h2, -⟩ := ff_some (‹uf U _ = some _›)
  omega
theorem sl_k {P : List Nat} {I I' : Nat → Nat → Int32} (h : sl I) (f : fc P I I') (h1 : 11 ∉ P ∧ 12 ∉ P ∧ 13 ∉ P ∧ 14 ∉ P ∧ 15 ∉ P ∧ 16 ∉ P) : sl I' := by
  obtain ⟨⟨X1, x1⟩, ⟨X2, x2⟩, ⟨X3, x3⟩⟩ := h
  exact ⟨⟨X1, rw_keep x1 (f _ h1.1) (f _ h1.2.1)⟩, ⟨X2, rw_keep x2 (f _ h1.2.2.1) (f _ h1.2.2.2.1)⟩, ⟨X3, rw_keep x3 (f _ h1.2.2.2.2.1) (f _ h1.2.2.2.2.2)⟩⟩
theorem stc_f {P : List Nat} {I I' : Nat → Nat → Int32} (h : stc I) (f : fc P I I') (h1 : 0 ∉ P ∧ 1 ∉ P ∧ 2 ∉ P) : stc I' := ⟨fun i hi => by rw [f 0 h1.1]; exact h.1 i hi, fun i hi => by rw [f 1 h1.2.1]; exact h.2.1 i hi, fun i hi => by rw [f 2 h1.2.2]; exact h.2.2 i hi⟩
theorem tlc_k {P : List Nat} {I I' : Nat → Nat → Int32} {T : Nat → Int32} (h : tl_c I T) (f : fc P I I') (h1 : 90 ∉ P) : tl_c I' T := fun j hj => by rw [f 90 h1]; exact h j hj
section AN
variable {d N : Nat} {I : Nat → Nat → Int32} {L : Nat → Nat → Int64} {w : Option Nat} {Q : am_Q} {A : List Nat} {al : Nat → Option AL} {t fr : Int64} {ip port n : Int32} {F : FR} {U : UR} {rl : List Nat} {T : Nat → Int32} {s : SN}
theorem c_107t (hA : cT I A) (hl : lr_ I 94 A) (hm : msg A = true) (hp : po_c I (clr s)) (hT : tl_c I T) (hst : stc I) (hs : sl I) (hrl : wd rl) (h3 : L 18 3 = lN (vb 0 rl)) (h4 : L 18 4 = fr) (ht : L 24 1 = t) (h11 : I 91 11 = ip) (h12 : I 91 12 = port) {sg : Option Nat} (hsg : ∀ k, sg = some k → k < 8 ∧ rw_B I 13 14 32 (kyu U rl k)) (h14 : I 91 14 = oI sg) (h10 : I 91 10 = nI (strg (cts A)).length) (hX : ∀ i, i < (strg (cts A)).length → I 92 i = nI ((strg (cts A)).getD i 0)) {m rel lft : Int32} {e : Nat} (he : e = 0 ∨ e ∈ errs) (hk : e = 0 → m = nI 3 ∨ m = nI 4 → ∃ k, k < 8 ∧ w = some (26 + 7 * k) ∧ (m = nI 3 → I (26 + 7 * k) 4 = rel) ∧ (L (26 + 7 * k) 5 - t).toInt32 = lft) (hq : ∀ I', po_c I' (true, ip, port, nI 3478, fgb A (sgb U rl sg (bod rl fr A m ip port e rel lft))) → tl_c I' (if e = 0 then inc T 0 else inc (inc T 0) 4) → sl I' → fc [9, 10, 11, 12, 15, 16, 82, 83, 84, 90] I I' → Q none (am_SH N, I', L, am_RR w)) : am_V 107 am_c107 (d + 5) (am_SH N) Q 20 [some (.ref 91), some (.int m), some (.int (nI e))] [] (am_SH N, I, L, am_RR w) := by
  have hel : e < 600 := by
    rcases he with q | q
    · omega
    · have := errs_lt e q; omega
  have n1 := nb_lt hA.2.2.2 8 4
  have n2 := nb_lt hA.2.2.2 12 4
  have n3 := nb_lt hA.2.2.2 16 4
  -- the end: finger
  have fin2 : ∀ (I5 : Nat → Nat → Int32) (b : List Nat), 20 ≤ b.length → b.length ≤ 100 → fgb A b = fgb A (sgb U rl sg (bod rl fr A m ip port e rel lft)) → po_c I5 (true, ip, port, nI 3478, b) → tl_c I5 (if e = 0 then inc T 0 else inc (inc T 0) 4) → sl I5 → fc [9, 10, 11, 12, 15, 16, 82, 83, 84, 90] I I5 → am_V 107 am_c107 (d + 5) (am_SH N) Q 72 [some (.ref 91), some (.int m), some (.int (nI e))] [] (am_SH N, I5, L, am_RR w) := by
    intro I5 b b1 b2 hb p5 t5 s5 f5
    have l5 : lr_ I5 94 A := lr_k hl (fun j hj => f5 _ (by simp; omega))
    have st5 := stc_f hst f5 (by decide)
    refine wp_aload (k := 72) rfl rfl ?_
    refine w_gr (k := 73) (s := 6) rfl rfl (by first | assumption | rfl) (by first | assumption | rfl) ?_
    refine w_Vi (k := 74) [] rfl rfl rfl (Nat.le_of_ble_eq_true rfl) (by first | assumption | rfl) (Or.inl ⟨rfl, rfl⟩) ?_
    refine (c_48 (lqT N w) l5 hm ?_)
    refine ⟨_, rfl, ?_⟩
    refine w_b_eq (k := 75) (t' := 79) rfl rfl (fun k1 => ?_) (fun k1 => ?_)
    · have e1 : fgb A b = b := by unfold fgb; rw [if_neg (by rw [k1]; decide)]
      rw [← hb, e1] at hq
      refine w_rv (k := 79) rfl rfl rfl rfl ?_
      exact hq I5 p5 t5 s5 f5
    · have e1 : fgb A b = at_ b 32808 (fgr b) := by unfold fgb; rw [if_pos k1]
      rw [← hb, e1] at hq
      obtain ⟨z1, z2, z3, z4, z5⟩ := p5
      refine wp_aload (k := 76) rfl rfl ?_
      refine w_gr (k := 77) (s := 7) rfl rfl (by first | assumption | rfl) (by first | assumption | rfl) ?_
      refine w_Vv (k := 78) [] rfl rfl rfl (Nat.le_of_ble_eq_true rfl) (by first | assumption | rfl) (Or.inl ⟨rfl, rfl⟩) ?_
      refine (c_71 (pnS N w) (rwS N w) z5 (by decide) b1 (by show b.length + 8 ≤ 436; omega) st5 (fun I6 k6 f6 => ⟨rfl, ?_⟩))
      refine w_rv (k := 79) rfl rfl rfl rfl ?_
      have F6 : fc [83, 84] I5 I6 := fc_2 (a := 83) (b := 84) f6 (by decide) (by decide)
      exact hq I6 ⟨by rw [F6 82 (by decide)]; exact z1, by rw [F6 82 (by decide)]; exact z2, by rw [F6 82 (by decide)]; exact z3, by rw [F6 82 (by decide)]; exact z4, k6⟩ (tlc_k t5 F6 (by decide)) (sl_k s5 F6 (by decide)) (fc_t f5 (fc_mo F6 (by decide)))
  -- the signature
  have fin1 : ∀ (I4 : Nat → Nat → Int32), 20 ≤ (bod rl fr A m ip port e rel lft).length → (bod rl fr A m ip port e rel lft).length ≤ 60 → po_c I4 (true, ip, port, nI 3478, bod rl fr A m ip port e rel lft) → tl_c I4 (if e = 0 then inc T 0 else inc (inc T 0) 4) → fc [82, 83, 84, 90] I I4 → am_V 107 am_c107 (d + 5) (am_SH N) Q 65 [some (.ref 91), some (.int m), some (.int (nI e))] [] (am_SH N, I4, L, am_RR w) := by
    intro I4 b1 b2 p4 t4 f4
    have v14 : I4 91 14 = oI sg := by rw [f4 91 (by decide)]; exact h14
    have s4 := sl_k hs f4 (by decide)
    have st4 := stc_f hst f4 (by decide)
    cases hc : sg with
    | none =>
      rw [hc] at v14
      refine wp_aload (k := 65) rfl rfl ?_
      refine w_gi (k := 66) (s := 14) rfl rfl (by first | assumption | rfl) v14 ?_
      refine w_ic (k := 67) (x := (-1)) rfl (by decide) ?_
      refine w_c_eq (k := 68) (t' := 72) rfl rfl (fun zq => ?_) (fun zq => absurd rfl zq)
      exact fin2 I4 _ b1 (by omega) (by rw [hc]; rfl) p4 t4 s4 (fc_mo f4 (by decide))
    | some k =>
      rw [hc] at v14
      obtain ⟨hk8, K4⟩ := hsg k hc
      have K4 : rw_B I4 13 14 32 (kyu U rl k) := rw_keep K4 (f4 13 (by decide)) (f4 14 (by decide))
      obtain ⟨z1, z2, z3, z4, z5⟩ := p4
      have z5 : rw_B I4 83 84 436 (bod rl fr A m ip port e rel lft) := z5
      refine wp_aload (k := 65) rfl rfl ?_
      refine w_gi (k := 66) (s := 14) rfl rfl (by first | assumption | rfl) v14 ?_
      refine w_ic (k := 67) (x := (-1)) rfl (by decide) ?_
      refine w_c_eq (k := 68) (t' := 72) rfl rfl (fun zq => absurd zq (nI_ne1 (by omega))) (fun zq => ?_)
      refine wp_aload (k := 69) rfl rfl ?_
      refine w_gr (k := 70) (s := 7) rfl rfl (by first | assumption | rfl) (by first | assumption | rfl) ?_
      refine w_Vv (k := 71) [] rfl rfl rfl (Nat.le_of_ble_eq_true rfl) (by first | assumption | rfl) (Or.inl ⟨rfl, rfl⟩) ?_
      refine (c_70 (pnS N w) (rwS N w) z5 (by decide) b1 ⟨by omega, by decide⟩ st4 s4 K4 (fun I5 s5 k5 f5 => ⟨rfl, ?_⟩))
      refine fin2 I5 (at_ (bod rl fr A m ip port e rel lft) 28 (mcy (kyu U rl k) (bod rl fr A m ip port e rel lft))) ?_ ?_ (by rw [hc]; rfl) ⟨by rw [f5 82 (by decide)]; exact z1, by rw [f5 82 (by decide)]; exact z2, by rw [f5 82 (by decide)]; exact z3, by rw [f5 82 (by decide)]; exact z4, k5⟩ (tlc_k t4 f5 (by decide)) s5 (fc_t (fc_mo f4 (by decide)) (fc_mo f5 (by decide)))
      · rw [at_len (by omega)]; omega
      · rw [at_len (by omega), mcy_len]; show (bod rl fr A m ip port e rel lft).length + 4 + 32 ≤ 100; omega
  -- the head
  have mid : ∀ (I2 : Nat → Nat → Int32) (rk : Nat), rk = (if e = 0 then 2 else 3) → po_c I2 (true, ip, port, nI 3478, []) → tl_c I2 (inc T 0) → fc [82, 83, 84, 90] I I2 → am_V 107 am_c107 (d + 5) (am_SH N) Q 36 [some (.ref 91), some (.int m), some (.int (nI e))] [.int (nI rk), .int m, .ref 99] (am_SH N, I2, L, am_RR w) := by
    intro I2 rk hrk p2 t2 f2
    have A2 := cT_k hA f2 (by decide) (by decide)
    obtain ⟨z1, z2, z3, z4, z5⟩ := p2
    refine w_Si (k := 36) [_, _] rfl rfl rfl (Nat.le_of_ble_eq_true rfl) (Or.inl ⟨rfl, rfl⟩) ?_
    refine (c_60 ?_)
    refine ⟨_, rfl, ?_⟩
    refine wp_aload (k := 37) rfl rfl ?_
    refine w_gr (k := 38) (s := 0) rfl rfl (by first | assumption | rfl) (by first | assumption | rfl) ?_
    refine w_ic (k := 39) (x := nI 8) rfl (oi_nI 8) ?_
    refine w_ic (k := 40) (x := nI 4) rfl (oi_nI 4) ?_
    refine w_Vl (k := 41) [_, _] rfl rfl rfl (Nat.le_of_ble_eq_true rfl) (by first | assumption | rfl) (Or.inl ⟨rfl, rfl⟩) ?_
    refine (c_90 (rwT N w) A2 (by decide) ?_)
    refine ⟨_, rfl, ?_⟩
    refine wp_l2i (k := 42) rfl ?_
    refine wp_aload (k := 43) rfl rfl ?_
    refine w_gr (k := 44) (s := 0) rfl rfl (by first | assumption | rfl) (by first | assumption | rfl) ?_
    refine w_ic (k := 45) (x := nI 12) rfl (oi_nI 12) ?_
    refine w_ic (k := 46) (x := nI 4) rfl (oi_nI 4) ?_
    refine w_Vl (k := 47) [_, _] rfl rfl rfl (Nat.le_of_ble_eq_true rfl) (by first | assumption | rfl) (Or.inl ⟨rfl, rfl⟩) ?_
    refine (c_90 (rwT N w) A2 (by decide) ?_)
    refine ⟨_, rfl, ?_⟩
    refine wp_l2i (k := 48) rfl ?_
    refine wp_aload (k := 49) rfl rfl ?_
    refine w_gr (k := 50) (s := 0) rfl rfl (by first | assumption | rfl) (by first | assumption | rfl) ?_
    refine w_ic (k := 51) (x := nI 16) rfl (oi_nI 16) ?_
    refine w_ic (k := 52) (x := nI 4) rfl (oi_nI 4) ?_
    refine w_Vl (k := 53) [_, _] rfl rfl rfl (Nat.le_of_ble_eq_true rfl) (by first | assumption | rfl) (Or.inl ⟨rfl, rfl⟩) ?_
    refine (c_90 (rwT N w) A2 (by decide) ?_)
    refine ⟨_, rfl, ?_⟩
    refine wp_l2i (k := 54) rfl ?_
    rw [lN_i, lN_i, lN_i]
    refine w_Vv (k := 55) [_, _, _, _] rfl rfl rfl (Nat.le_of_ble_eq_true rfl) (by first | assumption | rfl) (Or.inl ⟨rfl, rfl⟩) ?_
    refine (c_62 (pnS N w) (rwS N w) z5 (by decide) (fun I3 k3 f3 => ⟨rfl, ?_⟩))
    rw [uI_nI (by omega), uI_nI (by omega), uI_nI (by omega), hrk] at k3
    have F3 : fc [82, 83, 84, 90] I I3 := fc_t f2 (fc_2 (a := 83) (b := 84) f3 (by decide) (by decide))
    have T3 : tl_c I3 (inc T 0) := fun j hj => by rw [f3 90 (by decide) (by decide)]; exact t2 j hj
    have y1 : I3 82 3 = bI true := by rw [f3 82 (by decide) (by decide)]; exact z1
    have y2 : I3 82 4 = ip := by rw [f3 82 (by decide) (by decide)]; exact z2
    have y3 : I3 82 5 = port := by rw [f3 82 (by decide) (by decide)]; exact z3
    have y4 : I3 82 6 = nI 3478 := by rw [f3 82 (by decide) (by decide)]; exact z4
    have hl20 : (hdA A m e).length = 20 := hd20_len _ _ _ _
    have k3 : rw_B I3 83 84 436 (hdA A m e) := k3
    refine wp_iload (k := 56) rfl rfl ?_
    refine w_m_ne (k := 57) (t' := 62) rfl rfl (by omega) (fun k1 => ?_) (fun k1 => ?_)
    · have he' : e ∈ errs := he.resolve_left k1
      have eb : bod rl fr A m ip port e rel lft = errb (hdA A m e) rl fr (strg (cts A)) e := by unfold bod; rw [if_neg k1]
      have el := errb_len (X := strg (cts A)) hl20 hrl.1 (strg_len _) fr e
      rw [← eb] at el
      rw [if_neg k1] at fin1
      refine wp_aload (k := 62) rfl rfl ?_
      refine wp_iload (k := 63) rfl rfl ?_
      refine w_Vv (k := 64) [_] rfl rfl rfl (Nat.le_of_ble_eq_true rfl) (by first | assumption | rfl) (Or.inl ⟨rfl, rfl⟩) ?_
      refine (c_118 k3 hl20 T3 hrl h3 h4 (fun i hi => by rw [F3 92 (by decide)]; exact hX i hi) (strg_len _) (strg_lt _) (by rw [F3 91 (by decide)]; exact h10) he' (fun I4 k4 t4 f4 => ⟨rfl, ?_⟩))
      rw [← eb] at k4
      exact fin1 I4 el.1 el.2 ⟨by rw [f4 82 (by decide)]; exact y1, by rw [f4 82 (by decide)]; exact y2, by rw [f4 82 (by decide)]; exact y3, by rw [f4 82 (by decide)]; exact y4, k4⟩ t4 (fc_t F3 (fc_mo f4 (by decide)))
    · have eb : bod rl fr A m ip port e rel lft = told (hdA A m e) m rel lft ip port := by unfold bod; rw [if_pos k1]
      have el := told_len hl20 m rel lft ip port
      rw [← eb] at el
      rw [if_pos k1] at fin1
      have hk' : m = nI 3 ∨ m = nI 4 → ∃ k, k < 8 ∧ w = some (26 + 7 * k) ∧ (m = nI 3 → I3 (26 + 7 * k) 4 = rel) ∧ (L (26 + 7 * k) 5 - t).toInt32 = lft := fun mm => by
        obtain ⟨k, q1, q2, q3, q4⟩ := hk k1 mm
        exact ⟨k, q1, q2, fun m3 => by rw [F3 _ (by simp; omega)]; exact q3 m3, q4⟩
      refine wp_aload (k := 58) rfl rfl ?_
      refine wp_iload (k := 59) rfl rfl ?_
      refine w_Vv (k := 60) [_] rfl rfl rfl (Nat.le_of_ble_eq_true rfl) (by first | assumption | rfl) (Or.inl ⟨rfl, rfl⟩) ?_
      refine (c_117 (ip := ip) (port := port) k3 hl20 ht (by rw [F3 91 (by decide)]; exact h11) (by rw [F3 91 (by decide)]; exact h12) hk' (fun I4 k4 f4 => ⟨rfl, ?_⟩))
      refine w_goto (k := 61) (t' := 65) rfl rfl ?_
      rw [← eb] at k4
      exact fin1 I4 el.1 el.2 ⟨by rw [f4 82 (by decide)]; exact y1, by rw [f4 82 (by decide)]; exact y2, by rw [f4 82 (by decide)]; exact y3, by rw [f4 82 (by decide)]; exact y4, k4⟩ (tlc_k T3 f4 (by decide)) (fc_t F3 (fc_mo f4 (by decide)))
  refine wp_aload (k := 20) rfl rfl ?_
  refine w_gr (k := 21) (s := 4) rfl rfl (by first | assumption | rfl) (by first | assumption | rfl) ?_
  refine wp_aload (k := 22) rfl rfl ?_
  refine w_gi (k := 23) (s := 11) rfl rfl (by first | assumption | rfl) h11 ?_
  refine wp_aload (k := 24) rfl rfl ?_
  refine w_gi (k := 25) (s := 12) rfl rfl (by first | assumption | rfl) h12 ?_
  refine w_ic (k := 26) (x := nI 3478) rfl (oi_nI 3478) ?_
  refine w_Vv (k := 27) [_, _, _] rfl rfl rfl (Nat.le_of_ble_eq_true rfl) (by first | assumption | rfl) (Or.inl ⟨rfl, rfl⟩) ?_
  refine (c_76 hp hT (fun I2 p2 t2 f2 => ⟨rfl, ?_⟩))
  refine wp_aload (k := 28) rfl rfl ?_
  refine w_gr (k := 29) (s := 7) rfl rfl (by first | assumption | rfl) (by first | assumption | rfl) ?_
  refine wp_iload (k := 30) rfl rfl ?_
  refine wp_iload (k := 31) rfl rfl ?_
  refine w_m_ne (k := 32) (t' := 35) rfl rfl (by omega) (fun k1 => ?_) (fun k1 => ?_)
  · refine w_ic (k := 35) (x := nI 3) rfl (oi_nI 3) ?_
    exact mid I2 3 (by rw [if_neg k1]) p2 t2 (fc_mo f2 (by decide))
  · refine w_ic (k := 33) (x := nI 2) rfl (oi_nI 2) ?_
    refine w_goto (k := 34) (t' := 36) rfl rfl ?_
    exact mid I2 2 (by rw [if_pos k1]) p2 t2 (fc_mo f2 (by decide))
theorem c_107 (h : tbc I L al) (hA : cT I A) (hl : lr_ I 94 A) (hm : msg A = true) (hp : po_c I (clr s)) (hT : tl_c I T) (hst : stc I) (hs : sl I) (hrl : wd rl) (h3 : L 18 3 = lN (vb 0 rl)) (h4 : L 18 4 = fr) (ht : L 24 1 = t) (hn : I 18 5 = n) (hF : fn_c I F) (hok : fn_ok F) (huk : us_ok U) (hu : us_c I L U) (h11 : I 91 11 = ip) (h12 : I 91 12 = port) (hw : w = pq (clf al ip port)) {m : Int32} (hq : ∀ I' L' w', tbc I' L' (ans U rl fr n F al t A T ip port m).2 → po_c I' (ans U rl fr n F al t A T ip port m).1.1 → tl_c I' (ans U rl fr n F al t A T ip port m).1.2 → sl I' → (∀ x, x < 9 ∨ (16 < x ∧ x < 26) ∨ (84 < x ∧ x < 90) ∨ 93 < x → I' x = I x) → (∀ x, x < 26 ∨ 81 < x → L' x = L x) → Q none (am_SH N, I', L', am_RR w')) : am_call (d + 6) 107 [.ref 91, .int m] (am_SH N, I, L, am_RR w) Q := by
  have hst8 := strg_len (cts A)
  have ex : ans U rl fr n F al t A T ip port m = (((true, ip, port, nI 3478, fgb A (sgb U rl (acs U rl fr A m).2 (bod rl fr A m ip port (prf U rl fr n F al t A ip port m).1 (prf U rl fr n F al t A ip port m).2.2.1 (prf U rl fr n F al t A ip port m).2.2.2))), if (prf U rl fr n F al t A ip port m).1 = 0 then inc T 0 else inc (inc T 0) 4), (prf U rl fr n F al t A ip port m).2.1) := rfl
  rw [ex] at hq
  clear ex
  have px : prf U rl fr n F al t A ip port m = if (acs U rl fr A m).1 = 0 then pfm al t n (oI (acs U rl fr A m).2) F A ip port m else ((acs U rl fr A m).1, al, 0, 0) := rfl
  have hae := acs_e U rl fr A m
  have ham := acs_m (U := U) (rl := rl) (fr := fr) (B := A) (m := m)
  have hsg8 : ∀ k, (acs U rl fr A m).2 = some k → k < 8 := fun k hk => Nat.lt_of_lt_of_le (acs_sg hk) huk.1
  generalize prf U rl fr n F al t A ip port m = pr at *
  refine am_enter (ls := [some _, some _, none]) (cs := am_c107) rfl rfl (Nat.le_of_ble_eq_true rfl) rfl ?_
  refine wp_aload (k := 0) rfl rfl ?_
  refine w_ic (k := 1) (x := (-1)) rfl (by decide) ?_
  refine w_pi (k := 2) (s := 14) rfl rfl (by first | assumption | rfl) ?_
  refine wp_aload (k := 3) rfl rfl ?_
  refine wp_aload (k := 4) rfl rfl ?_
  refine w_gr (k := 5) (s := 6) rfl rfl (by first | assumption | rfl) (by first | assumption | rfl) ?_
  refine wp_aload (k := 6) rfl rfl ?_
  refine w_gr (k := 7) (s := 8) rfl rfl (by first | assumption | rfl) (by first | assumption | rfl) ?_
  refine w_Vi (k := 8) [_] rfl rfl rfl (Nat.le_of_ble_eq_true rfl) (by first | assumption | rfl) (Or.inl ⟨rfl, rfl⟩) ?_
  refine (c_50 (lqT N w) hA.2.2.2 (lr_k hl (fun j hj => am_uR (by omega))) hm rfl (by decide) (by decide) (fun I1 k1 f1 => ⟨_, rfl, ?_⟩))
  refine w_pi (k := 9) (s := 10) rfl rfl (by first | assumption | rfl) ?_
  generalize hI2 : am_u I1 91 10 (nI (strg (cts A)).length) = I2
  have f2 : fc [91, 92] I I2 := fun x hx => by rw [← hI2, am_uR (by simp at hx; omega), f1 x (by simp at hx; omega), am_uR (by simp at hx; omega)]
  have g2 : ∀ s, s ≠ 10 → s ≠ 14 → I2 91 s = I 91 s := fun s e1 e2 => by rw [← hI2, am_uw e1 rfl, f1 91 (by decide), am_uw e2 rfl]
  have v10 : I2 91 10 = nI (strg (cts A)).length := by rw [← hI2, am_us]
  have v14 : I2 91 14 = -1 := by rw [← hI2, am_uw (by decide) rfl, f1 91 (by decide), am_us]
  have vX : ∀ i, i < (strg (cts A)).length → I2 92 i = nI ((strg (cts A)).getD i 0) := fun i hi => by rw [← hI2, am_uR (by decide)]; exact k1 i hi
  have A2 := cT_k hA f2 (by decide) (by decide)
  have l2 : lr_ I2 94 A := lr_k hl (fun j hj => f2 _ (by simp; omega))
  have u2 : us_c I2 L U := ⟨by rw [f2 18 (by decide)]; exact hu.1, hu.2⟩
  refine wp_aload (k := 10) rfl rfl ?_
  refine wp_iload (k := 11) rfl rfl ?_
  refine w_Vi (k := 12) [_] rfl rfl rfl (Nat.le_of_ble_eq_true rfl) (by first | assumption | rfl) (Or.inl ⟨rfl, rfl⟩) ?_
  refine (c_109 A2 l2 hm huk u2 hrl h3 h4 (stc_f hst f2 (by decide)) (sl_k hs f2 (by decide)) v10 v14 (fun I3 s3 e3 K3 f3 g3 => ⟨_, rfl, ?_⟩))
  refine wp_istore (k := 13) rfl rfl ?_
  have F3 : fc [9, 10, 11, 12, 13, 14, 15, 16, 91, 92] I I3 := fc_t (fc_mo f2 (by decide)) (fc_mo f3 (by decide))
  have A3 := cT_k A2 f3 (by decide) (by decide)
  have l3 : lr_ I3 94 A := lr_k l2 (fun j hj => f3 _ (by simp; omega))
  have st3 := stc_f hst F3 (by decide)
  have b3 : tbc I3 L al := tbc_k h (fun x _ _ => F3 x (by simp; omega)) (fun _ _ _ => rfl)
  have p3 := po_k hp F3 (by decide) (by decide) (by decide)
  have t3 := tlc_k hT F3 (by decide)
  have w10 : I3 91 10 = nI (strg (cts A)).length := by rw [g3 _ (by decide)]; exact v10
  have w11 : I3 91 11 = ip := by rw [g3 _ (by decide), g2 _ (by decide) (by decide)]; exact h11
  have w12 : I3 91 12 = port := by rw [g3 _ (by decide), g2 _ (by decide) (by decide)]; exact h12
  have wX : ∀ i, i < (strg (cts A)).length → I3 92 i = nI ((strg (cts A)).getD i 0) := fun i hi => by rw [f3 92 (by decide)]; exact vX i hi
  have hae' : (acs U rl fr A m).1 < 600 := by
    rcases hae with q | q
    · omega
    · have := errs_lt _ q; omega
  refine wp_iload (k := 14) rfl rfl ?_
  refine w_m_ne (k := 15) (t' := 20) rfl rfl (by omega) (fun k1 => ?_) (fun k1 => ?_)
  · rw [if_neg k1] at px
    rw [px] at hq
    simp only [if_neg k1] at hq
    refine c_107t A3 l3 hm p3 t3 st3 s3 hrl h3 h4 ht w11 w12 (fun k hk => ⟨hsg8 k hk, K3 k hk⟩) e3 w10 wX hae (rel := 0) (lft := 0) (fun z => absurd z k1) (fun I4 p4 t4 s4 f4 => ?_)
    rw [if_neg k1] at t4
    exact hq I4 L w (tbc_k b3 (fun x _ _ => f4 x (by simp; omega)) (fun _ _ _ => rfl)) p4 t4 s4 (fun x hx => by rw [f4 x (by simp; omega), F3 x (by simp; omega)]) (fun _ _ => rfl)
  · rw [if_pos k1] at px
    have n3 : I3 18 5 = n := by rw [F3 18 (by decide)]; exact hn
    have F3' : fn_c I3 F := ⟨by rw [F3 21 (by decide)]; exact hF.1, fun i hi => by rw [F3 22 (by decide), F3 23 (by decide)]; exact hF.2 i hi⟩
    have hpe := pfm_e al t n (oI (acs U rl fr A m).2) F A ip port m
    refine wp_aload (k := 16) rfl rfl ?_
    refine wp_iload (k := 17) rfl rfl ?_
    refine w_Vi (k := 18) [_] rfl rfl rfl (Nat.le_of_ble_eq_true rfl) (by first | assumption | rfl) (Or.inl ⟨rfl, rfl⟩) ?_
    refine (c_111 b3 ht A3 l3 hm n3 F3' hok w11 w12 e3 hw (ham k1) (fun I4 L4 w4 b4 q4 f4 g4 => ⟨_, rfl, ?_⟩))
    refine wp_istore (k := 19) rfl rfl ?_
    rw [← px] at b4 q4 hpe ⊢
    refine c_107t (T := T) (fr := fr) (ip := ip) (port := port) (t := t) (U := U) (rl := rl) (rw_keep A3 (f4 5 (by omega)) (f4 6 (by omega))) (lr_k l3 (fun j hj => f4 _ (by omega))) hm (s := s) ?_ (fun j hj => by rw [f4 90 (by omega)]; exact t3 j hj) (stc_k st3 (f4 0 (by omega)) (f4 1 (by omega)) (f4 2 (by omega))) ?_ hrl (by rw [g4 18 (by omega)]; exact h3) (by rw [g4 18 (by omega)]; exact h4) (by rw [g4 24 (by omega)]; exact ht) (by rw [f4 91 (by omega)]; exact w11) (by rw [f4 91 (by omega)]; exact w12) (fun k hk => ⟨hsg8 k hk, rw_keep (K3 k hk) (f4 13 (by omega)) (f4 14 (by omega))⟩) (by rw [f4 91 (by omega)]; exact e3) (by rw [f4 91 (by omega)]; exact w10) (fun i hi => by rw [f4 92 (by omega)]; exact wX i hi) hpe q4 (fun I5 p5 t5 s5 f5 => ?_)
    · obtain ⟨z1, z2, z3, z4, z5⟩ := p3
      exact ⟨by rw [f4 82 (by omega)]; exact z1, by rw [f4 82 (by omega)]; exact z2, by rw [f4 82 (by omega)]; exact z3, by rw [f4 82 (by omega)]; exact z4, rw_keep z5 (f4 83 (by omega)) (f4 84 (by omega))⟩
    · obtain ⟨⟨X1, x1⟩, ⟨X2, x2⟩, ⟨X3, x3⟩⟩ := s3
      exact ⟨⟨X1, rw_keep x1 (f4 _ (by omega)) (f4 _ (by omega))⟩, ⟨X2, rw_keep x2 (f4 _ (by omega)) (f4 _ (by omega))⟩, ⟨X3, rw_keep x3 (f4 _ (by omega)) (f4 _ (by omega))⟩⟩
    · exact hq I5 L4 w4 (tbc_k b4 (fun x _ _ => f5 x (by simp; omega)) (fun _ _ _ => rfl)) p5 t5 s5 (fun x hx => by rw [f5 x (by simp; omega), f4 x (by omega), F3 x (by simp; omega)]) (fun x hx => g4 x hx)
end AN
